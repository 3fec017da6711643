/-! ===== pure: by whom a round is not quiet; the round with all that is known of it ===== -/
theorem round_cause {C G D : Nat} {pride speed payer cost : A1} {hid rnd rnd1 lin b : Int32} : ∀ (m j n1 : Nat), j + m = G → m < n1 → ∀ (sit tak ser ovr hst pia : Int32) (coins chairOf tired hosted owed paid s : A1), RH C G D pride speed payer cost s → RF C G D sit tak ser hid rnd ovr hst pia coins chairOf tired hosted owed paid s → ovr = b →
    ∀ (r sit' tak' ser' rnd' ovr' hst' pia' : Int32) (coins' chairOf' tired' hosted' owed' paid' : A1),
      lX1_goRound_17 hid (nI C) (nI G) (nI D) pride speed payer cost n1 sit tak ser rnd1 ovr hst pia coins chairOf tired hosted owed paid lin b (nI j) = some (r, sit', tak', ser', rnd', ovr', hst', pia', coins', chairOf', tired', hosted', owed', paid') →
      (r = 0 ∧ sit' = sit) ∨ ∃ g c v, j ≤ g ∧ g < G ∧ bt sit g = false ∧ nI g ≠ lin ∧ chairOf g = nI c ∧ c < C ∧ speed g = nI v ∧ v ≤ 9 ∧ bt tak ((c + v) % C) = false ∧ bt hid ((c + v) % C) = false := by
  intro m
  induction m with
  | zero =>
    intro j n1 hj hn1 sit tak ser ovr hst pia coins chairOf tired hosted owed paid s hH hF hfl r sit' tak' ser' rnd' ovr' hst' pia' coins' chairOf' tired' hosted' owed' paid' he
    obtain ⟨n1, rfl⟩ : ∃ k, n1 = k + 1 := ⟨n1 - 1, by omega⟩
    have e : j = G := by omega
    subst e
    obtain ⟨⟨hC2, hC9, hG, hGC, hD⟩, ⟨e0, e1, e2⟩, -, -⟩ := id hH
    rw [lX1_goRound_17, if_pos (nI_le (Nat.le_refl _) (by omega)), if_pos hfl] at he
    have he := Option.some.inj he
    simp only [Prod.mk.injEq] at he
    exact Or.inl ⟨he.1.symm, he.2.1.symm⟩
  | succ m ih =>
    intro j n1 hj hn1 sit tak ser ovr hst pia coins chairOf tired hosted owed paid s hH hF hfl r sit' tak' ser' rnd' ovr' hst' pia' coins' chairOf' tired' hosted' owed' paid' he
    obtain ⟨n1, rfl⟩ : ∃ k, n1 = k + 1 := ⟨n1 - 1, by omega⟩
    obtain ⟨⟨hC2, hC9, hG, hGC, hD⟩, ⟨e0, e1, e2⟩, hg1, -⟩ := id hH
    have hjG : j < G := by omega
    subst hfl
    rw [lX1_goRound_17, if_neg (nI_ge (by omega) (by omega)), if_pos (show ovr = ovr from rfl), seated_eq (by omega), bind_eq] at he
    obtain ⟨⟨⟨e44, e45, e46, e47, e48, e63⟩, eg⟩, ⟨s1, s2, s3, s4, s5, hT⟩, m1, m2⟩ := id hF
    by_cases hb : bt sit j = true
    · rw [if_pos hb, if_neg (by decide), nI_1] at he
      rcases ih (j + 1) n1 (by omega) (by omega) sit tak ser ovr hst pia coins chairOf tired hosted owed paid s hH hF rfl _ _ _ _ _ _ _ _ _ _ _ _ _ _ he with h | ⟨g, c, v, h1, h2⟩
      · exact Or.inl h
      · exact Or.inr ⟨g, c, v, by omega, h2⟩
    · rw [if_neg hb, if_pos rfl] at he
      obtain ⟨p1, p2, ⟨pr, hpr, epr⟩, ⟨v, hv, ev⟩, -⟩ := hg1 j hjG
      obtain ⟨c, hc, ec⟩ := s5 j hjG
      obtain ⟨⟨t, ht, et⟩, -⟩ := m1 j hjG
      have hb' : bt sit j = false := Bool.eq_false_iff.mpr hb
      have hF2 := RF_move hG hF hjG hb' (show (c + v) % C < C from Nat.mod_lt _ (by omega)) (tup_le (t := t))
      have hH2 : RH C G D pride speed payer cost (upd (upd s (56 + j) (nI ((c + v) % C))) (64 + j) (nI (tup1 t))) := hH.congr (fun i hi => by rw [pk_un (by omega), pk_un (by omega)])
      simp only [onC hC2 hC9 (show j < 7 by omega) hc hv ec ev, bind_eq, gI_ok (show j < 7 by omega) (show 7 ≤ 1000 by omega), ix0 (show j < 1000 by omega), nmv_eq, et, tup_eq ht, pk_us] at he
      have still : lX1_goRound_17 hid (nI C) (nI G) (nI D) pride speed payer cost n1 sit tak ser rnd1 ovr hst pia coins (upd chairOf j (nI ((c + v) % C))) (upd tired j (nI (tup1 t))) hosted owed paid lin ovr (nI j + 1) = some (r, sit', tak', ser', rnd', ovr', hst', pia', coins', chairOf', tired', hosted', owed', paid') → (r = 0 ∧ sit' = sit) ∨ ∃ g c v, j ≤ g ∧ g < G ∧ bt sit g = false ∧ nI g ≠ lin ∧ chairOf g = nI c ∧ c < C ∧ speed g = nI v ∧ v ≤ 9 ∧ bt tak ((c + v) % C) = false ∧ bt hid ((c + v) % C) = false := by
        intro he
        rw [nI_1] at he
        rcases ih (j + 1) n1 (by omega) (by omega) sit tak ser ovr hst pia coins _ _ hosted owed paid _ hH2 hF2 rfl _ _ _ _ _ _ _ _ _ _ _ _ _ _ he with h | ⟨g, c3, v3, h1, h2, h3, h4, h5, h6⟩
        · exact Or.inl h
        · rw [pk_un (by omega)] at h5
          exact Or.inr ⟨g, c3, v3, by omega, h2, h3, h4, h5, h6⟩
      by_cases hl : nI j = lin
      · rw [if_pos hl] at he
        exact still he
      · rw [if_neg hl] at he
        by_cases hw : nI (tup1 t) < pride j
        · rw [if_pos hw] at he
          exact still he
        · rw [if_neg hw] at he
          obtain ⟨c2, hc2, ec2, hwC, hwM⟩ := sim_why hH2 hF2 hjG
          have ecc : (c + v) % C = c2 := by
            rw [pk_us] at ec2
            exact (nI_eq (by have := Nat.mod_lt (c + v) (show C > 0 by omega); omega) (by omega)).mp ec2
          rw [hwC, bind_eq] at he
          by_cases h0 : whyN sit tak hid j c2 = 0
          · obtain ⟨z1, z2, z3⟩ := whyN_0 h0
            exact Or.inr ⟨j, c, v, Nat.le_refl j, hjG, hb', hl, ec, hc, ev, hv, by rw [ecc]; exact z2, by rw [ecc]; exact z3⟩
          · rw [if_neg h0] at he
            exact still he
/-- a round, class and reference, with what is known of it -/
theorem sim_round2 {C G D : Nat} {pride speed payer cost s : A1} (hH : RH C G D pride speed payer cost s) {sit tak ser hid rnd ovr hst pia : Int32} {coins chairOf tired hosted owed paid : A1} (hF : RF C G D sit tak ser hid rnd ovr hst pia coins chairOf tired hosted owed paid s) (lin : Int32) :
    ∃ (r sit' tak' ser' ovr' hst' pia' : Int32) (coins' chairOf' tired' hosted' owed' paid' s' : A1),
      fX1_goRound hid (nI C) (nI G) (nI D) pride speed payer cost sit tak ser rnd ovr hst pia coins chairOf tired hosted owed paid lin = some (r, sit', tak', ser', rnd + 1, ovr', hst', pia', coins', chairOf', tired', hosted', owed', paid') ∧
      fX12_round s lin = some (r, s') ∧ RH C G D pride speed payer cost s' ∧ RF C G D sit' tak' ser' hid (rnd + 1) ovr' hst' pia' coins' chairOf' tired' hosted' owed' paid' s' ∧ (∀ i, (i < 44 ∨ 92 ≤ i) → s' i = s i) ∧
      ((r = 1 ∧ ovr' = ovr + 1 ∧ ∃ w, w < G ∧ hst' = nI w ∧ bt sit w = false) ∨
       (r = 0 ∧ ovr' = ovr ∧ hst' = hst ∧ (∀ i, i < G → bt sit i = true → bt sit' i = true) ∧ (sit' = sit → tak' = tak ∧ ∀ g, g < G → (bt sit g = true → chairOf' g = chairOf g ∧ tired' g = tired g) ∧ (bt sit g = false → ∀ c v t, chairOf g = nI c → speed g = nI v → tired g = nI t → c < C → v ≤ 9 → t ≤ 99 → chairOf' g = nI ((c + v) % C) ∧ tired' g = nI (tup1 t) ∧ (nI g ≠ lin → ¬ nI (tup1 t) < pride g → bt tak ((c + v) % C) = true ∨ bt hid ((c + v) % C) = true))))) ∧
      ((r = 0 ∧ sit' = sit) ∨ ∃ g c v, g < G ∧ bt sit g = false ∧ nI g ≠ lin ∧ chairOf g = nI c ∧ c < C ∧ speed g = nI v ∧ v ≤ 9 ∧ bt tak ((c + v) % C) = false ∧ bt hid ((c + v) % C) = false) := by
  have hG := hH.1
  obtain ⟨r, a1, a2, a3, a4, a5, a6, a7, a8, a9, a10, a11, a12, s', q1, q2, q3, q4, q5⟩ := sim_round hH hF lin
  obtain ⟨r', b1, b2, b3, b4, b5, b6, b7, b8, b9, b10, b11, b12, u1, u2, u3, u4⟩ := round_more (rnd1 := rnd + 1) (lin := lin) (b := ovr) G 0 5000 (by omega) (by omega) 0 sit tak ser ovr hst pia coins chairOf tired hosted owed paid s hH hF (Or.inl ⟨rfl, rfl⟩)
  have e : some (r, a1, a2, a3, rnd + 1, a4, a5, a6, a7, a8, a9, a10, a11, a12) = some (r', b1, b2, b3, rnd + 1, b4, b5, b6, b7, b8, b9, b10, b11, b12) := q1.symm.trans u1
  have e := Option.some.inj e
  simp only [Prod.mk.injEq] at e
  obtain ⟨rfl, rfl, rfl, rfl, -, rfl, rfl, rfl, rfl, rfl, rfl, rfl, rfl, rfl⟩ := e
  have u5 := round_cause (rnd1 := rnd + 1) (lin := lin) (b := ovr) G 0 5000 (by omega) (by omega) sit tak ser ovr hst pia coins chairOf tired hosted owed paid s hH hF rfl _ _ _ _ _ _ _ _ _ _ _ _ _ _ u1
  refine ⟨r, a1, a2, a3, a4, a5, a6, a7, a8, a9, a10, a11, a12, s', q1, q2, hH.congr (fun i hi => q4 i (Or.inl hi)), q3, q4, ?_, ?_⟩
  · rcases q5 with ⟨rfl, h2⟩ | ⟨rfl, h2⟩
    · right
      obtain ⟨⟨x1, x2⟩, x3⟩ := u4 rfl rfl
      refine ⟨rfl, h2, x1, x2, fun z => ⟨(x3 z).1, fun g hg => ⟨fun h => ((x3 z).2 g hg).1 (Or.inr h), fun h => ((x3 z).2 g hg).2 (Nat.zero_le g) h⟩⟩⟩
    · left
      exact ⟨rfl, h2, u3 rfl rfl⟩
  · rcases u5 with h | ⟨g, c, v, -, h⟩
    · exact Or.inl h
    · exact Or.inr ⟨g, c, v, h⟩
