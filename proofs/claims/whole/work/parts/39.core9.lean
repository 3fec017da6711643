/-! ===== pure: what is known of a round in which nobody sat, and of the host ===== -/
theorem whyN_1 {sit tak hid : Int32} {g c : Nat} (h : ¬ whyN sit tak hid g c = 0) (hb : bt sit g = false) : bt tak c = true ∨ bt hid c = true := by
  unfold whyN at h
  rw [if_neg (by rw [hb]; decide)] at h
  by_cases h2 : bt tak c = true
  · exact Or.inl h2
  · rw [if_neg h2] at h
    by_cases h3 : bt hid c = true
    · exact Or.inr h3
    · rw [if_neg h3] at h
      exact absurd rfl h
theorem round_more {C G D : Nat} {pride speed payer cost : A1} {hid rnd rnd1 lin b : Int32} : ∀ (m j n1 : Nat), j + m = G → m < n1 → ∀ (fl sit tak ser ovr hst pia : Int32) (coins chairOf tired hosted owed paid s : A1), RH C G D pride speed payer cost s → RF C G D sit tak ser hid rnd ovr hst pia coins chairOf tired hosted owed paid s → ((fl = 0 ∧ ovr = b) ∨ (fl = 1 ∧ ovr = b + 1)) →
    ∃ (r sit' tak' ser' ovr' hst' pia' : Int32) (coins' chairOf' tired' hosted' owed' paid' : A1),
      lX1_goRound_17 hid (nI C) (nI G) (nI D) pride speed payer cost n1 sit tak ser rnd1 ovr hst pia coins chairOf tired hosted owed paid lin b (nI j) = some (r, sit', tak', ser', rnd1, ovr', hst', pia', coins', chairOf', tired', hosted', owed', paid') ∧
      ((fl = 1 → r = 1 ∧ hst' = hst) ∧ (fl = 0 → r = 1 → ∃ w, w < G ∧ hst' = nI w ∧ bt sit w = false) ∧ (fl = 0 → r = 0 → (hst' = hst ∧ ∀ i, i < G → bt sit i = true → bt sit' i = true) ∧ (sit' = sit → tak' = tak ∧ ∀ g, g < G → ((g < j ∨ bt sit g = true) → chairOf' g = chairOf g ∧ tired' g = tired g) ∧ (j ≤ g → bt sit g = false → ∀ c v t, chairOf g = nI c → speed g = nI v → tired g = nI t → c < C → v ≤ 9 → t ≤ 99 → chairOf' g = nI ((c + v) % C) ∧ tired' g = nI (tup1 t) ∧ (nI g ≠ lin → ¬ nI (tup1 t) < pride g → bt tak ((c + v) % C) = true ∨ bt hid ((c + v) % C) = true))))) := by
  intro m
  induction m with
  | zero =>
    intro j n1 hj hn1 fl sit tak ser ovr hst pia coins chairOf tired hosted owed paid s hH hF hfl
    obtain ⟨n1, rfl⟩ : ∃ k, n1 = k + 1 := ⟨n1 - 1, by omega⟩
    have e : j = G := by omega
    subst e
    obtain ⟨⟨hC2, hC9, hG, hGC, hD⟩, ⟨e0, e1, e2⟩, -, -⟩ := id hH
    refine ⟨fl, sit, tak, ser, ovr, hst, pia, coins, chairOf, tired, hosted, owed, paid, ?_, fun h => ⟨h, rfl⟩, fun h h2 => absurd (h.symm.trans h2) (by decide), fun _ _ => ⟨⟨rfl, fun _ _ h => h⟩, fun _ => ⟨rfl, fun g hg => ⟨fun _ => ⟨rfl, rfl⟩, fun h => absurd h (by omega)⟩⟩⟩⟩
    rw [lX1_goRound_17, if_pos (nI_le (Nat.le_refl _) (by omega))]
    rcases hfl with ⟨rfl, rfl⟩ | ⟨rfl, rfl⟩
    · rw [if_pos rfl]
    · rw [if_neg (ne_succ b)]
  | succ m ih =>
    intro j n1 hj hn1 fl sit tak ser ovr hst pia coins chairOf tired hosted owed paid s hH hF hfl
    obtain ⟨n1, rfl⟩ : ∃ k, n1 = k + 1 := ⟨n1 - 1, by omega⟩
    obtain ⟨⟨hC2, hC9, hG, hGC, hD⟩, ⟨e0, e1, e2⟩, hg1, -⟩ := id hH
    have hjG : j < G := by omega
    rw [lX1_goRound_17, if_neg (nI_ge (by omega) (by omega))]
    rcases hfl with ⟨hf, rfl⟩ | ⟨hf, rfl⟩
    · rw [if_pos (show ovr = ovr from rfl), seated_eq (by omega), bind_eq]
      obtain ⟨⟨⟨e44, e45, e46, e47, e48, e63⟩, eg⟩, ⟨s1, s2, s3, s4, s5, hT⟩, m1, m2⟩ := id hF
      by_cases hb : bt sit j = true
      · rw [if_pos hb, if_neg (by decide), nI_1]
        obtain ⟨r, sit', tak', ser', ovr', hst', pia', coins', chairOf', tired', hosted', owed', paid', q1, q2, q3, q4⟩ := ih (j + 1) n1 (by omega) (by omega) 0 sit tak ser ovr hst pia coins chairOf tired hosted owed paid s hH hF (Or.inl ⟨rfl, rfl⟩)
        refine ⟨r, sit', tak', ser', ovr', hst', pia', coins', chairOf', tired', hosted', owed', paid', q1, fun h => absurd (hf.symm.trans h) (by decide), fun _ => q3 rfl, fun _ y => ⟨(q4 rfl y).1, fun z => ⟨((q4 rfl y).2 z).1, fun g hg => ⟨fun h => (((q4 rfl y).2 z).2 g hg).1 (by rcases h with h | h; exact Or.inl (by omega); exact Or.inr h), fun h h2 => (((q4 rfl y).2 z).2 g hg).2 (by rcases Nat.lt_or_ge j g with h3 | h3; exact h3; exact absurd (show g = j by omega) (fun e => by rw [e, hb] at h2; cases h2)) h2⟩⟩⟩⟩
      · rw [if_neg hb, if_pos rfl]
        obtain ⟨p1, p2, ⟨pr, hpr, epr⟩, ⟨v, hv, ev⟩, -⟩ := hg1 j hjG
        obtain ⟨c, hc, ec⟩ := s5 j hjG
        obtain ⟨⟨t, ht, et⟩, -⟩ := m1 j hjG
        have hb' : bt sit j = false := Bool.eq_false_iff.mpr hb
        have hF2 := RF_move hG hF hjG hb' (show (c + v) % C < C from Nat.mod_lt _ (by omega)) (tup_le (t := t))
        have hH2 : RH C G D pride speed payer cost (upd (upd s (56 + j) (nI ((c + v) % C))) (64 + j) (nI (tup1 t))) := hH.congr (fun i hi => by rw [pk_un (by omega), pk_un (by omega)])
        simp only [onC hC2 hC9 (show j < 7 by omega) hc hv ec ev, bind_eq, gI_ok (show j < 7 by omega) (show 7 ≤ 1000 by omega), ix0 (show j < 1000 by omega), nmv_eq, et, tup_eq ht, pk_us]
        -- nobody sits here: on to the next
        have still : (nI j ≠ lin → ¬ nI (tup1 t) < pride j → bt tak ((c + v) % C) = true ∨ bt hid ((c + v) % C) = true) →
            ∃ (r sit' tak' ser' ovr' hst' pia' : Int32) (coins' chairOf' tired' hosted' owed' paid' : A1),
              lX1_goRound_17 hid (nI C) (nI G) (nI D) pride speed payer cost n1 sit tak ser rnd1 ovr hst pia coins (upd chairOf j (nI ((c + v) % C))) (upd tired j (nI (tup1 t))) hosted owed paid lin ovr (nI j + 1) = some (r, sit', tak', ser', rnd1, ovr', hst', pia', coins', chairOf', tired', hosted', owed', paid') ∧
              ((fl = 1 → r = 1 ∧ hst' = hst) ∧ (fl = 0 → r = 1 → ∃ w, w < G ∧ hst' = nI w ∧ bt sit w = false) ∧ (fl = 0 → r = 0 → (hst' = hst ∧ ∀ i, i < G → bt sit i = true → bt sit' i = true) ∧ (sit' = sit → tak' = tak ∧ ∀ g, g < G → ((g < j ∨ bt sit g = true) → chairOf' g = chairOf g ∧ tired' g = tired g) ∧ (j ≤ g → bt sit g = false → ∀ c v t, chairOf g = nI c → speed g = nI v → tired g = nI t → c < C → v ≤ 9 → t ≤ 99 → chairOf' g = nI ((c + v) % C) ∧ tired' g = nI (tup1 t) ∧ (nI g ≠ lin → ¬ nI (tup1 t) < pride g → bt tak ((c + v) % C) = true ∨ bt hid ((c + v) % C) = true))))) := by
          intro hbl
          rw [nI_1]
          obtain ⟨r, sit', tak', ser', ovr', hst', pia', coins', chairOf', tired', hosted', owed', paid', q1, q2, q3, q4⟩ := ih (j + 1) n1 (by omega) (by omega) 0 sit tak ser ovr hst pia coins _ _ hosted owed paid _ hH2 hF2 (Or.inl ⟨rfl, rfl⟩)
          refine ⟨r, sit', tak', ser', ovr', hst', pia', coins', chairOf', tired', hosted', owed', paid', q1, fun h => absurd (hf.symm.trans h) (by decide), fun _ => q3 rfl, fun _ y => ⟨(q4 rfl y).1, fun z => ⟨((q4 rfl y).2 z).1, fun g hg => ?_⟩⟩⟩
          obtain ⟨w1, w2⟩ := ((q4 rfl y).2 z).2 g hg
          by_cases e : g = j
          · subst e
            obtain ⟨v1, v2⟩ := w1 (Or.inl (by omega))
            rw [pk_us] at v1 v2
            refine ⟨fun h => ?_, fun _ _ c3 v3 t3 x1 x2 x3 x4 x5 x6 => ?_⟩
            · rcases h with h | h
              · exact absurd h (by omega)
              · exact absurd h hb
            · have y1 : c = c3 := (nI_eq (by omega) (by omega)).mp (ec.symm.trans x1)
              have y2 : v = v3 := (nI_eq (by omega) (by omega)).mp (ev.symm.trans x2)
              have y3 : t = t3 := (nI_eq (by omega) (by omega)).mp (et.symm.trans x3)
              subst y1
              subst y2
              subst y3
              exact ⟨v1, v2, hbl⟩
          · rw [pk_un e, pk_un e] at w1 w2
            exact ⟨fun h => w1 (by rcases h with h | h; exact Or.inl (by omega); exact Or.inr h), fun h => w2 (by omega)⟩
        by_cases hl : nI j = lin
        · rw [if_pos hl]
          exact still (fun h => absurd hl h)
        · rw [if_neg hl]
          by_cases hw : nI (tup1 t) < pride j
          · rw [if_pos hw]
            exact still (fun _ h => absurd hw h)
          · rw [if_neg hw]
            obtain ⟨c2, hc2, ec2, hwC, hwM⟩ := sim_why hH2 hF2 hjG
            have ecc : (c + v) % C = c2 := by
              rw [pk_us] at ec2
              exact (nI_eq (by have := Nat.mod_lt (c + v) (show C > 0 by omega); omega) (by omega)).mp ec2
            rw [hwC, bind_eq]
            by_cases h0 : whyN sit tak hid j c2 = 0
            · rw [if_pos h0]
              obtain ⟨r4, a1, a2, a3, a4, a5, a6, a7, a8, a9, a10, a11, s2', q1, q2, q3, q4, q5⟩ := sim_sit hH2 hF2 hjG hc2 ec2 (whyN_0 h0).2.1
              rw [q1, bind_eq]
              dsimp only
              rw [nI_1]
              have hH3 := hH2.congr (fun i hi => q4 i (Or.inl hi))
              rcases q5 with ⟨x1, x2, x3, x4, x5, x6, x7, x8⟩ | ⟨x1, x2, x3, x4, w, hw1, hw2, hw3⟩
              · obtain ⟨r, sit', tak', ser', ovr', hst', pia', coins', chairOf', tired', hosted', owed', paid', u1, u2, u3, u4⟩ := ih (j + 1) n1 (by omega) (by omega) 0 a1 a2 a3 a4 a5 a6 a7 _ a8 a9 a10 a11 s2' hH3 q3 (Or.inl ⟨rfl, x2⟩)
                have up : ∀ i, i < G → bt sit i = true → bt a1 i = true := fun i hi h => by rw [x3, bt_set (by omega) (by omega), h]; rfl
                refine ⟨r, sit', tak', ser', ovr', hst', pia', coins', chairOf', tired', hosted', owed', paid', u1, fun h => absurd (hf.symm.trans h) (by decide), fun _ h2 => ?_, fun _ h2 => ⟨⟨(u4 rfl h2).1.1.trans x6, fun i hi h => (u4 rfl h2).1.2 i hi (up i hi h)⟩, fun z => ?_⟩⟩
                · obtain ⟨w, k1, k2, k3⟩ := u3 rfl h2
                  exact ⟨w, k1, k2, Bool.eq_false_iff.mpr (fun h => by rw [up w k1 h] at k3; cases k3)⟩
                · have k := (u4 rfl h2).1.2 j hjG (by rw [x3, bt_set (by omega) (by omega)]; simp)
                  rw [z, hb'] at k
                  cases k
              · obtain ⟨r, sit', tak', ser', ovr', hst', pia', coins', chairOf', tired', hosted', owed', paid', u1, u2, u3, u4⟩ := ih (j + 1) n1 (by omega) (by omega) 1 a1 a2 a3 a4 a5 a6 a7 _ a8 a9 a10 a11 s2' hH3 q3 (Or.inr ⟨rfl, x2⟩)
                obtain ⟨k1, k2⟩ := u2 rfl
                refine ⟨r, sit', tak', ser', ovr', hst', pia', coins', chairOf', tired', hosted', owed', paid', u1, fun h => absurd (hf.symm.trans h) (by decide), fun _ _ => ⟨w, hw1, k2.trans hw2, ?_⟩, fun _ h2 => absurd (k1.symm.trans h2) (by decide)⟩
                have k3 := hw3 w hw1
                rw [bt_set (by omega) (by omega)] at k3
                simp at k3
                exact k3.1
            · rw [if_neg h0]
              exact still (fun _ _ => by rw [ecc]; exact whyN_1 h0 hb')
    · rw [if_neg (ne_succ b), if_neg (ne_succ b)]
      exact ⟨1, sit, tak, ser, b + 1, hst, pia, coins, chairOf, tired, hosted, owed, paid, rfl, fun _ => ⟨rfl, rfl⟩, fun h => absurd (hf.symm.trans h) (by decide), fun h => absurd (hf.symm.trans h) (by decide)⟩
