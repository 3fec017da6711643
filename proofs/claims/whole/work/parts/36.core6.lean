/-! ===== pure: a round ===== -/
theorem ne_succ (b : Int32) : ¬ b + 1 = b := by
  intro h
  have h2 := congrArg (fun x : Int32 => x.toBitVec.toNat) h
  rw [Int32.toBitVec_add, BitVec.toNat_add] at h2
  have h3 := b.toBitVec.isLt
  have h4 : (1 : Int32).toBitVec.toNat = 1 := rfl
  rw [h4] at h2
  omega
/-- the CHAIR where one comes -/
theorem on_eq {C c v : Nat} (hC : 2 ≤ C) (hC9 : C ≤ 9) (hc : c < C) (hv : v ≤ 9) : nI c + nI v - (nI c + nI v) / nI C * nI C = nI ((c + v) % C) := by
  rw [nI_add]
  exact pk_rem (by omega) (by omega) (by omega)
def tup1 (t : Nat) : Nat := if t + 1 < 99 then t + 1 else 99
theorem tup_eq {t : Nat} (h : t ≤ 99) : (if nI t + 1 < 99 then nI t + 1 else 99) = nI (tup1 t) := by
  unfold tup1
  rw [nI_1, show (99 : Int32) = nI 99 from rfl]
  by_cases h2 : t + 1 < 99
  · rw [if_pos (nI_lt h2 (by omega)), if_pos h2]
  · rw [if_neg (nI_nlt (by omega) (by omega)), if_neg h2]
theorem tup_le {t : Nat} : tup1 t ≤ 99 := by
  unfold tup1
  split <;> omega
theorem RF_move {C G D : Nat} {sit tak ser hid rnd ovr hst pia : Int32} {coins chairOf tired hosted owed paid s : A1} (hG : G ≤ 7) (hF : RF C G D sit tak ser hid rnd ovr hst pia coins chairOf tired hosted owed paid s) {j c t : Nat} (hj : j < G) (hb : bt sit j = false) (hc : c < C) (ht : t ≤ 99) :
    RF C G D sit tak ser hid rnd ovr hst pia coins (upd chairOf j (nI c)) (upd tired j (nI t)) hosted owed paid (upd (upd s (56 + j) (nI c)) (64 + j) (nI t)) := by
  obtain ⟨⟨⟨e44, e45, e46, e47, e48, e63⟩, eg⟩, ⟨s1, s2, s3, s4, s5, hT1, hT2⟩, m1, m2⟩ := hF
  have nb : ∀ i, bt sit i = true → i ≠ j := fun i h e => by
    rw [e, hb] at h
    cases h
  refine ⟨⟨⟨?_, ?_, ?_, ?_, ?_, ?_⟩, ?_⟩, ⟨s1, s2, s3, s4, ?_, ?_, ?_⟩, ?_, m2⟩
  · rw [pk_un (by omega), pk_un (by omega), e44]
  · rw [pk_un (by omega), pk_un (by omega), e45]
  · rw [pk_un (by omega), pk_un (by omega), e46]
  · rw [pk_un (by omega), pk_un (by omega), e47]
  · rw [pk_un (by omega), pk_un (by omega), e48]
  · rw [pk_un (by omega), pk_un (by omega), e63]
  · intro i hi
    obtain ⟨f1, f2, f3, f4, f5, f6⟩ := eg i hi
    refine ⟨?_, ?_, ?_, ?_, ?_, ?_⟩
    · rw [pk_un (by omega), pk_un (by omega), f1]
    · by_cases e : i = j
      · subst e
        rw [pk_un (by omega), pk_us, pk_us]
      · rw [pk_un (by omega), pk_un (by omega), pk_un e, f2]
    · by_cases e : i = j
      · subst e
        rw [pk_us, pk_us]
      · rw [pk_un (by omega), pk_un (by omega), pk_un e, f3]
    · rw [pk_un (by omega), pk_un (by omega), f4]
    · rw [pk_un (by omega), pk_un (by omega), f5]
    · rw [pk_un (by omega), pk_un (by omega), f6]
  · intro i hi
    by_cases e : i = j
    · subst e
      exact ⟨c, hc, pk_us⟩
    · rw [pk_un e]
      exact s5 i hi
  · intro d hd
    rw [hT1 d hd]
    constructor
    · intro ⟨a, ha, h1, h2⟩
      exact ⟨a, ha, h1, by rw [pk_un (nb a h1)]; exact h2⟩
    · intro ⟨a, ha, h1, h2⟩
      rw [pk_un (nb a h1)] at h2
      exact ⟨a, ha, h1, h2⟩
  · intro a b ha hb2 h1 h2 h3
    rw [pk_un (nb a h1), pk_un (nb b h2)] at h3
    exact hT2 a b ha hb2 h1 h2 h3
  · intro i hi
    obtain ⟨f1, f2⟩ := m1 i hi
    refine ⟨?_, f2⟩
    by_cases e : i = j
    · subst e
      exact ⟨t, ht, pk_us⟩
    · rw [pk_un e]
      exact f1
theorem onC {C : Nat} {speed chairOf : A1} {j c v : Nat} (hC : 2 ≤ C) (hC9 : C ≤ 9) (hj : j < 7) (hc : c < C) (hv : v ≤ 9) (e1 : chairOf j = nI c) (e2 : speed j = nI v) : fX1_onFrom (nI C) speed chairOf (nI j) 1 = some (nI ((c + v) % C)) := by
  unfold fX1_onFrom
  rw [if_neg (nI_nle (by omega) (by omega)), gI_ok (by omega) (by omega), gI_ok (by omega) (by omega), gZ_ok (nI_ne0 (by omega) (by omega)), ix0 (by omega), e1, e2, Int32.one_mul, on_eq hC hC9 hc hv]
theorem TK_s {C G : Nat} {sit tak : Int32} {chairOf : A1} {s : A1} (hT : TK C G sit tak chairOf) (e63 : s 63 = sit) (e : ∀ i, i < G → s (56 + i) = chairOf i) : TK C G (s 63) tak (fun i => s (56 + i)) := by
  rw [e63]
  refine ⟨fun c hc => ?_, fun a b ha hb h1 h2 h3 => ?_⟩
  · rw [hT.1 c hc]
    constructor
    · intro ⟨g, hg, h1, h2⟩
      exact ⟨g, hg, h1, by dsimp only; rw [e g hg]; exact h2⟩
    · intro ⟨g, hg, h1, h2⟩
      exact ⟨g, hg, h1, by dsimp only at h2; rw [e g hg] at h2; exact h2⟩
  · dsimp only at h3
    rw [e a ha, e b hb] at h3
    exact hT.2 a b ha hb h1 h2 h3
/-- why one can't SIT, both -/
theorem sim_why {C G D : Nat} {pride speed payer cost s : A1} (hH : RH C G D pride speed payer cost s) {sit tak ser hid rnd ovr hst pia : Int32} {coins chairOf tired hosted owed paid : A1} (hF : RF C G D sit tak ser hid rnd ovr hst pia coins chairOf tired hosted owed paid s) {g : Nat} (hg : g < G) :
    ∃ c, c < C ∧ chairOf g = nI c ∧ fX1_whyNotSit sit tak hid chairOf (nI g) = some (whyN sit tak hid g c) ∧ fX12_whySit s (nI g) = some (whyN sit tak hid g c) := by
  obtain ⟨⟨⟨e44, e45, e46, e47, e48, e63⟩, eg⟩, ⟨s1, s2, s3, s4, s5, hT⟩, m1, m2⟩ := hF
  obtain ⟨⟨hC2, hC9, hG, hGC, hD⟩, ⟨-, e1, -⟩, -, -⟩ := hH
  obtain ⟨c, hc, ec⟩ := s5 g hg
  refine ⟨c, hc, ec, whyC (by omega) (by omega) ec, ?_⟩
  have h := whyM (s := s) (tak := tak) hC9 hG hg hc e1 (by rw [(eg g hg).2.1, ec]) (TK_s hT e63 (fun i hi => (eg i hi).2.1))
  rw [e63, e47] at h
  exact h
theorem whyN_0 {sit tak hid : Int32} {g c : Nat} (h : whyN sit tak hid g c = 0) : bt sit g = false ∧ bt tak c = false ∧ bt hid c = false := by
  unfold whyN at h
  by_cases h1 : bt sit g = true
  · rw [if_pos h1] at h
    exact absurd h (by decide)
  · rw [if_neg h1] at h
    by_cases h2 : bt tak c = true
    · rw [if_pos h2] at h
      exact absurd h (by decide)
    · rw [if_neg h2] at h
      by_cases h3 : bt hid c = true
      · rw [if_pos h3] at h
        exact absurd h (by decide)
      · exact ⟨Bool.eq_false_iff.mpr h1, Bool.eq_false_iff.mpr h2, Bool.eq_false_iff.mpr h3⟩
theorem round_loop {C G D : Nat} {pride speed payer cost : A1} {hid rnd rnd1 lin b : Int32} : ∀ (m j n1 n2 : Nat), j + m = G → m < n1 → m < n2 → ∀ (fl sit tak ser ovr hst pia : Int32) (coins chairOf tired hosted owed paid s : A1), RH C G D pride speed payer cost s → RF C G D sit tak ser hid rnd ovr hst pia coins chairOf tired hosted owed paid s → ((fl = 0 ∧ ovr = b) ∨ (fl = 1 ∧ ovr = b + 1)) →
    ∃ (r sit' tak' ser' ovr' hst' pia' : Int32) (coins' chairOf' tired' hosted' owed' paid' s' : A1),
      lX1_goRound_17 hid (nI C) (nI G) (nI D) pride speed payer cost n1 sit tak ser rnd1 ovr hst pia coins chairOf tired hosted owed paid lin b (nI j) = some (r, sit', tak', ser', rnd1, ovr', hst', pia', coins', chairOf', tired', hosted', owed', paid') ∧
      lX12_round_4 bX12_round_135 n2 s lin fl (nI j) = bX12_round_135 s' r ∧ RF C G D sit' tak' ser' hid rnd ovr' hst' pia' coins' chairOf' tired' hosted' owed' paid' s' ∧ (∀ i, (i < 44 ∨ 92 ≤ i) → s' i = s i) ∧ ((r = 0 ∧ ovr' = b) ∨ (r = 1 ∧ ovr' = b + 1)) := by
  intro m
  induction m with
  | zero =>
    intro j n1 n2 hj hn1 hn2 fl sit tak ser ovr hst pia coins chairOf tired hosted owed paid s hH hF hfl
    obtain ⟨n1, rfl⟩ : ∃ k, n1 = k + 1 := ⟨n1 - 1, by omega⟩
    obtain ⟨n2, rfl⟩ : ∃ k, n2 = k + 1 := ⟨n2 - 1, by omega⟩
    have e : j = G := by omega
    subst e
    obtain ⟨⟨hC2, hC9, hG, hGC, hD⟩, ⟨e0, e1, e2⟩, -, -⟩ := id hH
    refine ⟨fl, sit, tak, ser, ovr, hst, pia, coins, chairOf, tired, hosted, owed, paid, s, ?_, ?_, hF, fun _ _ => rfl, hfl⟩
    · rw [lX1_goRound_17, if_pos (nI_le (Nat.le_refl _) (by omega))]
      rcases hfl with ⟨rfl, rfl⟩ | ⟨rfl, rfl⟩
      · rw [if_pos rfl]
      · rw [if_neg (ne_succ b)]
    · rw [lX12_round_4, if_pos (by rw [e1]; exact nI_le (Nat.le_refl _) (by omega))]
  | succ m ih =>
    intro j n1 n2 hj hn1 hn2 fl sit tak ser ovr hst pia coins chairOf tired hosted owed paid s hH hF hfl
    obtain ⟨n1, rfl⟩ : ∃ k, n1 = k + 1 := ⟨n1 - 1, by omega⟩
    obtain ⟨n2, rfl⟩ : ∃ k, n2 = k + 1 := ⟨n2 - 1, by omega⟩
    obtain ⟨⟨hC2, hC9, hG, hGC, hD⟩, ⟨e0, e1, e2⟩, hg1, -⟩ := id hH
    have hjG : j < G := by omega
    have hge : ¬ s 1 ≤ nI j := by rw [e1]; exact nI_ge (by omega) (by omega)
    rw [lX1_goRound_17, if_neg (nI_ge (by omega) (by omega)), lX12_round_4, if_neg hge]
    rcases hfl with ⟨rfl, rfl⟩ | ⟨rfl, rfl⟩
    · rw [if_pos (show ovr = ovr from rfl), if_pos (show (0 : Int32) = 0 from rfl), seated_eq (by omega), bind_eq, doesSit_eq (by omega), bind_eq]
      obtain ⟨⟨⟨e44, e45, e46, e47, e48, e63⟩, eg⟩, ⟨s1, s2, s3, s4, s5, hT⟩, m1, m2⟩ := id hF
      rw [e63]
      by_cases hb : bt sit j = true
      · rw [if_pos hb, if_neg (by decide), if_neg (by decide), nI_1]
        exact ih (j + 1) n1 n2 (by omega) (by omega) (by omega) 0 sit tak ser ovr hst pia coins chairOf tired hosted owed paid s hH hF (Or.inl ⟨rfl, rfl⟩)
      · rw [if_neg hb, if_pos rfl, if_pos rfl]
        obtain ⟨p1, p2, ⟨pr, hpr, epr⟩, ⟨v, hv, ev⟩, -⟩ := hg1 j hjG
        obtain ⟨c, hc, ec⟩ := s5 j hjG
        obtain ⟨⟨t, ht, et⟩, -⟩ := m1 j hjG
        obtain ⟨f1, f2, f3, f4, f5, f6⟩ := eg j hjG
        have hb' : bt sit j = false := Bool.eq_false_iff.mpr hb
        have hF2 := RF_move hG hF hjG hb' (show (c + v) % C < C from Nat.mod_lt _ (by omega)) (tup_le (t := t))
        have hH2 : RH C G D pride speed payer cost (upd (upd s (56 + j) (nI ((c + v) % C))) (64 + j) (nI (tup1 t))) := hH.congr (fun i hi => by rw [pk_un (by omega), pk_un (by omega)])
        have hfr : ∀ i, (i < 44 ∨ 92 ≤ i) → (upd (upd s (56 + j) (nI ((c + v) % C))) (64 + j) (nI (tup1 t))) i = s i := fun i hi => by rw [pk_un (by omega), pk_un (by omega)]
        simp only [onC hC2 hC9 (show j < 7 by omega) hc hv ec ev, bind_eq, gI_ok (show j < 7 by omega) (show 7 ≤ 1000 by omega), ix0 (show j < 1000 by omega), nmv_eq, et, tup_eq ht, c56, c17, c64, c10, gI_oka (show 56 + j < 273 by omega) (show 273 ≤ 1000 by omega), gI_oka (show 17 + j < 273 by omega) (show 273 ≤ 1000 by omega), gI_oka (show 64 + j < 273 by omega) (show 273 ≤ 1000 by omega), gI_oka (show 10 + j < 273 by omega) (show 273 ≤ 1000 by omega), ixa (show 56 + j < 1000 by omega), ixa (show 17 + j < 1000 by omega), ixa (show 64 + j < 1000 by omega), ixa (show 10 + j < 1000 by omega), f2, p2, ec, ev, e0, gZ_ok (nI_ne0 (show 0 < C by omega) (show C < 2 ^ 31 by omega)), on_eq hC2 hC9 hc hv, lesser_eq]
        simp only [pk_un (show 64 + j ≠ 56 + j by omega), f3, et, tup_eq ht, pk_us, pk_un (show 10 + j ≠ 64 + j by omega), pk_un (show 10 + j ≠ 56 + j by omega), p1]
        have go : ∀ (fl2 sit2 tak2 ser2 ovr2 hst2 pia2 : Int32) (coins2 chairOf2 tired2 hosted2 owed2 paid2 s2 : A1), RH C G D pride speed payer cost s2 → RF C G D sit2 tak2 ser2 hid rnd ovr2 hst2 pia2 coins2 chairOf2 tired2 hosted2 owed2 paid2 s2 → (∀ i, (i < 44 ∨ 92 ≤ i) → s2 i = s i) → ((fl2 = 0 ∧ ovr2 = ovr) ∨ (fl2 = 1 ∧ ovr2 = ovr + 1)) →
            ∃ (r sit' tak' ser' ovr' hst' pia' : Int32) (coins' chairOf' tired' hosted' owed' paid' s' : A1),
              lX1_goRound_17 hid (nI C) (nI G) (nI D) pride speed payer cost n1 sit2 tak2 ser2 rnd1 ovr2 hst2 pia2 coins2 chairOf2 tired2 hosted2 owed2 paid2 lin ovr (nI j + 1) = some (r, sit', tak', ser', rnd1, ovr', hst', pia', coins', chairOf', tired', hosted', owed', paid') ∧
              lX12_round_4 bX12_round_135 n2 s2 lin fl2 (nI j + 1) = bX12_round_135 s' r ∧ RF C G D sit' tak' ser' hid rnd ovr' hst' pia' coins' chairOf' tired' hosted' owed' paid' s' ∧ (∀ i, (i < 44 ∨ 92 ≤ i) → s' i = s i) ∧ ((r = 0 ∧ ovr' = ovr) ∨ (r = 1 ∧ ovr' = ovr + 1)) := by
          intro fl2 sit2 tak2 ser2 ovr2 hst2 pia2 coins2 chairOf2 tired2 hosted2 owed2 paid2 s2 h1 h2 h3 h4
          rw [nI_1]
          obtain ⟨r, a1, a2, a3, a4, a5, a6, a7, a8, a9, a10, a11, a12, a13, q1, q2, q3, q4, q5⟩ := ih (j + 1) n1 n2 (by omega) (by omega) (by omega) fl2 sit2 tak2 ser2 ovr2 hst2 pia2 coins2 chairOf2 tired2 hosted2 owed2 paid2 s2 h1 h2 h4
          exact ⟨r, a1, a2, a3, a4, a5, a6, a7, a8, a9, a10, a11, a12, a13, q1, q2, q3, fun i hi => by rw [q4 i hi, h3 i hi], q5⟩
        by_cases hl : nI j = lin
        · rw [if_pos hl, if_pos hl]
          exact go 0 sit tak ser ovr hst pia coins _ _ hosted owed paid _ hH2 hF2 hfr (Or.inl ⟨rfl, rfl⟩)
        · rw [if_neg hl, if_neg hl]
          by_cases hw : nI (tup1 t) < pride j
          · rw [if_pos hw, if_pos hw]
            exact go 0 sit tak ser ovr hst pia coins _ _ hosted owed paid _ hH2 hF2 hfr (Or.inl ⟨rfl, rfl⟩)
          · rw [if_neg hw, if_neg hw]
            obtain ⟨c2, hc2, ec2, hwC, hwM⟩ := sim_why hH2 hF2 hjG
            rw [hwC, hwM, bind_eq, bind_eq]
            by_cases h0 : whyN sit tak hid j c2 = 0
            · rw [if_pos h0, if_pos h0]
              obtain ⟨r, a1, a2, a3, a4, a5, a6, a7, a8, a9, a10, a11, s2, q1, q2, q3, q4, q5⟩ := sim_sit hH2 hF2 hjG hc2 ec2 (whyN_0 h0).2.1
              rw [q1, q2, bind_eq, bind_eq]
              dsimp only
              exact go r a1 a2 a3 a4 a5 a6 a7 _ a8 a9 a10 a11 s2 (hH2.congr (fun i hi => q4 i (Or.inl hi))) q3 (fun i hi => by rw [q4 i hi, hfr i hi]) (by rcases q5 with ⟨x, y, -⟩ | ⟨x, y, -⟩; exact Or.inl ⟨x, y⟩; exact Or.inr ⟨x, y⟩)
            · rw [if_neg h0, if_neg h0]
              exact go 0 sit tak ser ovr hst pia coins _ _ hosted owed paid _ hH2 hF2 hfr (Or.inl ⟨rfl, rfl⟩)
    · rw [if_neg (ne_succ b), if_neg (ne_succ b), if_neg (show ¬ (1 : Int32) = 0 by decide)]
      exact ⟨1, sit, tak, ser, b + 1, hst, pia, coins, chairOf, tired, hosted, owed, paid, s, rfl, rfl, hF, fun _ _ => rfl, Or.inr ⟨rfl, rfl⟩⟩
