/-! ===== pure: a BOOK's LINES, lived ===== -/
/-- a LINE as it was read, both -/
def RLn (G D : Nat) (dd ww w k : Int32) : Prop :=
  (∃ g, g < G ∧ dd = 4 ∧ w = 0 ∧ ww = nI g ∧ k = nI g) ∨ (∃ g, g < G ∧ dd = 5 ∧ w = 1 ∧ ww = nI g ∧ k = nI g) ∨ (∃ d, d < D ∧ dd = 6 ∧ w = 2 ∧ ww = nI d ∧ k = nI d) ∨ (∃ c, c < 9 ∧ dd = 7 ∧ w = 3 ∧ ww = nI c ∧ k = nI c) ∨ (∃ c, c < 9 ∧ dd = 8 ∧ w = 4 ∧ ww = nI c ∧ k = nI c) ∨ (∃ n, (1 ≤ n ∧ n ≤ 60) ∧ dd = 9 ∧ w = 5 ∧ ww = nI n ∧ k = nI n)
theorem does0 (s : A1) (x : Int32) : bX12_does_206 s x 0 = some (0, s) := by
  unfold bX12_does_206
  rw [if_pos (by decide)]
theorem does1 (s : A1) (x : Int32) {r : Int32} (h : 0 < r) : bX12_does_206 s x r = some (10 * x + r, s) := by
  unfold bX12_does_206
  rw [if_neg (fa_of_lt h).2.1]
theorem liveR_loop {C G D : Nat} {pride speed payer cost : A1} {hid : Int32} {N : Nat} (hN : N ≤ 60) : ∀ (m k n1 n2 ρ : Nat), k + m = N → m < n1 → m < n2 → ρ + m ≤ 400 → ∀ (sit tak ser ovr hst pia : Int32) (coins chairOf tired hosted owed paid s : A1), RH C G D pride speed payer cost s → RF C G D sit tak ser hid (nI ρ) ovr hst pia coins chairOf tired hosted owed paid s →
    ∃ (sit' tak' ser' ovr' hst' pia' : Int32) (coins' chairOf' tired' hosted' owed' paid' s' : A1),
      lX5_liveRounds_17 hid (nI C) (nI G) (nI D) pride speed payer cost n1 sit tak ser (nI ρ) ovr hst pia coins chairOf tired hosted owed paid (nI N) (nI k) = some (0, sit', tak', ser', nI (ρ + m), ovr', hst', pia', coins', chairOf', tired', hosted', owed', paid') ∧
      lX12_goesOn_2 n2 s (nI N) (nI k) = some (nI N, s') ∧ RF C G D sit' tak' ser' hid (nI (ρ + m)) ovr' hst' pia' coins' chairOf' tired' hosted' owed' paid' s' ∧ (∀ i, (i < 44 ∨ 92 ≤ i) → s' i = s i) := by
  intro m
  induction m with
  | zero =>
    intro k n1 n2 ρ hk hn1 hn2 hρ sit tak ser ovr hst pia coins chairOf tired hosted owed paid s hH hF
    obtain ⟨n1, rfl⟩ := sn hn1
    obtain ⟨n2, rfl⟩ := sn hn2
    have e : k = N := by omega
    subst e
    refine ⟨sit, tak, ser, ovr, hst, pia, coins, chairOf, tired, hosted, owed, paid, s, ?_, ?_, hF, fun _ _ => rfl⟩
    · rw [lX5_liveRounds_17, if_pos (nI_le (Nat.le_refl _) (by omega))]
      rfl
    · rw [lX12_goesOn_2, if_pos (nI_le (Nat.le_refl _) (by omega))]
  | succ m ih =>
    intro k n1 n2 ρ hk hn1 hn2 hρ sit tak ser ovr hst pia coins chairOf tired hosted owed paid s hH hF
    obtain ⟨n1, rfl⟩ := sn hn1
    obtain ⟨n2, rfl⟩ := sn hn2
    have e44 : s 44 = nI ρ := hF.1.1.1
    obtain ⟨r, a1, a2, a3, a4, a5, a6, a7, a8, a9, a10, a11, a12, s2, q1, q2, q3, q4, q5⟩ := sim_round hH hF (-1)
    rw [nI_1] at q1 q3
    obtain ⟨b1, b2, b3, b4, b5, b6, b7, b8, b9, b10, b11, b12, s3, z1, z2, z3, z4⟩ := ih (k + 1) n1 n2 (ρ + 1) (by omega) (by omega) (by omega) (by omega) a1 a2 a3 a4 a5 a6 a7 a8 a9 a10 a11 a12 s2 (hH.congr (fun i hi => q4 i (Or.inl hi))) q3
    rw [show ρ + 1 + m = ρ + (m + 1) by omega] at z1 z3
    refine ⟨b1, b2, b3, b4, b5, b6, b7, b8, b9, b10, b11, b12, s3, ?_, ?_, z3, fun i hi => by rw [z4 i hi, q4 i hi]⟩
    · rw [lX5_liveRounds_17, if_neg (nI_ge (by omega) (by omega)), q1, bind_eq]
      dsimp only
      rw [nI_1]
      exact z1
    · rw [lX12_goesOn_2, if_neg (nI_ge (by omega) (by omega)), e44, if_neg (show ¬ (400 : Int32) ≤ nI ρ from nI_ge (b := 400) (by omega) (by omega)), q2, bind_eq]
      dsimp only
      rw [nI_1]
      exact z2
theorem whyH_vals (C G : Nat) (tak hid : Int32) (c : Nat) : whyH C G tak hid c = 2 ∨ whyH C G tak hid c = 3 ∨ whyH C G tak hid c = 0 ∨ whyH C G tak hid c = 4 := by
  unfold whyH
  by_cases h1 : bt hid c = true
  · exact Or.inl (if_pos h1)
  · rw [if_neg h1]
    by_cases h2 : bt tak c = true
    · exact Or.inr (Or.inl (if_pos h2))
    · rw [if_neg h2]
      by_cases h3 : G + pop hid + 1 ≤ C
      · exact Or.inr (Or.inr (Or.inl (if_pos h3)))
      · exact Or.inr (Or.inr (Or.inr (if_neg h3)))
/-- a LINE is lived, both -/
theorem sim_live {C G D : Nat} {pride speed payer cost s : A1} (hH : RH C G D pride speed payer cost s) {sit tak ser hid rnd ovr hst pia : Int32} {coins chairOf tired hosted owed paid : A1} (hF : RFp C G D sit tak ser hid rnd ovr hst pia coins chairOf tired hosted owed paid s) {dd ww w k : Int32} (hL : RLn G D dd ww w k) :
    ∃ (r : Int32) (t1' t2' t3' t4' t5' t6' t7' t8' : Int32) (u1' u2' u3' u4' u5' u6' : A1) (s' : A1), fX5_liveLine (nI C) (nI G) (nI D) pride speed payer cost sit tak ser hid rnd ovr hst pia coins chairOf tired hosted owed paid dd ww = some (r, t1', t2', t3', t4', t5', t6', t7', t8', u1', u2', u3', u4', u5', u6') ∧ fX12_does s w k = some (r, s') ∧ RFp C G D t1' t2' t3' t4' t5' t6' t7' t8' u1' u2' u3' u4' u5' u6' s' ∧ (∀ i, (i < 44 ∨ 92 ≤ i) → s' i = s i) ∧ (r = 0 ∨ (0 < r ∧ s' = s)) := by
  obtain ⟨⟨hC2, hC9, hG, hGC, hD⟩, ⟨e0, e1, e2⟩, -, -⟩ := id hH
  obtain ⟨⟨⟨e44, e45, e46, e47, e48, e63⟩, eg⟩, ⟨s1, s2, s3, s4, s5, hT⟩, m1, m2⟩ := id hF.2.2
  unfold fX5_liveLine fX12_does
  rcases hL with ⟨g, hg, rfl, rfl, rfl, rfl⟩ | ⟨g, hg, rfl, rfl, rfl, rfl⟩ | ⟨d, hd, rfl, rfl, rfl, rfl⟩ | ⟨c, hc, rfl, rfl, rfl, rfl⟩ | ⟨c, hc, rfl, rfl, rfl, rfl⟩ | ⟨n, ⟨hn1, hn2⟩, rfl, rfl, rfl, rfl⟩
  · obtain ⟨c, hc, ec, hwC, hwM⟩ := sim_why hH hF.2.2 hg
    rw [if_pos rfl, if_pos rfl]
    unfold fX5_liveSitting
    rw [hwC, hwM, bind_eq, bind_eq]
    rcases whyN_nat sit tak hid g c with h0 | h0
    · obtain ⟨r, a1, a2, a3, a4, a5, a6, a7, a8, a9, a10, a11, s', q1, q2, q3, q4, q5⟩ := sim_sit hH hF.2.2 hg hc ec (whyN_0 h0).2.1
      rw [h0, if_pos rfl, if_pos rfl, q1, q2, bind_eq, bind_eq]
      dsimp only
      rw [bind_eq, does0]
      exact ⟨0, a1, a2, a3, hid, rnd, a4, a5, a6, a7, chairOf, a8, a9, a10, a11, s', rfl, rfl, ⟨hF.1, hF.2.1, q3⟩, q4, Or.inl rfl⟩
    · rw [if_neg (fun e => absurd h0 (by rw [e]; decide)), if_neg (fun e => absurd h0 (by rw [e]; decide)), bind_eq, does1 s 0 h0, show (10 : Int32) * 0 = 0 from rfl, Int32.zero_add]
      exact ⟨_, sit, tak, ser, hid, rnd, ovr, hst, pia, coins, chairOf, tired, hosted, owed, paid, s, rfl, rfl, hF, fun _ _ => rfl, Or.inr ⟨h0, rfl⟩⟩
  · rw [if_neg (by decide), if_pos rfl, if_neg (by decide), if_pos rfl]
    unfold fX5_liveRising fX1_whyNotRise bX12_does_68
    rw [seated_eq (by omega), doesSit_eq (by omega), bind_eq, bind_eq, e63]
    by_cases hb : bt sit g = true
    · obtain ⟨sit', tak', q1, q2, q3⟩ := RF_rise (by omega) (by omega) hF.2.2 hg hb
      rw [if_pos hb, if_neg nn1, if_neg nn1, bind_eq, if_pos rfl, q1, bind_eq]
      dsimp only
      rw [if_pos rfl, bind_eq, nmv_eq, nmv_eq, does0, ← q2]
      exact ⟨0, sit', tak', ser, hid, rnd, ovr, hst, pia, coins, chairOf, tired, hosted, owed, paid, _, rfl, rfl, ⟨hF.1, hF.2.1, q3⟩, fun i hi => pk_un (by omega), Or.inl rfl⟩
    · rw [if_neg hb, if_pos rfl, if_pos rfl, bind_eq, if_neg nn1, if_neg nn1, bind_eq, nmv_eq, nmv_eq, clr_none (by omega) (Bool.eq_false_iff.mpr hb), fa_upd_same e63, does1 s 1 (by decide)]
      exact ⟨11, sit, tak, ser, hid, rnd, ovr, hst, pia, coins, chairOf, tired, hosted, owed, paid, s, rfl, rfl, hF, fun _ _ => rfl, Or.inr ⟨by decide, rfl⟩⟩
  · rw [if_neg (by decide), if_neg (by decide), if_pos rfl, if_neg (by decide), if_neg (by decide), if_pos rfl]
    unfold fX5_liveServing fX1_whyNotServe bX12_does_106 fX1_bring
    rw [bitOf_eq (by omega), bind_eq, e45]
    by_cases hb : bt ser d = true
    · rw [if_pos hb, if_neg nn1, if_pos ((bit_iff (by omega)).mpr hb), bind_eq, if_neg nn1, if_neg nn1, bind_eq, nmv_eq, nmv_eq, set_again (by omega) hb, fa_upd_same e45, does1 s 2 (by decide)]
      exact ⟨21, sit, tak, ser, hid, rnd, ovr, hst, pia, coins, chairOf, tired, hosted, owed, paid, s, rfl, rfl, hF, fun _ _ => rfl, Or.inr ⟨by decide, rfl⟩⟩
    · rw [if_neg hb, if_pos rfl, if_neg (fun e => hb ((bit_iff (by omega)).mp e)), bind_eq, if_pos rfl, nmv_eq, bind_eq, if_pos rfl, bind_eq, nmv_eq, nmv_eq, does0]
      exact ⟨0, sit, tak, _, hid, rnd, ovr, hst, pia, coins, chairOf, tired, hosted, owed, paid, _, rfl, rfl, ⟨hF.1, hF.2.1, RF_ser (by omega) hF.2.2 (sm_set s3 hd (by omega))⟩, fun i hi => pk_un (by omega), Or.inl rfl⟩
  · rw [if_neg (by decide), if_neg (by decide), if_neg (by decide), if_pos rfl, if_neg (by decide), if_neg (by decide), if_neg (by decide), if_pos rfl]
    unfold fX5_liveHiding
    by_cases hcC : c < C
    · have hM := whyHM (s := s) hC9 hG hcC e0 e1 (by rw [e47]; exact s4) (TK_s hT e63 (fun i hi => (eg i hi).2.1))
      rw [e47] at hM
      rw [whyHC hC9 hG hcC s4, hM, bind_eq, bind_eq, e47]
      rcases whyH_nat C G tak hid c with ⟨h0, h4, h5⟩ | h0
      · rw [h0, if_pos rfl, if_pos rfl, nmv_eq, nmv_eq, nmv_eq, if_pos rfl, bind_eq, does0]
        exact ⟨0, sit, tak, ser, _, rnd, ovr, hst, pia, coins, chairOf, tired, hosted, owed, paid, _, rfl, rfl, ⟨hF.1, by have := (pop_set hC9 s4 hcC).1; omega, RF_hid hG hF.2.2 (sm_set s4 hcC (by omega))⟩, fun i hi => pk_un (by omega), Or.inl rfl⟩
      · have hn : ¬ whyH C G tak hid c = 0 := fun e => absurd h0 (by rw [e]; decide)
        rw [if_neg hn, if_neg hn, if_neg hn, bind_eq, does1 s 3 h0]
        refine ⟨30 + whyH C G tak hid c, sit, tak, ser, hid, rnd, ovr, hst, pia, coins, chairOf, tired, hosted, owed, paid, s, rfl, rfl, hF, fun _ _ => rfl, Or.inr ⟨?_, rfl⟩⟩
        rcases whyH_vals C G tak hid c with e | e | e | e <;> rw [e] <;> decide
    · have hno : fX2_hasChair (nI C) (nI c) = some 0 := by
        rcases chair_is hH (nI c) with ⟨j, y1, y2, -, -⟩ | ⟨y, -, -⟩
        · rw [nI_eq (by omega) (by omega)] at y2
          omega
        · exact y
      unfold fX1_whyNotHide fX12_whyHide
      rw [hno, isChair_out hH (by omega) (by omega), bind_eq, bind_eq, if_pos rfl, if_pos rfl, bind_eq, bind_eq, if_neg nn1, if_neg nn1, if_neg nn1, bind_eq, does1 s 3 (by decide)]
      exact ⟨31, sit, tak, ser, hid, rnd, ovr, hst, pia, coins, chairOf, tired, hosted, owed, paid, s, rfl, rfl, hF, fun _ _ => rfl, Or.inr ⟨by decide, rfl⟩⟩
  · rw [if_neg (by decide), if_neg (by decide), if_neg (by decide), if_neg (by decide), if_pos rfl, if_neg (by decide), if_neg (by decide), if_neg (by decide), if_neg (by decide), if_pos rfl]
    unfold fX5_liveShowing fX1_whyNotShow fX12_whyShow
    rcases chair_is hH (nI c) with ⟨j, y1, y2, y3, y4⟩ | ⟨y3, y4, -⟩
    · have e : c = j := (nI_eq (by omega) (by omega)).mp y2
      subst e
      rw [y3, y4, bind_eq, bind_eq, if_neg nn1, if_neg nn1, bitOf_eq (by omega), bind_eq, e47]
      by_cases hb : bt hid c = true
      · rw [if_pos ((bit_iff (by omega)).mpr hb), if_pos hb, if_neg nn1, bind_eq, bind_eq, if_pos rfl, if_pos rfl, nmv_eq, nmv_eq, nmv_eq, if_pos rfl, bind_eq, does0, xor_clr (by omega) hb]
        exact ⟨0, sit, tak, ser, _, rnd, ovr, hst, pia, coins, chairOf, tired, hosted, owed, paid, _, rfl, rfl, ⟨hF.1, by have := (pop_set hC9 s4 y1).2; have := hF.2.1; omega, RF_hid hG hF.2.2 (sm_clr s4 (by omega))⟩, fun i hi => pk_un (by omega), Or.inl rfl⟩
      · rw [if_neg (fun e => hb ((bit_iff (by omega)).mp e)), if_neg hb, if_pos rfl, bind_eq, bind_eq, if_neg (by decide), if_neg (by decide), if_neg (by decide), bind_eq, does1 s 4 (by decide)]
        exact ⟨42, sit, tak, ser, hid, rnd, ovr, hst, pia, coins, chairOf, tired, hosted, owed, paid, s, rfl, rfl, hF, fun _ _ => rfl, Or.inr ⟨by decide, rfl⟩⟩
    · rw [y3, y4, bind_eq, bind_eq, if_pos rfl, if_pos rfl, bind_eq, bind_eq, if_neg nn1, if_neg nn1, if_neg nn1, bind_eq, does1 s 4 (by decide)]
      exact ⟨41, sit, tak, ser, hid, rnd, ovr, hst, pia, coins, chairOf, tired, hosted, owed, paid, s, rfl, rfl, hF, fun _ _ => rfl, Or.inr ⟨by decide, rfl⟩⟩
  · rw [if_neg (by decide), if_neg (by decide), if_neg (by decide), if_neg (by decide), if_neg (by decide), if_neg (by decide), if_neg (by decide), if_neg (by decide), if_neg (by decide), if_neg (by decide)]
    unfold fX5_liveRounds bX12_does_195
    obtain ⟨ρ, hρ, rfl⟩ := hF.1
    rw [e44, nI_add, show (400 : Int32) - nI ρ = nI (400 - ρ) from pk_sub (a := 400) hρ]
    by_cases h4 : ρ + n ≤ 400
    · obtain ⟨b1, b2, b3, b4, b5, b6, b7, b8, b9, b10, b11, b12, s', z1, z2, z3, z4⟩ := liveR_loop hn2 n 0 5000 5000 ρ (by omega) (by omega) (by omega) h4 sit tak ser ovr hst pia coins chairOf tired hosted owed paid s hH hF.2.2
      rw [show nI 0 = 0 from rfl] at z1 z2
      unfold fX12_goesOn
      rw [if_pos (nI_le (by omega) (by omega)), if_pos (show nI (ρ + n) ≤ 400 from nI_le (b := 400) h4 (by omega)), if_pos rfl, z1, z2, bind_eq, bind_eq]
      dsimp only
      rw [does0]
      exact ⟨0, b1, b2, b3, hid, nI (ρ + n), b4, b5, b6, b7, b8, b9, b10, b11, b12, s', rfl, rfl, ⟨⟨_, h4, rfl⟩, hF.2.1, z3⟩, z4, Or.inl rfl⟩
    · rw [if_neg (nI_ge (by omega) (by omega)), if_neg (show ¬ nI (ρ + n) ≤ 400 from nI_ge (a := 400) (by omega) (by omega)), if_neg nn1, bind_eq, does1 s 5 (by decide)]
      exact ⟨51, sit, tak, ser, hid, nI ρ, ovr, hst, pia, coins, chairOf, tired, hosted, owed, paid, s, rfl, rfl, hF, fun _ _ => rfl, Or.inr ⟨by decide, rfl⟩⟩
