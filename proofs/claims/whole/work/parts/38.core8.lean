/-! ===== pure: rounds by draws ===== -/
theorem zushr8 (x : Int32) : ∃ k, k < 2 ^ 24 ∧ zushr x 8 = nI k := by
  refine ⟨(x.toUInt32 >>> 8).toNat, ?_, ?_⟩
  · rw [UInt32.toNat_shiftRight]
    have h1 := x.toUInt32.toNat_lt
    have h2 : (8 : UInt32).toNat % 32 = 8 := rfl
    rw [h2, Nat.shiftRight_eq_div_pow]
    omega
  · unfold zushr
    have h : ((8 : Int32).toUInt32 &&& Int32.toUInt32 31) = 8 := by decide
    rw [h]
    apply Int32.toBitVec_inj.mp
    show (x.toUInt32 >>> 8).toBitVec = BitVec.ofNat 32 (x.toUInt32 >>> 8).toNat
    exact BitVec.eq_of_toNat_eq (by rw [BitVec.toNat_ofNat]; exact (Nat.mod_eq_of_lt (UInt32.toNat_lt _)).symm)
theorem draw_eq {l : Int32} {k : Nat} (h0 : 0 < k) (hk : k ≤ 8) : ∃ d l', d < k ∧ fX1_draw l (nI k) = some (nI d, l') ∧ fX12_draw l (nI k) = some (nI d, l') := by
  obtain ⟨z, hz, ez⟩ := zushr8 (l * 1103515245 + 12345)
  refine ⟨z % k, l * 1103515245 + 12345, Nat.mod_lt _ h0, ?_, ?_⟩
  · unfold fX1_draw
    rw [nmv_eq, if_neg (nI_nle h0 (by omega)), gZ_ok (nI_ne0 h0 (by omega)), ez, pk_rem (by omega) h0 (by omega)]
  · unfold fX12_draw
    rw [nmv_eq, gZ_ok (nI_ne0 h0 (by omega)), ez, pk_rem (by omega) h0 (by omega)]
theorem draws_loop {C G D : Nat} {pride speed payer cost : A1} {hid rnd : Int32} {chairOf : A1} : ∀ (m j n1 n2 : Nat), j + m = G → m < n1 → m < n2 → ∀ (sit tak ser ovr hst pia lot : Int32) (coins tired hosted owed paid s : A1), RH C G D pride speed payer cost s → RF C G D sit tak ser hid rnd ovr hst pia coins chairOf tired hosted owed paid s →
    ∃ (sit' tak' ser' ovr' hst' pia' lot' : Int32) (coins' tired' hosted' owed' paid' s' : A1),
      lX1_drawDeeds_35 hid (nI G) (nI D) payer cost chairOf n1 sit tak ser ovr hst pia lot coins tired hosted owed paid (nI j) = some (sit', tak', ser', ovr', hst', pia', lot', coins', tired', hosted', owed', paid') ∧
      (∀ k7 x1 x3, lX12_draws_67 k7 n2 lot s x1 x3 (nI j) = (fX12_round s' (-1)).bind (fun (_, u) => k7 lot' u x1 (x3 + 1))) ∧ RF C G D sit' tak' ser' hid rnd ovr' hst' pia' coins' chairOf tired' hosted' owed' paid' s' ∧ (∀ i, (i < 44 ∨ 92 ≤ i) → s' i = s i) := by
  intro m
  induction m with
  | zero =>
    intro j n1 n2 hj hn1 hn2 sit tak ser ovr hst pia lot coins tired hosted owed paid s hH hF
    obtain ⟨n1, rfl⟩ : ∃ k, n1 = k + 1 := ⟨n1 - 1, by omega⟩
    obtain ⟨n2, rfl⟩ : ∃ k, n2 = k + 1 := ⟨n2 - 1, by omega⟩
    have e : j = G := by omega
    subst e
    obtain ⟨⟨hC2, hC9, hG, hGC, hD⟩, ⟨e0, e1, e2⟩, -, -⟩ := id hH
    have hge : s 1 ≤ nI j := by rw [e1]; exact nI_le (Nat.le_refl _) (by omega)
    refine ⟨sit, tak, ser, ovr, hst, pia, lot, coins, tired, hosted, owed, paid, s, ?_, ?_, hF, fun _ _ => rfl⟩
    · rw [lX1_drawDeeds_35, if_pos (nI_le (Nat.le_refl _) (by omega))]
    · intro k7 x1 x3
      rw [lX12_draws_67, if_pos hge]
  | succ m ih =>
    intro j n1 n2 hj hn1 hn2 sit tak ser ovr hst pia lot coins tired hosted owed paid s hH hF
    obtain ⟨n1, rfl⟩ : ∃ k, n1 = k + 1 := ⟨n1 - 1, by omega⟩
    obtain ⟨n2, rfl⟩ : ∃ k, n2 = k + 1 := ⟨n2 - 1, by omega⟩
    obtain ⟨⟨hC2, hC9, hG, hGC, hD⟩, ⟨e0, e1, e2⟩, -, -⟩ := id hH
    have hjG : j < G := by omega
    have hge : ¬ s 1 ≤ nI j := by rw [e1]; exact nI_ge (by omega) (by omega)
    obtain ⟨w, l2, hw, d1, d2⟩ := draw_eq (l := lot) (show 0 < 8 by omega) (Nat.le_refl 8)
    have d1' : fX1_draw lot 8 = some (nI w, l2) := d1
    have d2' : fX12_draw lot 8 = some (nI w, l2) := d2
    have c0 : nI w = 0 ↔ w = 0 := nI_eq (b := 0) (by omega) (by omega)
    have c1 : nI w = 1 ↔ w = 1 := nI_eq (b := 1) (by omega) (by omega)
    have go : ∀ (sit2 tak2 ser2 ovr2 hst2 pia2 : Int32) (coins2 tired2 hosted2 owed2 paid2 s2 : A1), RH C G D pride speed payer cost s2 → RF C G D sit2 tak2 ser2 hid rnd ovr2 hst2 pia2 coins2 chairOf tired2 hosted2 owed2 paid2 s2 → (∀ i, (i < 44 ∨ 92 ≤ i) → s2 i = s i) →
        ∃ (sit' tak' ser' ovr' hst' pia' lot' : Int32) (coins' tired' hosted' owed' paid' s' : A1),
          lX1_drawDeeds_35 hid (nI G) (nI D) payer cost chairOf n1 sit2 tak2 ser2 ovr2 hst2 pia2 l2 coins2 tired2 hosted2 owed2 paid2 (nI j + 1) = some (sit', tak', ser', ovr', hst', pia', lot', coins', tired', hosted', owed', paid') ∧
          (∀ k7 x1 x3, lX12_draws_67 k7 n2 l2 s2 x1 x3 (nI j + 1) = (fX12_round s' (-1)).bind (fun (_, u) => k7 lot' u x1 (x3 + 1))) ∧ RF C G D sit' tak' ser' hid rnd ovr' hst' pia' coins' chairOf tired' hosted' owed' paid' s' ∧ (∀ i, (i < 44 ∨ 92 ≤ i) → s' i = s i) := by
      intro sit2 tak2 ser2 ovr2 hst2 pia2 coins2 tired2 hosted2 owed2 paid2 s2 h1 h2 h3
      rw [nI_1]
      obtain ⟨a1, a2, a3, a4, a5, a6, a7, a8, a9, a10, a11, a12, a13, q1, q2, q3, q4⟩ := ih (j + 1) n1 n2 (by omega) (by omega) (by omega) sit2 tak2 ser2 ovr2 hst2 pia2 l2 coins2 tired2 hosted2 owed2 paid2 s2 h1 h2
      exact ⟨a1, a2, a3, a4, a5, a6, a7, a8, a9, a10, a11, a12, a13, q1, q2, q3, fun i hi => by rw [q4 i hi, h3 i hi]⟩
    simp only [lX1_drawDeeds_35, if_neg (nI_ge (show j < G from hjG) (show G < 2 ^ 31 by omega)), lX12_draws_67, if_neg hge, d1', d2', bind_eq]
    obtain ⟨c, hc, ec, hwC, hwM⟩ := sim_why hH hF hjG
    obtain ⟨⟨⟨e44, e45, e46, e47, e48, e63⟩, eg⟩, ⟨s1, s2, s3, s4, s5, hT⟩, m1, m2⟩ := id hF
    by_cases h0 : w = 0
    · have n1' : ¬ nI w = 1 := fun e => by have := c1.mp e; omega
      simp only [if_pos (c0.mpr h0), hwC, hwM, bind_eq, bX1_drawDeeds_73, bX12_draws_107, if_neg n1']
      by_cases hy : whyN sit tak hid j c = 0
      · obtain ⟨r, a1, a2, a3, a4, a5, a6, a7, a8, a9, a10, a11, s2', q1, q2, q3, q4, q5⟩ := sim_sit hH hF hjG hc ec (whyN_0 hy).2.1
        simp only [if_pos hy, q1, q2, bind_eq]
        exact go a1 a2 a3 a4 a5 a6 a7 a8 a9 a10 a11 s2' (hH.congr (fun i hi => q4 i (Or.inl hi))) q3 q4
      · simp only [if_neg hy]
        exact go sit tak ser ovr hst pia coins tired hosted owed paid s hH hF (fun _ _ => rfl)
    · have n0 : ¬ nI w = 0 := fun e => h0 (c0.mp e)
      simp only [if_neg n0, bX1_drawDeeds_73, bX12_draws_107]
      by_cases h1 : w = 1
      · simp only [if_pos (c1.mpr h1), seated_eq (show j < 31 by omega), bind_eq, nmv_eq, e63]
        by_cases hb : bt sit j = true
        · obtain ⟨sit', tak', r1, r2, r3⟩ := RF_rise hC9 hG hF hjG hb
          simp only [if_pos hb, if_neg (show ¬ (1 : Int32) = 0 by decide), r1, bind_eq]
          rw [← r2]
          exact go sit' tak' ser ovr hst pia coins tired hosted owed paid _ (hH.congr (fun i hi => pk_un (by omega))) r3 (fun i hi => pk_un (by omega))
        · rw [clr_none (by omega) (Bool.eq_false_iff.mpr hb), fa_upd_same e63]
          simp only [if_neg hb, if_pos (show (0 : Int32) = 0 from rfl)]
          exact go sit tak ser ovr hst pia coins tired hosted owed paid s hH hF (fun _ _ => rfl)
      · have n1' : ¬ nI w = 1 := fun e => h1 (c1.mp e)
        simp only [if_neg n1']
        exact go sit tak ser ovr hst pia coins tired hosted owed paid s hH hF (fun _ _ => rfl)
/-- the deeds of a round drawn -/
theorem deeds_eq {C G D : Nat} {pride speed payer cost s : A1} (hH : RH C G D pride speed payer cost s) {sit tak ser hid rnd ovr hst pia lot : Int32} {coins chairOf tired hosted owed paid : A1} (hF : RF C G D sit tak ser hid rnd ovr hst pia coins chairOf tired hosted owed paid s) :
    ∃ (sit' tak' ser' ovr' hst' pia' lot' : Int32) (coins' tired' hosted' owed' paid' s' : A1),
      fX1_drawDeeds hid (nI G) (nI D) payer cost chairOf sit tak ser ovr hst pia lot coins tired hosted owed paid = some (sit', tak', ser', ovr', hst', pia', lot', coins', tired', hosted', owed', paid') ∧
      (∀ k7 x1 x3, (if s 2 ≤ 0 then lX12_draws_67 k7 5000 lot s x1 x3 0 else (fX12_draw lot 2).bind (fun (r_5, u5_seed) => if r_5 = 0 then (fX12_draw u5_seed (s 2)).bind (fun (r_6, u6_seed) => nmv ((s 45) ||| (1 <<< (r_6 &&& 31))) (fun w3 => nmv (upd s 45 w3) (fun w4 => lX12_draws_67 k7 5000 u6_seed w4 x1 x3 0))) else lX12_draws_67 k7 5000 u5_seed s x1 x3 0)) = (fX12_round s' (-1)).bind (fun (_, u) => k7 lot' u x1 (x3 + 1))) ∧
      RF C G D sit' tak' ser' hid rnd ovr' hst' pia' coins' chairOf tired' hosted' owed' paid' s' ∧ (∀ i, (i < 44 ∨ 92 ≤ i) → s' i = s i) := by
  obtain ⟨⟨hC2, hC9, hG, hGC, hD⟩, ⟨e0, e1, e2⟩, -, -⟩ := id hH
  have loop : ∀ (ser lot : Int32) (s2 : A1), RH C G D pride speed payer cost s2 → RF C G D sit tak ser hid rnd ovr hst pia coins chairOf tired hosted owed paid s2 → (∀ i, (i < 44 ∨ 92 ≤ i) → s2 i = s i) → ∃ (sit' tak' ser' ovr' hst' pia' lot' : Int32) (coins' tired' hosted' owed' paid' s' : A1),
      lX1_drawDeeds_35 hid (nI G) (nI D) payer cost chairOf 5000 sit tak ser ovr hst pia lot coins tired hosted owed paid 0 = some (sit', tak', ser', ovr', hst', pia', lot', coins', tired', hosted', owed', paid') ∧
      (∀ k7 x1 x3, lX12_draws_67 k7 5000 lot s2 x1 x3 0 = (fX12_round s' (-1)).bind (fun (_, u) => k7 lot' u x1 (x3 + 1))) ∧ RF C G D sit' tak' ser' hid rnd ovr' hst' pia' coins' chairOf tired' hosted' owed' paid' s' ∧ (∀ i, (i < 44 ∨ 92 ≤ i) → s' i = s i) := by
    intro ser lot s2 h1 h2 h3
    obtain ⟨a1, a2, a3, a4, a5, a6, a7, a8, a9, a10, a11, a12, a13, q1, q2, q3, q4⟩ := draws_loop G 0 5000 5000 (by omega) (by omega) (by omega) sit tak ser ovr hst pia lot coins tired hosted owed paid s2 h1 h2
    exact ⟨a1, a2, a3, a4, a5, a6, a7, a8, a9, a10, a11, a12, a13, q1, q2, q3, fun i hi => by rw [q4 i hi, h3 i hi]⟩
  unfold fX1_drawDeeds
  rw [e2]
  by_cases hd : D = 0
  · subst hd
    simp only [if_pos (show nI 0 ≤ 0 by decide)]
    exact loop ser lot s hH hF (fun _ _ => rfl)
  · simp only [if_neg (nI_nle (show 0 < D by omega) (show D < 2 ^ 31 by omega))]
    obtain ⟨w, l2, hw, d1, d2⟩ := draw_eq (l := lot) (show 0 < 2 by omega) (show 2 ≤ 8 by omega)
    have d1' : fX1_draw lot 2 = some (nI w, l2) := d1
    have d2' : fX12_draw lot 2 = some (nI w, l2) := d2
    simp only [d1', d2', bind_eq]
    have c0 : nI w = 0 ↔ w = 0 := nI_eq (b := 0) (by omega) (by omega)
    by_cases h0 : w = 0
    · obtain ⟨d, l3, hdd, d3, d4⟩ := draw_eq (l := l2) (show 0 < D by omega) (show D ≤ 8 by omega)
      have hs3 := hF.2.1.2.2.1
      have e45 : s 45 = ser := hF.1.1.2.1
      simp only [if_pos (c0.mpr h0), d3, d4, bind_eq, nmv_eq, fX1_bring, e45]
      exact loop _ l3 _ (hH.congr (fun i hi => pk_un (by omega))) (RF_ser hG hF (sm_set hs3 hdd (by omega))) (fun i hi => pk_un (by omega))
    · simp only [if_neg (fun e => h0 (c0.mp e))]
      exact loop ser l2 s hH hF (fun _ _ => rfl)
theorem drawn_loop {C G D : Nat} {pride speed payer cost : A1} {hid : Int32} {N : Nat} (hN : N ≤ 60) : ∀ (m k n1 n2 ρ : Nat), k + m = N → m < n1 → m < n2 → ρ ≤ 400 → ∀ (sit tak ser ovr hst pia lot : Int32) (coins chairOf tired hosted owed paid s : A1), RH C G D pride speed payer cost s → RF C G D sit tak ser hid (nI ρ) ovr hst pia coins chairOf tired hosted owed paid s →
    ∃ (k' : Nat) (sit' tak' ser' ovr' hst' pia' lot' : Int32) (coins' chairOf' tired' hosted' owed' paid' s' : A1), k ≤ k' ∧ k' ≤ N ∧ ρ + (k' - k) ≤ 400 ∧ (k < N → ρ < 400 → k < k') ∧
      lX1_goDrawn_7 hid (nI C) (nI G) (nI D) pride speed payer cost n1 sit tak ser (nI ρ) ovr hst pia lot coins chairOf tired hosted owed paid (nI N) (nI k) = some (nI k', sit', tak', ser', nI (ρ + (k' - k)), ovr', hst', pia', lot', coins', chairOf', tired', hosted', owed', paid') ∧
      lX12_draws_7 n2 lot s (nI N) (nI k) = some (nI k', lot', s') ∧ RF C G D sit' tak' ser' hid (nI (ρ + (k' - k))) ovr' hst' pia' coins' chairOf' tired' hosted' owed' paid' s' ∧ (∀ i, (i < 44 ∨ 92 ≤ i) → s' i = s i) := by
  intro m
  induction m with
  | zero =>
    intro k n1 n2 ρ hk hn1 hn2 hρ sit tak ser ovr hst pia lot coins chairOf tired hosted owed paid s hH hF
    obtain ⟨n1, rfl⟩ : ∃ k, n1 = k + 1 := ⟨n1 - 1, by omega⟩
    obtain ⟨n2, rfl⟩ : ∃ k, n2 = k + 1 := ⟨n2 - 1, by omega⟩
    have e : k = N := by omega
    subst e
    refine ⟨k, sit, tak, ser, ovr, hst, pia, lot, coins, chairOf, tired, hosted, owed, paid, s, Nat.le_refl _, Nat.le_refl _, by omega, fun h => absurd h (by omega), ?_, ?_, ?_, fun _ _ => rfl⟩
    · rw [lX1_goDrawn_7, if_pos (nI_le (Nat.le_refl _) (by omega)), Nat.sub_self, Nat.add_zero]
    · rw [lX12_draws_7, if_pos (nI_le (Nat.le_refl _) (by omega))]
    · rw [Nat.sub_self, Nat.add_zero]
      exact hF
  | succ m ih =>
    intro k n1 n2 ρ hk hn1 hn2 hρ sit tak ser ovr hst pia lot coins chairOf tired hosted owed paid s hH hF
    obtain ⟨n1, rfl⟩ : ∃ k, n1 = k + 1 := ⟨n1 - 1, by omega⟩
    obtain ⟨n2, rfl⟩ : ∃ k, n2 = k + 1 := ⟨n2 - 1, by omega⟩
    have e44 : s 44 = nI ρ := hF.1.1.1
    have c400 : (400 : Int32) ≤ nI ρ ↔ 400 ≤ ρ := nI_leI (a := 400) (by omega) (by omega)
    rw [lX1_goDrawn_7, if_neg (nI_ge (by omega) (by omega)), lX12_draws_7, if_neg (nI_ge (by omega) (by omega)), e44]
    by_cases h4 : 400 ≤ ρ
    · rw [if_pos (c400.mpr h4), if_pos (c400.mpr h4)]
      refine ⟨k, sit, tak, ser, ovr, hst, pia, lot, coins, chairOf, tired, hosted, owed, paid, s, Nat.le_refl _, by omega, by omega, fun _ h => absurd h (by omega), ?_, rfl, ?_, fun _ _ => rfl⟩
      · rw [Nat.sub_self, Nat.add_zero]
      · rw [Nat.sub_self, Nat.add_zero]
        exact hF
    · rw [if_neg (fun e => h4 (c400.mp e)), if_neg (fun e => h4 (c400.mp e))]
      obtain ⟨a1, a2, a3, a4, a5, a6, a7, a8, a9, a10, a11, a12, s1, q1, q2, q3, q4⟩ := deeds_eq (lot := lot) hH hF
      have hH1 : RH C G D pride speed payer cost s1 := hH.congr (fun i hi => q4 i (Or.inl hi))
      obtain ⟨r, b1, b2, b3, b4, b5, b6, b7, b8, b9, b10, b11, b12, s2, r1, r2, r3, r4, r5⟩ := sim_round hH1 q3 (-1)
      have hH2 : RH C G D pride speed payer cost s2 := hH1.congr (fun i hi => r4 i (Or.inl hi))
      rw [nI_1] at r1 r3
      obtain ⟨k', c1, c2, c3, c4, c5, c6, c7, c8, c9, c10, c11, c12, c13, s3, u1, u2, u3, u4, u5, u6, u7, u8⟩ := ih (k + 1) n1 n2 (ρ + 1) (by omega) (by omega) (by omega) (by omega) b1 b2 b3 b4 b5 b6 a7 b7 b8 b9 b10 b11 b12 s2 hH2 r3
      have ek : ρ + 1 + (k' - (k + 1)) = ρ + (k' - k) := by omega
      rw [ek] at u3 u5 u7
      refine ⟨k', c1, c2, c3, c4, c5, c6, c7, c8, c9, c10, c11, c12, c13, s3, by omega, u2, u3, fun _ _ => by omega, ?_, ?_, u7, fun i hi => by rw [u8 i hi, r4 i hi, q4 i hi]⟩
      · rw [q1, bind_eq]
        dsimp only
        rw [r1, bind_eq]
        dsimp only
        rw [nI_1]
        exact u5
      · rw [q2 (lX12_draws_7 n2) (nI N) (nI k), r2, bind_eq]
        dsimp only
        rw [nI_1]
        exact u6
