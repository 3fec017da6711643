/-! ===== pure: push ===== -/
theorem push_skip {C G D : Nat} (hG : G ≤ 7) {pride speed payer cost : A1} (f1 f2 f3 f4 f5 fo f7 f8 : Int32) (g1 g2 g3 g4 g5 g6 : A1) {S : Nat} {x : Int32} (sit tak ser hid rnd ovr hst pia : Int32) (coins chairOf tired hosted owed paid : A1) (ho : ¬ ovr = fo) : ∀ (m j n1 : Nat), j + m = G → m < n1 → (∀ i, j ≤ i → i < G → S.testBit i = false) → lX9_isHostBy_13 (nI C) (nI G) (nI D) pride speed payer cost f1 f2 f3 f4 f5 fo f7 f8 g1 g2 g3 g4 g5 g6 n1 sit tak ser hid rnd ovr hst pia coins chairOf tired hosted owed paid x (nI S) (nI j) = some (if hst = x then 1 else 0, sit, tak, ser, hid, rnd, ovr, hst, pia, coins, chairOf, tired, hosted, owed, paid) := by
  intro m
  induction m with
  | zero =>
    intro j n1 hj hn h
    obtain ⟨n1, rfl⟩ : ∃ k, n1 = k + 1 := ⟨n1 - 1, by omega⟩
    rw [lX9_isHostBy_13, if_pos (nI_le (by omega) (by omega)), if_neg ho]
    by_cases e : hst = x
    · rw [if_pos e, if_pos e]
    · rw [if_neg e, if_neg e]
  | succ m ih =>
    intro j n1 hj hn h
    obtain ⟨n1, rfl⟩ : ∃ k, n1 = k + 1 := ⟨n1 - 1, by omega⟩
    have hb : ¬ ((nI S >>> (nI j &&& 31)) &&& 1) = 1 := fun e => by
      have h2 := (bit_iff (by omega)).mp e
      rw [bt_nI (by omega), h j (Nat.le_refl j) (by omega)] at h2
      cases h2
    rw [lX9_isHostBy_13, if_neg (nI_ge (by omega) (by omega)), if_neg hb, nI_1]
    exact ih (j + 1) n1 (by omega) (by omega) (fun i h1 h2 => h i (by omega) h2)
theorem push_loop {C G D : Nat} {pride speed payer cost : A1} {g : Nat} (hg : g < G) {s0 bf : A1} (hbf : ∀ i, i < 48 → bf i = s0 (44 + i)) {ρ : Nat} (hρ : ρ ≤ 400) {hid : Int32} (f1 f2 f3 f4 f5 fo f7 f8 : Int32) (g1 g2 g3 g4 g5 g6 : A1) {S : Nat} (hS : S < 2 ^ G) (hSg : S.testBit g = false) : ∀ (m j n1 n2 : Nat), j + m = G → m < n1 → m + 1 < n2 → ∀ (sit tak ser hst pia : Int32) (coins chairOf tired hosted owed paid s : A1) (left : Int32), RH C G D pride speed payer cost s → RF C G D sit tak ser hid (nI ρ) fo hst pia coins chairOf tired hosted owed paid s → (∀ i, (i < 44 ∨ 92 ≤ i) → s i = s0 i) → bt sit g = false → (∀ i, j ≤ i → i < G → S.testBit i = true → bt sit i = false) → (∀ i, i < 32 → bt left i = (S.testBit i && decide (j ≤ i))) →
    ∃ (r : Int32) (t1' t2' t3' t4' t5' t6' t7' t8' : Int32) (u1' u2' u3' u4' u5' u6' : A1), lX9_isHostBy_13 (nI C) (nI G) (nI D) pride speed payer cost f1 f2 f3 f4 f5 fo f7 f8 g1 g2 g3 g4 g5 g6 n1 sit tak ser hid (nI ρ) fo hst pia coins chairOf tired hosted owed paid (nI g) (nI S) (nI j) = some (r, t1', t2', t3', t4', t5', t6', t7', t8', u1', u2', u3', u4', u5', u6') ∧ (∀ hi, ∃ hi', lX12_isPush_11 bf (bX12_isPush_93 bf) n2 hi s (nI g) (nI S) 1 0 left (nI j) = some (r, hi', s0)) ∧ (r = 0 ∨ r = 1) := by
  intro m
  induction m with
  | zero =>
    intro j n1 n2 hj hn1 hn2 sit tak ser hst pia coins chairOf tired hosted owed paid s left hH hF hfr hbg hdis hl
    obtain ⟨n1, rfl⟩ : ∃ k, n1 = k + 1 := ⟨n1 - 1, by omega⟩
    obtain ⟨n2, rfl⟩ : ∃ k, n2 = k + 1 := ⟨n2 - 1, by omega⟩
    have hG := hH.1
    have e1 : s 1 = nI G := hH.2.1.2.1
    have e : j = G := by omega
    subst e
    have hle : s 1 ≤ nI j := by rw [e1]; exact nI_le (Nat.le_refl _) (by omega)
    obtain ⟨h, b1, b2, b3, b4, b5, b6, b7, b8, b9, b10, b11, b12, b13, hi2, s2, z1, z2, z3, z4⟩ := sim_hostNext hH (by omega) hF 0
    have hbk := back_eq hbf (fun i hi => by rw [z3 i hi, hfr i hi] : ∀ i, (i < 44 ∨ 92 ≤ i) → s2 i = s0 i)
    refine ⟨if h = nI g then 1 else 0, b1, b2, b3, hid, b4, b5, b6, b7, b8, b9, b10, b11, b12, b13, ?_, fun hi => ⟨hi2, ?_⟩, ?_⟩
    · rw [lX9_isHostBy_13, if_pos (nI_le (Nat.le_refl _) (by omega)), if_pos rfl, z1, bind_eq]
      dsimp only
      by_cases hh : h = nI g
      · rw [if_pos hh, if_pos hh]
      · rw [if_neg hh, if_neg hh]
    · have z2' : fX12_hostNext hi s = some (h, hi2, s2) := z2
      rw [lX12_isPush_11, if_pos hle]
      unfold bX12_isPush_93
      rw [if_neg (by decide), if_pos rfl, z2', bind_eq]
      dsimp only
      unfold bX12_isPush_131 bX12_isPush_135
      rw [hbk, bind_eq, bind_eq]
      by_cases hh : h = nI g
      · rw [if_pos hh, if_pos hh]
      · rw [if_neg hh, if_neg hh]
    · by_cases hh : h = nI g
      · rw [if_pos hh]
        exact Or.inr rfl
      · rw [if_neg hh]
        exact Or.inl rfl
  | succ m ih =>
    intro j n1 n2 hj hn1 hn2 sit tak ser hst pia coins chairOf tired hosted owed paid s left hH hF hfr hbg hdis hl
    obtain ⟨n1, rfl⟩ : ∃ k, n1 = k + 1 := ⟨n1 - 1, by omega⟩
    obtain ⟨n2, rfl⟩ : ∃ k, n2 = k + 1 := ⟨n2 - 1, by omega⟩
    have hG := hH.1
    have e1 : s 1 = nI G := hH.2.1.2.1
    have hjG : j < G := by omega
    have hge : ¬ s 1 ≤ nI j := by rw [e1]; exact nI_ge (by omega) (by omega)
    have hbit : bt (nI S) j = S.testBit j := bt_nI (by omega)
    rw [lX9_isHostBy_13, if_neg (nI_ge (by omega) (by omega))]
    simp only [lX12_isPush_11, if_neg hge, if_neg (show ¬ (1 : Int32) = 0 by decide), if_true, bitOf_eq (show j < 31 by omega), bind_eq, hbit]
    by_cases hb : S.testBit j = true
    · have hb2 : ((nI S >>> (nI j &&& 31)) &&& 1) = 1 := (bit_iff (by omega)).mpr (by rw [hbit]; exact hb)
      rw [if_pos hb2]
      have hjg : j ≠ g := fun e => by rw [e, hSg] at hb; cases hb
      obtain ⟨c, hc, ec, hwC, hwM⟩ := sim_why hH hF hjG
      simp only [hwC, hwM, bind_eq, if_pos hb, if_neg (show ¬ (1 : Int32) = 0 by decide)]
      have hl2 : ∀ i, i < 32 → bt (left ^^^ (1 <<< (nI j &&& 31))) i = (S.testBit i && decide (j + 1 ≤ i)) := by
        intro i hi
        rw [bt_flp (by omega) hi, hl i hi]
        by_cases e : i = j
        · subst e
          rw [hb]
          simp
        · have e2 : (j ≤ i) ↔ (j + 1 ≤ i) := by omega
          simp [e, e2]
      by_cases h0 : whyN sit tak hid j c = 0
      · obtain ⟨r, a1, a2, a3, a4, a5, a6, a7, a8, a9, a10, a11, s', q1, q2, q3, q4, q5⟩ := sim_sit hH hF hjG hc ec (whyN_0 h0).2.1
        have hH2 : RH C G D pride speed payer cost s' := hH.congr (fun i hi => q4 i (Or.inl hi))
        have hfr2 : ∀ i, (i < 44 ∨ 92 ≤ i) → s' i = s0 i := fun i hi => by rw [q4 i hi, hfr i hi]
        simp only [if_pos h0, q1, bind_eq, bX12_isPush_57, if_neg (show ¬ (1 : Int32) = 0 by decide), q2, bX12_isPush_76, nmv_eq, nI_1]
        rcases q5 with ⟨rfl, x2, x3, x4, x5, x6, x7, x8⟩ | ⟨rfl, x2, x3, x4, w, hw1, hw2, hw3⟩
        · subst x2
          have hset : ∀ i, i < G → i ≠ j → bt a1 i = bt sit i := fun i hi e => by
            rw [x3, bt_set (by omega) (by omega)]
            simp [e]
          obtain ⟨r, t1', t2', t3', t4', t5', t6', t7', t8', u1', u2', u3', u4', u5', u6', z1, z2, z3⟩ := ih (j + 1) n1 n2 (by omega) (by omega) (by omega) a1 a2 a3 a5 a6 a7 chairOf a8 a9 a10 a11 s' _ hH2 q3 hfr2 (by rw [hset g hg (Ne.symm hjg)]; exact hbg) (fun i h1 h2 h3 => by rw [hset i h2 (by omega)]; exact hdis i (by omega) h2 h3) hl2
          refine ⟨r, t1', t2', t3', t4', t5', t6', t7', t8', u1', u2', u3', u4', u5', u6', z1, fun hi => ?_, z3⟩
          simp only [if_true]
          exact z2 hi
        · have hwg : w = g := by
            have h1 := hw3 g hg
            rw [bt_set (by omega) (by omega), hbg] at h1
            have h2 : ¬ g = j := Ne.symm hjg
            simp [h2] at h1
            exact h1.symm
          subst hwg
          have hno : ∀ i, j + 1 ≤ i → i < G → S.testBit i = false := by
            intro i h1 h2
            cases h3 : S.testBit i with
            | false => rfl
            | true =>
              have h4 := hw3 i h2
              rw [bt_set (by omega) (by omega), hdis i (by omega) h2 h3] at h4
              have h5 : ¬ i = j := by omega
              simp [h5] at h4
              rw [h4, hSg] at h3
              cases h3
          have hl0 : left ^^^ (1 <<< (nI j &&& 31)) = 0 := by
            apply b_ext
            intro i hi
            rw [hl2 i hi, b_0]
            rcases Nat.lt_or_ge i G with h1 | h1
            · by_cases h2 : j + 1 ≤ i
              · rw [hno i h2 h1]
                rfl
              · simp [h2]
            · rw [Nat.testBit_lt_two_pow (Nat.lt_of_lt_of_le hS (Nat.pow_le_pow_right (by decide) h1))]
              rfl
          have hov : ¬ a4 = fo := by rw [x2]; exact ne_succ fo
          have hsk := push_skip (D := D) (C := C) (pride := pride) (speed := speed) (payer := payer) (cost := cost) (x := nI w) (by omega) f1 f2 f3 f4 f5 fo f7 f8 g1 g2 g3 g4 g5 g6 a1 a2 a3 hid (nI ρ) a4 a5 a6 a7 chairOf a8 a9 a10 a11 hov m (j + 1) n1 (by omega) (by omega) hno
          rw [if_pos hw2] at hsk
          refine ⟨1, a1, a2, a3, hid, nI ρ, a4, a5, a6, a7, chairOf, a8, a9, a10, a11, hsk, fun hi => ⟨hi, ?_⟩, Or.inr rfl⟩
          obtain ⟨n2, rfl⟩ : ∃ k, n2 = k + 1 := ⟨n2 - 1, by omega⟩
          have e48 : s' 48 = nI w + 1 := by rw [q3.1.1.2.2.2.2.1, hw2]
          rw [if_neg (by decide), hl0, lX12_isPush_11]
          have hk : bX12_isPush_93 bf hi s' (nI w) 1 1 0 = some (1, hi, s0) := by
            unfold bX12_isPush_93 bX12_isPush_131
            rw [if_neg (by decide), if_neg (by decide), if_pos rfl, if_pos e48, back_eq hbf hfr2, bind_eq]
          by_cases h9 : s' 1 ≤ nI (j + 1)
          · rw [if_pos h9]
            exact hk
          · rw [if_neg h9, if_neg (by decide), if_neg (by decide)]
            exact hk
      · simp only [if_neg h0, bX12_isPush_57, if_true, bX12_isPush_76, nmv_eq, nI_1]
        refine ⟨0, sit, tak, ser, hid, nI ρ, fo, hst, pia, coins, chairOf, tired, hosted, owed, paid, rfl, fun hi => ⟨hi, ?_⟩, Or.inl rfl⟩
        obtain ⟨n2, rfl⟩ : ∃ k, n2 = k + 1 := ⟨n2 - 1, by omega⟩
        rw [lX12_isPush_11]
        have hk : ∀ y, bX12_isPush_93 bf hi s (nI g) 0 0 y = some (0, hi, s0) := fun y => by
          unfold bX12_isPush_93 bX12_isPush_135
          rw [if_pos rfl, back_eq hbf hfr, bind_eq]
        by_cases h9 : s 1 ≤ nI (j + 1)
        · rw [if_pos h9]
          exact hk _
        · rw [if_neg h9, if_pos rfl]
          exact hk _
    · have hb2 : ¬ ((nI S >>> (nI j &&& 31)) &&& 1) = 1 := fun e => by
        have h2 := (bit_iff (by omega)).mp e
        rw [hbit] at h2
        exact hb h2
      rw [if_neg hb2, nI_1]
      simp only [if_neg hb, if_true]
      refine ih (j + 1) n1 n2 (by omega) (by omega) (by omega) sit tak ser hst pia coins chairOf tired hosted owed paid s left hH hF hfr hbg (fun i h1 h2 h3 => hdis i (by omega) h2 h3) (fun i hi => ?_)
      rw [hl i hi]
      by_cases e : i = j
      · subst e
        simp [hb]
      · have e2 : (j ≤ i) ↔ (j + 1 ≤ i) := by omega
        simp [e2]
/-- the reference refuses a set with one who sits -/
theorem push_bad {C G D : Nat} {pride speed payer cost : A1} {g h : Nat} (hg : g < G) (hh : h < G) {s0 bf : A1} (hbf : ∀ i, i < 48 → bf i = s0 (44 + i)) {rnd hid : Int32} {S : Nat} (hSh : S.testBit h = true) : ∀ (m j n2 : Nat), j + m = G → m + 1 < n2 → j ≤ h → ∀ (sit tak ser ovr hst pia : Int32) (coins chairOf tired hosted owed paid s : A1) (left : Int32), RH C G D pride speed payer cost s → RF C G D sit tak ser hid rnd ovr hst pia coins chairOf tired hosted owed paid s → (∀ i, (i < 44 ∨ 92 ≤ i) → s i = s0 i) → bt sit h = true → bt left h = true →
    ∀ hi, ∃ hi', lX12_isPush_11 bf (bX12_isPush_93 bf) n2 hi s (nI g) (nI S) 1 0 left (nI j) = some (0, hi', s0) := by
  intro m
  induction m with
  | zero =>
    intro j n2 hj hn2 hjh
    exact absurd hjh (by omega)
  | succ m ih =>
    intro j n2 hj hn2 hjh sit tak ser ovr hst pia coins chairOf tired hosted owed paid s left hH hF hfr hbh hlh hi
    obtain ⟨n2, rfl⟩ : ∃ k, n2 = k + 1 := ⟨n2 - 1, by omega⟩
    have hG := hH.1
    have e1 : s 1 = nI G := hH.2.1.2.1
    have hjG : j < G := by omega
    have hge : ¬ s 1 ≤ nI j := by rw [e1]; exact nI_ge (by omega) (by omega)
    have hbit : bt (nI S) j = S.testBit j := bt_nI (by omega)
    simp only [lX12_isPush_11, if_neg hge, if_neg (show ¬ (1 : Int32) = 0 by decide), if_true, bitOf_eq (show j < 31 by omega), bind_eq, hbit]
    by_cases hb : S.testBit j = true
    · obtain ⟨c, hc, ec, hwC, hwM⟩ := sim_why hH hF hjG
      simp only [hwM, bind_eq, if_pos hb, if_neg (show ¬ (1 : Int32) = 0 by decide)]
      by_cases h0 : whyN sit tak hid j c = 0
      · have hjh2 : j ≠ h := fun e => by
          have := (whyN_0 h0).1
          rw [e, hbh] at this
          cases this
        obtain ⟨r, a1, a2, a3, a4, a5, a6, a7, a8, a9, a10, a11, s', q1, q2, q3, q4, q5⟩ := sim_sit hH hF hjG hc ec (whyN_0 h0).2.1
        have hH2 : RH C G D pride speed payer cost s' := hH.congr (fun i hi => q4 i (Or.inl hi))
        have hfr2 : ∀ i, (i < 44 ∨ 92 ≤ i) → s' i = s0 i := fun i hi => by rw [q4 i hi, hfr i hi]
        have hl2 : bt (left ^^^ (1 <<< (nI j &&& 31))) h = true := by
          rw [bt_flp (by omega) (by omega), hlh]
          have : ¬ h = j := Ne.symm hjh2
          simp [this]
        simp only [if_pos h0, bX12_isPush_57, if_neg (show ¬ (1 : Int32) = 0 by decide), q2, bind_eq, bX12_isPush_76, nmv_eq, nI_1]
        rcases q5 with ⟨rfl, x2, x3, x4, x5, x6, x7, x8⟩ | ⟨rfl, x2, x3, x4, w, hw1, hw2, hw3⟩
        · simp only [if_true]
          exact ih (j + 1) n2 (by omega) (by omega) (by omega) a1 a2 a3 a4 a5 a6 a7 chairOf a8 a9 a10 a11 s' _ hH2 q3 hfr2 (by rw [x3, bt_set (by omega) (by omega), hbh]; rfl) hl2 hi
        · refine ⟨hi, ?_⟩
          obtain ⟨n2, rfl⟩ : ∃ k, n2 = k + 1 := ⟨n2 - 1, by omega⟩
          have hne : ¬ left ^^^ (1 <<< (nI j &&& 31)) = 0 := fun e => by
            rw [e, b_0] at hl2
            cases hl2
          have hk : bX12_isPush_93 bf hi s' (nI g) 1 1 (left ^^^ (1 <<< (nI j &&& 31))) = some (0, hi, s0) := by
            unfold bX12_isPush_93 bX12_isPush_135
            rw [if_neg (by decide), if_neg (by decide), if_neg hne, back_eq hbf hfr2, bind_eq]
          rw [if_neg (by decide), lX12_isPush_11]
          by_cases h9 : s' 1 ≤ nI (j + 1)
          · rw [if_pos h9]
            exact hk
          · rw [if_neg h9, if_neg (by decide), if_neg (by decide)]
            exact hk
      · simp only [if_neg h0, bX12_isPush_57, if_true, bX12_isPush_76, nmv_eq, nI_1]
        refine ⟨hi, ?_⟩
        obtain ⟨n2, rfl⟩ : ∃ k, n2 = k + 1 := ⟨n2 - 1, by omega⟩
        rw [lX12_isPush_11]
        have hk : ∀ y, bX12_isPush_93 bf hi s (nI g) 0 0 y = some (0, hi, s0) := fun y => by
          unfold bX12_isPush_93 bX12_isPush_135
          rw [if_pos rfl, back_eq hbf hfr, bind_eq]
        by_cases h9 : s 1 ≤ nI (j + 1)
        · rw [if_pos h9]
          exact hk _
        · rw [if_neg h9, if_pos rfl]
          exact hk _
    · have hjh2 : j ≠ h := fun e => by
        rw [e] at hb
        exact hb hSh
      simp only [if_neg hb, if_true, nI_1]
      exact ih (j + 1) n2 (by omega) (by omega) (by omega) sit tak ser ovr hst pia coins chairOf tired hosted owed paid s left hH hF hfr hbh hlh hi
