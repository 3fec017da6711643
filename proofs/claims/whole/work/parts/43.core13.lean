/-! ===== pure: numbers that are there; linger, safe, odds ===== -/
theorem in_eq {N : Nat} (hN : N ≤ 9) (x : Int32) : (∃ g, g < N ∧ x = nI g ∧ fX12_isIn x 0 (nI N - 1) = some 1 ∧ ¬ x < 0 ∧ ¬ nI N ≤ x) ∨ (fX12_isIn x 0 (nI N - 1) = some 0 ∧ (x < 0 ∨ nI N ≤ x)) := by
  unfold fX12_isIn
  by_cases h0 : x < 0
  · right
    rw [if_pos h0]
    exact ⟨rfl, Or.inl h0⟩
  · rw [if_neg h0]
    obtain ⟨j, hj, rfl⟩ := nI_of h0
    by_cases h1 : j < N
    · left
      have e : nI N - 1 = nI (N - 1) := pk_sub (b := 1) (by omega)
      rw [e, if_neg (nI_nlt (by omega) (by omega))]
      exact ⟨j, h1, rfl, rfl, h0, nI_ge h1 (by omega)⟩
    · right
      refine ⟨?_, Or.inr (nI_le (by omega) hj)⟩
      by_cases h2 : N = 0
      · subst h2
        have e : nI 0 - 1 = -1 := by decide
        rw [e, if_pos]
        rw [fa_lt, nI_toInt hj]
        have e2 : (-1 : Int32).toInt = -1 := by decide
        rw [e2]
        omega
      · have e : nI N - 1 = nI (N - 1) := pk_sub (b := 1) (by omega)
        rw [e, if_pos (nI_lt (by omega) hj)]
/-- a GUEST is there, or not, for both -/
theorem guest_is {C G D : Nat} {pride speed payer cost s : A1} (hH : RH C G D pride speed payer cost s) (x : Int32) : (∃ g, g < G ∧ x = nI g ∧ fX2_hasGuest (nI G) x = some 1 ∧ fX12_isGuest s x = some 1) ∨ (fX2_hasGuest (nI G) x = some 0 ∧ fX12_isGuest s x = some 0) := by
  obtain ⟨⟨-, -, hG, -, -⟩, ⟨-, e1, -⟩, -, -⟩ := hH
  unfold fX2_hasGuest fX12_isGuest
  rw [e1]
  rcases in_eq (show G ≤ 9 by omega) x with ⟨g, h1, h2, h3, h4, h5⟩ | ⟨h3, h4⟩
  · left
    refine ⟨g, h1, h2, ?_, ?_⟩
    · rw [if_neg h4, if_neg h5]
    · rw [h3]
      rfl
  · right
    refine ⟨?_, ?_⟩
    · rcases h4 with h4 | h4
      · rw [if_pos h4]
      · by_cases h5 : x < 0
        · rw [if_pos h5]
        · rw [if_neg h5, if_pos h4]
    · rw [h3]
      rfl
theorem chair_is {C G D : Nat} {pride speed payer cost s : A1} (hH : RH C G D pride speed payer cost s) (x : Int32) : (∃ c, c < C ∧ x = nI c ∧ fX2_hasChair (nI C) x = some 1 ∧ fX12_isChair s x = some 1) ∨ (fX2_hasChair (nI C) x = some 0 ∧ fX12_isChair s x = some 0 ∧ (x < 0 ∨ nI C ≤ x)) := by
  obtain ⟨⟨-, hC9, -, -, -⟩, ⟨e0, -, -⟩, -, -⟩ := hH
  unfold fX2_hasChair fX12_isChair
  rw [e0]
  rcases in_eq hC9 x with ⟨g, h1, h2, h3, h4, h5⟩ | ⟨h3, h4⟩
  · left
    refine ⟨g, h1, h2, ?_, ?_⟩
    · rw [if_neg h4, if_neg h5]
    · rw [h3]
      rfl
  · right
    refine ⟨?_, ?_, h4⟩
    · rcases h4 with h4 | h4
      · rw [if_pos h4]
      · by_cases h5 : x < 0
        · rw [if_pos h5]
        · rw [if_neg h5, if_pos h4]
    · rw [h3]
      rfl
theorem linger_loop {C G D : Nat} {pride speed payer cost : A1} {g : Nat} (hg : g < G) {s0 bf : A1} (hbf : ∀ i, i < 48 → bf i = s0 (44 + i)) (f1 f2 f3 f4 f5 f6 f7 f8 : Int32) (g1 g2 g3 g4 g5 g6 : A1) : ∀ (m k n1 n2 : Nat), k + m = 21 → m < n1 → m + 1 < n2 → ∀ (b : Int32) (sit tak ser hid rnd ovr hst pia : Int32) (coins chairOf tired hosted owed paid : A1) (s : A1), RH C G D pride speed payer cost s → RF C G D sit tak ser hid rnd ovr hst pia coins chairOf tired hosted owed paid s → (∀ i, (i < 44 ∨ 92 ≤ i) → s i = s0 i) →
    ∃ (b' : Int32) (t1' t2' t3' t4' t5' t6' t7' t8' : Int32) (u1' u2' u3' u4' u5' u6' : A1), lX9_longestLinger_15 (nI C) (nI G) (nI D) pride speed payer cost f1 f2 f3 f4 f5 f6 f7 f8 g1 g2 g3 g4 g5 g6 n1 sit tak ser hid rnd ovr hst pia coins chairOf tired hosted owed paid (nI g) b (nI k) = some (b', t1', t2', t3', t4', t5', t6', t7', t8', u1', u2', u3', u4', u5', u6') ∧ lX12_linger_34 n2 0 s bf (nI g) b 0 (nI k) = some (b', 0, s0, bf) := by
  intro m
  induction m with
  | zero =>
    intro k n1 n2 hk hn1 hn2 b sit tak ser hid rnd ovr hst pia coins chairOf tired hosted owed paid s hH hF hfr
    obtain ⟨n1, rfl⟩ : ∃ k, n1 = k + 1 := ⟨n1 - 1, by omega⟩
    obtain ⟨n2, rfl⟩ : ∃ k, n2 = k + 1 := ⟨n2 - 1, by omega⟩
    have h20 : (20 : Int32) < nI k := nI_lt (a := 20) (by omega) (by omega)
    refine ⟨b, sit, tak, ser, hid, rnd, ovr, hst, pia, coins, chairOf, tired, hosted, owed, paid, ?_, ?_⟩
    · rw [lX9_longestLinger_15, if_pos h20]
    · rw [lX12_linger_34, if_pos h20, back_eq hbf hfr, bind_eq]
  | succ m ih =>
    intro k n1 n2 hk hn1 hn2 b sit tak ser hid rnd ovr hst pia coins chairOf tired hosted owed paid s hH hF hfr
    obtain ⟨n1, rfl⟩ : ∃ k, n1 = k + 1 := ⟨n1 - 1, by omega⟩
    obtain ⟨n2, rfl⟩ : ∃ k, n2 = k + 1 := ⟨n2 - 1, by omega⟩
    have h20 : ¬ (20 : Int32) < nI k := nI_nlt (b := k) (a := 20) (by omega) (by omega)
    obtain ⟨c, hc, ec, hwC, hwM⟩ := sim_why hH hF hg
    obtain ⟨r, a1, a2, a3, a4, a5, a6, a7, a8, a9, a10, a11, a12, s', q1, q2, q3, q4, q5⟩ := sim_round hH hF (nI g)
    have hH2 : RH C G D pride speed payer cost s' := hH.congr (fun i hi => q4 i (Or.inl hi))
    have go : ∀ b1 : Int32, ∃ (b' : Int32) (t1' t2' t3' t4' t5' t6' t7' t8' : Int32) (u1' u2' u3' u4' u5' u6' : A1), bX9_longestLinger_34 (nI C) (nI G) (nI D) pride speed payer cost f1 f2 f3 f4 f5 f6 f7 f8 g1 g2 g3 g4 g5 g6 (lX9_longestLinger_15 (nI C) (nI G) (nI D) pride speed payer cost f1 f2 f3 f4 f5 f6 f7 f8 g1 g2 g3 g4 g5 g6 n1) sit tak ser hid rnd ovr hst pia coins chairOf tired hosted owed paid (nI g) b1 (nI k) = some (b', t1', t2', t3', t4', t5', t6', t7', t8', u1', u2', u3', u4', u5', u6') ∧ bX12_linger_56 (lX12_linger_34 n2) 0 s bf (nI g) b1 (nI k) = some (b', 0, s0, bf) := by
      intro b1
      unfold bX9_longestLinger_34 bX12_linger_56
      rw [q1, q2, bind_eq, bind_eq]
      dsimp only
      rcases q5 with ⟨rfl, -⟩ | ⟨rfl, -⟩
      · rw [if_pos rfl, nI_1]
        exact ih (k + 1) n1 n2 (by omega) (by omega) (by omega) b1 a1 a2 a3 hid _ a4 a5 a6 a7 a8 a9 a10 a11 a12 s' hH2 q3 (fun i hi => by rw [q4 i hi, hfr i hi])
      · rw [if_neg (by decide)]
        refine ⟨b1, a1, a2, a3, hid, rnd + 1, a4, a5, a6, a7, a8, a9, a10, a11, a12, rfl, ?_⟩
        obtain ⟨n2, rfl⟩ : ∃ k, n2 = k + 1 := ⟨n2 - 1, by omega⟩
        rw [lX12_linger_34, back_eq hbf (fun i hi => by rw [q4 i hi, hfr i hi]), bind_eq]
        by_cases h : (20 : Int32) < nI k + 1
        · rw [if_pos h]
        · rw [if_neg h, if_neg (by decide)]
    rw [lX9_longestLinger_15, if_neg h20, lX12_linger_34, if_neg h20, if_pos (show (0 : Int32) = 0 from rfl), hwC, hwM, bind_eq, bind_eq]
    by_cases h0 : whyN sit tak hid g c = 0
    · rw [if_pos h0, if_pos h0]
      exact go (nI k)
    · rw [if_neg h0, if_neg h0]
      exact go b
/-- promise 18: linger -/
theorem T_linger {C G D : Nat} {pride speed payer cost s : A1} (hH : RH C G D pride speed payer cost s) {sit tak ser hid ovr hst pia : Int32} {ρ : Nat} (hρ : ρ ≤ 400) {coins chairOf tired hosted owed paid : A1} (hF : RF C G D sit tak ser hid (nI ρ) ovr hst pia coins chairOf tired hosted owed paid s) (t1 t2 t3 t4 t5 t6 t7 t8 : Int32) (u1 u2 u3 u4 u5 u6 : A1) (th : Int32) (bf : A1) (x : Int32) :
    ∃ (r : Int32) (t1' t2' t3' t4' t5' t6' t7' t8' : Int32) (u1' u2' u3' u4' u5' u6' : A1) (bf' : A1), fX11_linger (nI C) (nI G) (nI D) pride speed payer cost sit tak ser hid (nI ρ) ovr hst pia coins chairOf tired hosted owed paid t1 t2 t3 t4 t5 t6 t7 t8 u1 u2 u3 u4 u5 u6 x = some (r, t1', t2', t3', t4', t5', t6', t7', t8', u1', u2', u3', u4', u5', u6') ∧ fX12_linger th s bf x = some (r, 0, s, bf') := by
  have hG := hH.1
  have e63 : s 63 = sit := hF.1.1.2.2.2.2.2
  rcases guest_is hH x with ⟨g, hg, rfl, h1, h2⟩ | ⟨h1, h2⟩
  · by_cases hb : bt sit g = true
    · refine ⟨-1, t1, t2, t3, t4, t5, t6, t7, t8, u1, u2, u3, u4, u5, u6, bf, ?_, ?_⟩
      · simp only [fX11_linger, h1, bind_eq, if_neg (show ¬ (1 : Int32) = 0 by decide), seated_eq (show g < 31 by omega), if_pos hb]
      · simp only [fX12_linger, h2, bind_eq, if_neg (show ¬ (1 : Int32) = 0 by decide), doesSit_eq (show g < 31 by omega), e63, if_pos hb]
    · obtain ⟨bf', e1, e2⟩ := tries_eq s bf
      obtain ⟨b', t1', t2', t3', t4', t5', t6', t7', t8', u1', u2', u3', u4', u5', u6', z1, z2⟩ := linger_loop hg e2 sit tak ser hid (nI ρ) ovr hst pia coins chairOf tired hosted owed paid 21 0 5000 5000 (by omega) (by omega) (by omega) (-1) sit tak ser hid (nI ρ) ovr hst pia _ _ _ _ _ _ s hH (RF_copy (o1 := u1) (o2 := u2) (o3 := u3) (o4 := u4) (o5 := u5) (o6 := u6) (by omega) hF) (fun _ _ => rfl)
      have z1' := z1
      rw [show nI 0 = 0 from rfl] at z1' z2
      refine ⟨b', t1', t2', t3', t4', t5', t6', t7', t8', u1', u2', u3', u4', u5', u6', bf', ?_, ?_⟩
      · simp only [fX11_linger, h1, bind_eq, if_neg (show ¬ (1 : Int32) = 0 by decide), seated_eq (show g < 31 by omega), if_neg hb, if_true, fX9_longestLinger, fX1_copyFrom, z1']
      · simp only [fX12_linger, h2, bind_eq, if_neg (show ¬ (1 : Int32) = 0 by decide), doesSit_eq (show g < 31 by omega), e63, if_neg hb, if_true, e1, z2]
  · refine ⟨-1, t1, t2, t3, t4, t5, t6, t7, t8, u1, u2, u3, u4, u5, u6, bf, ?_, ?_⟩
    · simp only [fX11_linger, h1, bind_eq, if_true]
    · simp only [fX12_linger, h2, bind_eq, if_true]
theorem RF_stand {C G D : Nat} {sit tak ser hid rnd ovr hst pia : Int32} {coins chairOf tired hosted owed paid s : A1} (hG : G ≤ 7) (hF : RF C G D sit tak ser hid rnd ovr hst pia coins chairOf tired hosted owed paid s) {j c : Nat} (hj : j < G) (hb : bt sit j = false) (hc : c < C) :
    RF C G D sit tak ser hid rnd ovr hst pia coins (upd chairOf j (nI c)) tired hosted owed paid (upd s (56 + j) (nI c)) := by
  obtain ⟨⟨t, ht, et⟩, -⟩ := hF.2.2.1 j hj
  have h := RF_move hG hF hj hb hc ht
  rw [fa_upd_same et] at h
  have e64 : s (64 + j) = nI t := by rw [(hF.1.2 j hj).2.2.1, et]
  rw [fa_upd_same (show (upd s (56 + j) (nI c)) (64 + j) = nI t by rw [pk_un (by omega), e64])] at h
  exact h
theorem safe_loop {C G D : Nat} {pride speed payer cost s : A1} (hH : RH C G D pride speed payer cost s) {sit tak ser hid ovr hst pia : Int32} {ρ : Nat} (hρ : ρ ≤ 400) {coins chairOf tired hosted owed paid : A1} (hF : RF C G D sit tak ser hid (nI ρ) ovr hst pia coins chairOf tired hosted owed paid s) {g : Nat} (hg : g < G) (hb : bt sit g = false) {bf : A1} (hbf : ∀ i, i < 48 → bf i = s (44 + i)) : ∀ (m k n1 n2 : Nat), k + m = C → m < n1 → m < n2 → ∀ (t1 t2 t3 t4 t5 t6 t7 t8 : Int32) (u1 u2 u3 u4 u5 u6 : A1) (acc hi : Int32),
    ∃ (r : Int32) (t1' t2' t3' t4' t5' t6' t7' t8' : Int32) (u1' u2' u3' u4' u5' u6' : A1) (hi' : Int32), lX9_safeChairs_4 (nI C) (nI G) (nI D) pride speed payer cost sit tak ser hid (nI ρ) ovr hst pia coins chairOf tired hosted owed paid n1 t1 t2 t3 t4 t5 t6 t7 t8 u1 u2 u3 u4 u5 u6 (nI g) acc (nI k) = some (r, t1', t2', t3', t4', t5', t6', t7', t8', u1', u2', u3', u4', u5', u6') ∧ lX12_safe_31 n2 0 hi s bf (nI g) acc (nI k) = some (r, 0, hi', s, bf) := by
  have hC := hH.1
  have e0 : s 0 = nI C := hH.2.1.1
  intro m
  induction m with
  | zero =>
    intro k n1 n2 hk hn1 hn2 t1 t2 t3 t4 t5 t6 t7 t8 u1 u2 u3 u4 u5 u6 acc hi
    obtain ⟨n1, rfl⟩ : ∃ k, n1 = k + 1 := ⟨n1 - 1, by omega⟩
    obtain ⟨n2, rfl⟩ : ∃ k, n2 = k + 1 := ⟨n2 - 1, by omega⟩
    have e : k = C := by omega
    subst e
    refine ⟨acc, t1, t2, t3, t4, t5, t6, t7, t8, u1, u2, u3, u4, u5, u6, hi, ?_, ?_⟩
    · rw [lX9_safeChairs_4, if_pos (nI_le (Nat.le_refl _) (by omega))]
    · rw [lX12_safe_31, if_pos (by rw [e0]; exact nI_le (Nat.le_refl _) (by omega))]
  | succ m ih =>
    intro k n1 n2 hk hn1 hn2 t1 t2 t3 t4 t5 t6 t7 t8 u1 u2 u3 u4 u5 u6 acc hi
    obtain ⟨n1, rfl⟩ : ∃ k, n1 = k + 1 := ⟨n1 - 1, by omega⟩
    obtain ⟨n2, rfl⟩ : ∃ k, n2 = k + 1 := ⟨n2 - 1, by omega⟩
    have hkC : ¬ s 0 ≤ nI k := by rw [e0]; exact nI_ge (by omega) (by omega)
    have hF2 := RF_copy (o1 := u1) (o2 := u2) (o3 := u3) (o4 := u4) (o5 := u5) (o6 := u6) (show G ≤ 7 by omega) hF
    have hF3 := RF_stand (by omega) hF2 hg hb (show k < C by omega)
    have hH3 : RH C G D pride speed payer cost (upd s (56 + g) (nI k)) := hH.congr (fun i hi => pk_un (by omega))
    obtain ⟨h, b1, b2, b3, b4, b5, b6, b7, b8, b9, b10, b11, b12, b13, hi2, s2, z1, z2, z3, z4⟩ := sim_hostNext hH3 (by omega) hF3 hi
    have hbk := back_eq hbf (fun i hi => by rw [z3 i hi, pk_un (by omega)] : ∀ i, (i < 44 ∨ 92 ≤ i) → s2 i = s i)
    simp only [lX9_safeChairs_4, if_neg (nI_ge (show k < C by omega) (show C < 2 ^ 31 by omega)), fX1_copyFrom, bind_eq, gI_ok (show g < 7 by omega) (show 7 ≤ 1000 by omega), ix0 (show g < 1000 by omega), nmv_eq, z1, lX12_safe_31, if_neg hkC, c56, gI_oka (show 56 + g < 273 by omega) (show 273 ≤ 1000 by omega), ixa (show 56 + g < 1000 by omega), z2]
    by_cases hh : h = nI g
    · simp only [if_pos hh, bX12_safe_67, hbk, bind_eq, Int32.or_zero, nI_1]
      exact ih (k + 1) n1 n2 (by omega) (by omega) (by omega) b1 b2 b3 hid b4 b5 b6 b7 b8 b9 b10 b11 b12 b13 acc hi2
    · simp only [if_neg hh, bX12_safe_67, hbk, bind_eq, nI_1]
      exact ih (k + 1) n1 n2 (by omega) (by omega) (by omega) b1 b2 b3 hid b4 b5 b6 b7 b8 b9 b10 b11 b12 b13 _ hi2
/-- promise 23: safe -/
theorem T_safe {C G D : Nat} {pride speed payer cost s : A1} (hH : RH C G D pride speed payer cost s) {sit tak ser hid ovr hst pia : Int32} {ρ : Nat} (hρ : ρ ≤ 400) {coins chairOf tired hosted owed paid : A1} (hF : RF C G D sit tak ser hid (nI ρ) ovr hst pia coins chairOf tired hosted owed paid s) (t1 t2 t3 t4 t5 t6 t7 t8 : Int32) (u1 u2 u3 u4 u5 u6 : A1) (th hi : Int32) (bf : A1) (x : Int32) :
    ∃ (r : Int32) (t1' t2' t3' t4' t5' t6' t7' t8' : Int32) (u1' u2' u3' u4' u5' u6' : A1) (hi' : Int32) (bf' : A1), fX11_safe (nI C) (nI G) (nI D) pride speed payer cost sit tak ser hid (nI ρ) ovr hst pia coins chairOf tired hosted owed paid t1 t2 t3 t4 t5 t6 t7 t8 u1 u2 u3 u4 u5 u6 x = some (r, t1', t2', t3', t4', t5', t6', t7', t8', u1', u2', u3', u4', u5', u6') ∧ fX12_safe th hi s bf x = some (r, 0, hi', s, bf') := by
  have hG := hH.1
  have e63 : s 63 = sit := hF.1.1.2.2.2.2.2
  rcases guest_is hH x with ⟨g, hg, rfl, h1, h2⟩ | ⟨h1, h2⟩
  · by_cases hb : bt sit g = true
    · refine ⟨-1, t1, t2, t3, t4, t5, t6, t7, t8, u1, u2, u3, u4, u5, u6, hi, bf, ?_, ?_⟩
      · simp only [fX11_safe, h1, bind_eq, if_neg (show ¬ (1 : Int32) = 0 by decide), seated_eq (show g < 31 by omega), if_pos hb]
      · simp only [fX12_safe, h2, bind_eq, if_neg (show ¬ (1 : Int32) = 0 by decide), doesSit_eq (show g < 31 by omega), e63, if_pos hb]
    · obtain ⟨bf', e1, e2⟩ := tries_eq s bf
      obtain ⟨r, t1', t2', t3', t4', t5', t6', t7', t8', u1', u2', u3', u4', u5', u6', hi', z1, z2⟩ := safe_loop hH hρ hF hg (Bool.eq_false_iff.mpr hb) e2 C 0 5000 5000 (by omega) (by omega) (by omega) t1 t2 t3 t4 t5 t6 t7 t8 u1 u2 u3 u4 u5 u6 0 hi
      rw [show nI 0 = 0 from rfl] at z1 z2
      refine ⟨r, t1', t2', t3', t4', t5', t6', t7', t8', u1', u2', u3', u4', u5', u6', hi', bf', ?_, ?_⟩
      · simp only [fX11_safe, h1, bind_eq, if_neg (show ¬ (1 : Int32) = 0 by decide), seated_eq (show g < 31 by omega), if_neg hb, if_true, fX9_safeChairs, z1]
      · simp only [fX12_safe, h2, bind_eq, if_neg (show ¬ (1 : Int32) = 0 by decide), doesSit_eq (show g < 31 by omega), e63, if_neg hb, if_true, e1, z2]
  · refine ⟨-1, t1, t2, t3, t4, t5, t6, t7, t8, u1, u2, u3, u4, u5, u6, hi, bf, ?_, ?_⟩
    · simp only [fX11_safe, h1, bind_eq, if_true]
    · simp only [fX12_safe, h2, bind_eq, if_true]
