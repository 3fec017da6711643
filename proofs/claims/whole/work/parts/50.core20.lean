/-! ===== pure: the tape; promises 26, 36: gone, odds ===== -/
/-- one tape, both -/
def RT (n nb : Nat) (sz len : Int32) (B tp : A1) : Prop := nb = 940 ∧ n ≤ 940 ∧ sz = nI n ∧ len = nI n ∧ (∀ i, i < 940 → tp i = B i) ∧ ∀ i, i < 940 → ∃ b : Int8, B i = b.toInt32
/-- a byte as 0 to 255 -/
def oc (B : A1) (i : Nat) : Nat := (B i &&& 255).toBitVec.toNat
theorem oc_eq (B : A1) (i : Nat) : B i &&& 255 = nI (oc B i) ∧ oc B i < 256 := by
  have h : sm 8 (B i &&& 255) := fun k h1 _ => by rw [b_and, b_255, decide_eq_false (by omega), Bool.and_false]
  obtain ⟨S, hS, e⟩ := sm_nat (by omega) h
  have e2 : oc B i = S := by
    unfold oc
    rw [e]
    show (BitVec.ofNat 32 S).toNat = S
    rw [BitVec.toNat_ofNat]
    exact Nat.mod_eq_of_lt (by omega)
  rw [e2]
  exact ⟨e, by omega⟩
theorem at_in {n i : Nat} {B : A1} (hi : i < n) (hn : n ≤ 940) : fX10_at 940 (nI n) B (nI i) = some (nI (oc B i)) := by
  unfold fX10_at
  rw [if_neg (nI_pos (by omega)), if_neg (nI_ge hi (by omega)), if_neg (show ¬ Int32.ofNat 940 ≤ nI i from nI_ge (b := 940) (by omega) (by omega)), gI_ok (by omega) (by omega), ix0 (by omega), (oc_eq B i).1]
theorem at_out {n i : Nat} {B : A1} (hi : n ≤ i) (hn : i < 2 ^ 31) : fX10_at 940 (nI n) B (nI i) = some (-1) := by
  unfold fX10_at
  rw [if_neg (nI_pos hn), if_pos (nI_le hi hn)]
theorem octet_eq {i : Nat} {B tp : A1} (hi : i < 940) (h : ∀ i, i < 940 → tp i = B i) : fX12_octet tp (nI i) = some (nI (oc B i)) := by
  unfold fX12_octet
  rw [gI_ok (by omega) (by omega), ix0 (by omega), h i hi, (oc_eq B i).1]
theorem gone_rounds {C G D : Nat} {pride speed payer cost : A1} {s0 bf : A1} (hbf : ∀ i, i < 48 → bf i = s0 (44 + i)) (f1 f2 f3 f4 f5 f6 f7 f8 : Int32) (g1 g2 g3 g4 g5 g6 : A1) {R : Nat} (hR : R ≤ 9) (y : Int32) : ∀ (m k n1 n2 : Nat), k + m = R → m < n1 → m < n2 → ∀ (sit tak ser hid rnd ovr hst pia : Int32) (coins chairOf tired hosted owed paid : A1) (s : A1), RH C G D pride speed payer cost s → RF C G D sit tak ser hid rnd ovr hst pia coins chairOf tired hosted owed paid s → (∀ i, (i < 44 ∨ 92 ≤ i) → s i = s0 i) →
    ∃ (r : Int32) (t1' t2' t3' t4' t5' t6' t7' t8' : Int32) (u1' u2' u3' u4' u5' u6' : A1), lX9_sitBehind_26 (nI C) (nI G) (nI D) pride speed payer cost f1 f2 f3 f4 f5 f6 f7 f8 g1 g2 g3 g4 g5 g6 n1 sit tak ser hid rnd ovr hst pia coins chairOf tired hosted owed paid (nI R) (nI k) = some (r, t1', t2', t3', t4', t5', t6', t7', t8', u1', u2', u3', u4', u5', u6') ∧ lX12_isGone_22 bf n2 s (nI R) y (nI k) = some (if r = y then 1 else 0, s0) := by
  intro m
  induction m with
  | zero =>
    intro k n1 n2 hk hn1 hn2 sit tak ser hid rnd ovr hst pia coins chairOf tired hosted owed paid s hH hF hfr
    obtain ⟨n1, rfl⟩ := sn hn1
    obtain ⟨n2, rfl⟩ := sn hn2
    have e : k = R := by omega
    subst e
    have e63 : s 63 = sit := hF.1.1.2.2.2.2.2
    refine ⟨sit, sit, tak, ser, hid, rnd, ovr, hst, pia, coins, chairOf, tired, hosted, owed, paid, ?_, ?_⟩
    · rw [lX9_sitBehind_26, if_pos (nI_le (Nat.le_refl _) (by omega))]
    · rw [lX12_isGone_22, if_pos (nI_le (Nat.le_refl _) (by omega)), e63, back_eq hbf hfr, bind_eq, bind_eq]
      by_cases h : sit = y
      · rw [if_pos h, if_pos h]
      · rw [if_neg h, if_neg h]
  | succ m ih =>
    intro k n1 n2 hk hn1 hn2 sit tak ser hid rnd ovr hst pia coins chairOf tired hosted owed paid s hH hF hfr
    obtain ⟨n1, rfl⟩ := sn hn1
    obtain ⟨n2, rfl⟩ := sn hn2
    have hge : ¬ nI R ≤ nI k := nI_ge (by omega) (by omega)
    obtain ⟨r, a1, a2, a3, a4, a5, a6, a7, a8, a9, a10, a11, a12, s', q1, q2, q3, q4, q5⟩ := sim_round hH hF (-1)
    have hH2 : RH C G D pride speed payer cost s' := hH.congr (fun i hi => q4 i (Or.inl hi))
    rw [lX9_sitBehind_26, if_neg hge, lX12_isGone_22, if_neg hge, q1, q2, bind_eq, bind_eq]
    dsimp only
    rw [nI_1]
    exact ih (k + 1) n1 n2 (by omega) (by omega) (by omega) a1 a2 a3 hid _ a4 a5 a6 a7 a8 a9 a10 a11 a12 s' hH2 q3 (fun i hi => by rw [q4 i hi, hfr i hi])
theorem gone_one {C G D : Nat} {pride speed payer cost s : A1} (hH : RH C G D pride speed payer cost s) {sit tak ser hid ovr hst pia : Int32} {ρ : Nat} (hρ : ρ ≤ 400) {coins chairOf tired hosted owed paid : A1} (hF : RF C G D sit tak ser hid (nI ρ) ovr hst pia coins chairOf tired hosted owed paid s) {bf : A1} (hbf : ∀ i, i < 48 → bf i = s (44 + i)) {R : Nat} (hR : R ≤ 9) (y : Int32) {c : Nat} (hc : c < C) (t1 t2 t3 t4 t5 t6 t7 t8 : Int32) (u1 u2 u3 u4 u5 u6 : A1) :
    ∃ (r : Int32) (t1' t2' t3' t4' t5' t6' t7' t8' : Int32) (u1' u2' u3' u4' u5' u6' : A1), fX9_sitBehind (nI C) (nI G) (nI D) pride speed payer cost sit tak ser hid (nI ρ) ovr hst pia coins chairOf tired hosted owed paid t1 t2 t3 t4 t5 t6 t7 t8 u1 u2 u3 u4 u5 u6 (1 <<< (nI c &&& 31)) (nI R) = some (r, t1', t2', t3', t4', t5', t6', t7', t8', u1', u2', u3', u4', u5', u6') ∧ fX12_isGone bf s (nI c) (nI R) y = some (if r = y then 1 else 0, s) := by
  have hG := hH.1
  have hF2 := RF_hid (by omega) (RF_copy (o1 := u1) (o2 := u2) (o3 := u3) (o4 := u4) (o5 := u5) (o6 := u6) (show G ≤ 7 by omega) hF) (sm_set hF.2.1.2.2.2.1 hc (by omega))
  have e47 : s 47 = hid := hF.1.1.2.2.2.1
  obtain ⟨r, t1', t2', t3', t4', t5', t6', t7', t8', u1', u2', u3', u4', u5', u6', z1, z2⟩ := gone_rounds hbf sit tak ser hid (nI ρ) ovr hst pia coins chairOf tired hosted owed paid hR y R 0 5000 5000 (by omega) (by omega) (by omega) _ _ _ _ _ _ _ _ _ _ _ _ _ _ _ (hH.congr (fun i hi => pk_un (by omega))) hF2 (fun i hi => pk_un (by omega))
  rw [show nI 0 = 0 from rfl] at z1 z2
  refine ⟨r, t1', t2', t3', t4', t5', t6', t7', t8', u1', u2', u3', u4', u5', u6', ?_, ?_⟩
  · unfold fX9_sitBehind fX1_copyFrom
    rw [bind_eq]
    dsimp only
    rw [nmv_eq, z1]
  · unfold fX12_isGone
    rw [if_neg (show ¬ (9 : Int32) ≤ nI c from nI_ge (b := 9) (by omega) (by omega)), nmv_eq, nmv_eq, e47, z2]
theorem gone_asis {C G D : Nat} {pride speed payer cost s : A1} (hH : RH C G D pride speed payer cost s) {sit tak ser hid ovr hst pia : Int32} {ρ : Nat} (hρ : ρ ≤ 400) {coins chairOf tired hosted owed paid : A1} (hF : RF C G D sit tak ser hid (nI ρ) ovr hst pia coins chairOf tired hosted owed paid s) {bf : A1} (hbf : ∀ i, i < 48 → bf i = s (44 + i)) {R : Nat} (hR : R ≤ 9) (y : Int32) (t1 t2 t3 t4 t5 t6 t7 t8 : Int32) (u1 u2 u3 u4 u5 u6 : A1) :
    ∃ (r : Int32) (t1' t2' t3' t4' t5' t6' t7' t8' : Int32) (u1' u2' u3' u4' u5' u6' : A1), fX9_sitBehind (nI C) (nI G) (nI D) pride speed payer cost sit tak ser hid (nI ρ) ovr hst pia coins chairOf tired hosted owed paid t1 t2 t3 t4 t5 t6 t7 t8 u1 u2 u3 u4 u5 u6 0 (nI R) = some (r, t1', t2', t3', t4', t5', t6', t7', t8', u1', u2', u3', u4', u5', u6') ∧ fX12_isGone bf s 9 (nI R) y = some (if r = y then 1 else 0, s) := by
  have hG := hH.1
  have hF2 := RF_copy (o1 := u1) (o2 := u2) (o3 := u3) (o4 := u4) (o5 := u5) (o6 := u6) (show G ≤ 7 by omega) hF
  obtain ⟨r, t1', t2', t3', t4', t5', t6', t7', t8', u1', u2', u3', u4', u5', u6', z1, z2⟩ := gone_rounds hbf sit tak ser hid (nI ρ) ovr hst pia coins chairOf tired hosted owed paid hR y R 0 5000 5000 (by omega) (by omega) (by omega) _ _ _ _ _ _ _ _ _ _ _ _ _ _ _ hH hF2 (fun _ _ => rfl)
  rw [show nI 0 = 0 from rfl] at z1 z2
  refine ⟨r, t1', t2', t3', t4', t5', t6', t7', t8', u1', u2', u3', u4', u5', u6', ?_, ?_⟩
  · unfold fX9_sitBehind fX1_copyFrom
    rw [bind_eq]
    dsimp only
    rw [nmv_eq, Int32.or_zero, z1]
  · unfold fX12_isGone
    rw [if_pos (show (9 : Int32) ≤ 9 by decide), z2]
theorem isChair_out {C G D : Nat} {pride speed payer cost s : A1} (hH : RH C G D pride speed payer cost s) {c : Nat} (hc : C ≤ c) (hc2 : c < 2 ^ 31) : fX12_isChair s (nI c) = some 0 := by
  have hC := hH.1
  rcases chair_is hH (nI c) with ⟨j, h1, h2, -, -⟩ | ⟨-, h, -⟩
  · rw [nI_eq (by omega) (by omega)] at h2
    omega
  · exact h
theorem isChair_in {C G D : Nat} {pride speed payer cost s : A1} (hH : RH C G D pride speed payer cost s) {c : Nat} (hc : c < C) : fX12_isChair s (nI c) = some 1 := by
  have hC := hH.1
  rcases chair_is hH (nI c) with ⟨j, h1, h2, -, h⟩ | ⟨-, -, h | h⟩
  · exact h
  · exact absurd h (nI_pos (by omega))
  · exact absurd h (nI_ge hc (by omega))
theorem gone_tail {C G D : Nat} {pride speed payer cost s : A1} (hH : RH C G D pride speed payer cost s) {bf tp : A1} {R y : Int32} {v : Int32} (h0 : fX12_octet tp 0 = some R) (h1 : fX12_octet tp 1 = some y) (hv : fX12_isGone bf s 9 R y = some (v, s)) (hv2 : v = 0 ∨ v = 1) (th len sz p lim : Int32) : ∀ (m c n : Nat), c + m = 9 → m + 1 < n → C ≤ c → ∀ acc, lX12_gone_44 tp n th len sz p lim s bf acc (nI c) = some (acc ||| (if v = 0 then 0 else 512), th, len, sz, p, lim, s, bf) := by
  have hC := hH.1
  intro m
  induction m with
  | zero =>
    intro c n hc hn hCc acc
    obtain ⟨n, rfl⟩ := sn hn
    obtain ⟨n, rfl⟩ := sn (show 0 < n by omega)
    have e : c = 9 := by omega
    subst e
    rw [lX12_gone_44, if_neg (by decide), if_pos (by decide)]
    unfold bX12_gone_65
    rw [h0, bind_eq, h1, bind_eq, show nI 9 = 9 from rfl, hv, bind_eq]
    dsimp only
    rcases hv2 with rfl | rfl
    · rw [if_pos rfl, if_pos rfl, lX12_gone_44, if_pos (by decide)]
    · rw [if_neg nn1, if_neg nn1, nmv_eq, lX12_gone_44, if_pos (by decide)]
      rfl
  | succ m ih =>
    intro c n hc hn hCc acc
    obtain ⟨n, rfl⟩ := sn hn
    rw [lX12_gone_44, if_neg (show ¬ (9 : Int32) < nI c from nI_nlt (a := 9) (by omega) (by omega)), if_neg (show ¬ nI c = 9 from fun e => absurd ((nI_eq (b := 9) (by omega) (by omega)).mp e) (by omega)), isChair_out hH hCc (by omega), bind_eq, if_pos rfl, Int32.or_zero, nI_1]
    exact ih (c + 1) n (by omega) (by omega) (by omega) acc
theorem gone_loop {C G D : Nat} {pride speed payer cost s : A1} (hH : RH C G D pride speed payer cost s) {sit tak ser hid ovr hst pia : Int32} {ρ : Nat} (hρ : ρ ≤ 400) {coins chairOf tired hosted owed paid : A1} (hF : RF C G D sit tak ser hid (nI ρ) ovr hst pia coins chairOf tired hosted owed paid s) {bf tp : A1} (hbf : ∀ i, i < 48 → bf i = s (44 + i)) {R : Nat} (hR : R ≤ 9) {y v b : Int32} (h0 : fX12_octet tp 0 = some (nI R)) (h1 : fX12_octet tp 1 = some y) (hv : fX12_isGone bf s 9 (nI R) y = some (v, s)) (hv2 : v = 0 ∨ v = 1) (th len sz p lim : Int32) : ∀ (m c n1 n2 : Nat), c + m = C → m < n1 → m + 10 < n2 → ∀ (t1 t2 t3 t4 t5 t6 t7 t8 : Int32) (u1 u2 u3 u4 u5 u6 : A1) (acc : Int32),
    ∃ (acc' : Int32) (t1' t2' t3' t4' t5' t6' t7' t8' : Int32) (u1' u2' u3' u4' u5' u6' : A1), lX9_chairsGone_21 (nI C) (nI G) (nI D) pride speed payer cost sit tak ser hid (nI ρ) ovr hst pia coins chairOf tired hosted owed paid n1 t1 t2 t3 t4 t5 t6 t7 t8 u1 u2 u3 u4 u5 u6 (nI R) y (b ||| acc) (nI c) = some (b ||| acc', t1', t2', t3', t4', t5', t6', t7', t8', u1', u2', u3', u4', u5', u6') ∧ lX12_gone_44 tp n2 th len sz p lim s bf acc (nI c) = some (acc' ||| (if v = 0 then 0 else 512), th, len, sz, p, lim, s, bf) := by
  have hC := hH.1
  intro m
  induction m with
  | zero =>
    intro c n1 n2 hc hn1 hn2 t1 t2 t3 t4 t5 t6 t7 t8 u1 u2 u3 u4 u5 u6 acc
    obtain ⟨n1, rfl⟩ := sn hn1
    have e : c = C := by omega
    subst e
    refine ⟨acc, t1, t2, t3, t4, t5, t6, t7, t8, u1, u2, u3, u4, u5, u6, ?_, ?_⟩
    · rw [lX9_chairsGone_21, if_pos (nI_le (Nat.le_refl _) (by omega))]
    · exact gone_tail hH h0 h1 hv hv2 th len sz p lim (9 - c) c n2 (by omega) (by omega) (Nat.le_refl _) acc
  | succ m ih =>
    intro c n1 n2 hc hn1 hn2 t1 t2 t3 t4 t5 t6 t7 t8 u1 u2 u3 u4 u5 u6 acc
    obtain ⟨n1, rfl⟩ := sn hn1
    obtain ⟨n2, rfl⟩ := sn hn2
    obtain ⟨r, t1', t2', t3', t4', t5', t6', t7', t8', u1', u2', u3', u4', u5', u6', z1, z2⟩ := gone_one hH hρ hF hbf hR y (show c < C by omega) t1 t2 t3 t4 t5 t6 t7 t8 u1 u2 u3 u4 u5 u6
    rw [lX9_chairsGone_21, if_neg (nI_ge (by omega) (by omega)), z1, bind_eq, lX12_gone_44, if_neg (show ¬ (9 : Int32) < nI c from nI_nlt (a := 9) (by omega) (by omega)), if_neg (show ¬ nI c = 9 from fun e => absurd ((nI_eq (b := 9) (by omega) (by omega)).mp e) (by omega)), isChair_in hH (by omega), bind_eq, if_neg nn1]
    unfold bX12_gone_65
    rw [h0, bind_eq, h1, bind_eq, z2, bind_eq]
    dsimp only
    by_cases h : r = y
    · rw [if_pos h, if_pos h, if_neg nn1, nmv_eq, nmv_eq, Int32.or_assoc, nI_1]
      exact ih (c + 1) n1 n2 (by omega) (by omega) (by omega) _ _ _ _ _ _ _ _ _ _ _ _ _ _ _
    · rw [if_neg h, if_neg h, if_pos rfl, Int32.or_zero, nI_1]
      exact ih (c + 1) n1 n2 (by omega) (by omega) (by omega) _ _ _ _ _ _ _ _ _ _ _ _ _ _ _
/-- promise 26: gone -/
theorem T_gone {C G D : Nat} {pride speed payer cost s : A1} (hH : RH C G D pride speed payer cost s) {sit tak ser hid ovr hst pia : Int32} {ρ : Nat} (hρ : ρ ≤ 400) {coins chairOf tired hosted owed paid : A1} (hF : RF C G D sit tak ser hid (nI ρ) ovr hst pia coins chairOf tired hosted owed paid s) (t1 t2 t3 t4 t5 t6 t7 t8 : Int32) (u1 u2 u3 u4 u5 u6 : A1) {n nb : Nat} {tz len : Int32} {B tp : A1} (hT : RT n nb tz len B tp) (th sz p lim : Int32) (bf : A1) :
    ∃ (r : Int32) (t1' t2' t3' t4' t5' t6' t7' t8' : Int32) (u1' u2' u3' u4' u5' u6' : A1) (sz' p' lim' : Int32) (bf' : A1), fX11_gone nb B (nI C) (nI G) (nI D) pride speed payer cost sit tak ser hid (nI ρ) ovr hst pia coins chairOf tired hosted owed paid tz t1 t2 t3 t4 t5 t6 t7 t8 u1 u2 u3 u4 u5 u6 = some (r, 0, t1', t2', t3', t4', t5', t6', t7', t8', u1', u2', u3', u4', u5', u6') ∧ fX12_gone tp th len sz p lim s bf = some (r, 0, 0, sz', p', lim', s, bf') := by
  obtain ⟨rfl, hn, rfl, rfl, hBt, -⟩ := hT
  unfold fX11_gone fX12_gone fX12_taken
  rw [bind_eq]
  dsimp only
  by_cases h2 : n = 2
  · subst h2
    have e0 : fX12_octet tp 0 = some (nI (oc B 0)) := octet_eq (i := 0) (by omega) hBt
    have e1 : fX12_octet tp 1 = some (nI (oc B 1)) := octet_eq (i := 1) (by omega) hBt
    rw [show (0 : Int32) = nI 0 from rfl, at_in (by omega) hn, bind_eq, show (1 : Int32) = nI 1 from rfl, at_in (by omega) hn, bind_eq, if_pos (show nI 2 = 2 from rfl), if_pos (show nI 2 = 2 from rfl), show nI 0 = 0 from rfl, show nI 1 = 1 from rfl, e0, bind_eq]
    unfold fX12_isIn
    have hR := (oc_eq B 0).2
    by_cases h3 : nI (oc B 0) < 1
    · rw [if_pos h3, if_pos h3, bind_eq, if_pos rfl]
      exact ⟨-1, t1, t2, t3, t4, t5, t6, t7, t8, u1, u2, u3, u4, u5, u6, _, _, _, _, rfl, rfl⟩
    · rw [if_neg h3, if_neg h3]
      by_cases h4 : 9 < nI (oc B 0)
      · rw [if_pos h4, if_pos h4, bind_eq, if_pos rfl]
        exact ⟨-1, t1, t2, t3, t4, t5, t6, t7, t8, u1, u2, u3, u4, u5, u6, _, _, _, _, rfl, rfl⟩
      · rw [if_neg h4, if_neg h4, bind_eq, if_neg nn1]
        have hR9 : oc B 0 ≤ 9 := by
          apply Nat.le_of_not_lt
          intro h
          exact h4 (nI_lt (a := 9) h (by omega))
        obtain ⟨bf', b1, b2⟩ := tries_eq s bf
        rw [b1, bind_eq]
        obtain ⟨r, t1', t2', t3', t4', t5', t6', t7', t8', u1', u2', u3', u4', u5', u6', z1, z2⟩ := gone_asis hH hρ hF b2 hR9 (nI (oc B 1)) t1 t2 t3 t4 t5 t6 t7 t8 u1 u2 u3 u4 u5 u6
        have hv2 : (if r = nI (oc B 1) then (1 : Int32) else 0) = 0 ∨ (if r = nI (oc B 1) then (1 : Int32) else 0) = 1 := by
          by_cases h : r = nI (oc B 1)
          · rw [if_pos h]
            exact Or.inr rfl
          · rw [if_neg h]
            exact Or.inl rfl
        obtain ⟨acc', t1'', t2'', t3'', t4'', t5'', t6'', t7'', t8'', u1'', u2'', u3'', u4'', u5'', u6'', y1, y2⟩ := gone_loop (b := if r = nI (oc B 1) then (512 : Int32) else 0) hH hρ hF b2 hR9 e0 e1 z2 hv2 0 0 (nI 2) 0 940 C 0 5000 5000 (by omega) (by have := hH.1; omega) (by have := hH.1; omega) t1' t2' t3' t4' t5' t6' t7' t8' u1' u2' u3' u4' u5' u6' 0
        rw [Int32.or_zero, show nI 0 = 0 from rfl] at y1
        rw [show nI 0 = 0 from rfl] at y2
        refine ⟨acc' ||| (if (if r = nI (oc B 1) then (1 : Int32) else 0) = 0 then 0 else 512), t1'', t2'', t3'', t4'', t5'', t6'', t7'', t8'', u1'', u2'', u3'', u4'', u5'', u6'', nI 2, 0, 940, bf', ?_, ?_⟩
        · unfold fX9_chairsGone
          rw [z1, bind_eq]
          dsimp only
          by_cases h : r = nI (oc B 1)
          · rw [if_pos h] at y1
            rw [if_pos h, if_pos h, if_neg nn1, y1, bind_eq, Int32.or_comm]
          · rw [if_neg h] at y1
            rw [if_neg h, if_neg h, if_pos rfl, y1, bind_eq, Int32.or_comm]
        · exact y2
  · have h3 : ¬ nI n = 2 := fun e => h2 ((nI_eq (b := 2) (by omega) (by omega)).mp e)
    have hat : ∀ i, i < 2 → ∃ x, fX10_at 940 (nI n) B (nI i) = some x := fun i hi => by
      by_cases h : i < n
      · exact ⟨_, at_in h hn⟩
      · exact ⟨_, at_out (by omega) (by omega)⟩
    obtain ⟨x, hx⟩ := hat 0 (by omega)
    obtain ⟨y, hy⟩ := hat 1 (by omega)
    rw [show nI 0 = 0 from rfl] at hx
    rw [show nI 1 = 1 from rfl] at hy
    rw [hx, bind_eq, hy, bind_eq, if_neg h3, if_neg h3]
    exact ⟨-1, t1, t2, t3, t4, t5, t6, t7, t8, u1, u2, u3, u4, u5, u6, _, _, _, _, rfl, rfl⟩
theorem odds_loop {C G D : Nat} {pride speed payer cost s : A1} (hH : RH C G D pride speed payer cost s) {sit tak ser hid ovr hst pia : Int32} {ρ : Nat} (hρ : ρ ≤ 400) {coins chairOf tired hosted owed paid : A1} (hF : RF C G D sit tak ser hid (nI ρ) ovr hst pia coins chairOf tired hosted owed paid s) {g : Nat} (hg : g < G) {bf : A1} (hbf : ∀ i, i < 48 → bf i = s (44 + i)) {N : Nat} (hN : N ≤ 30) (y : Int32) : ∀ (m k n1 n2 : Nat), k + m = N → m < n1 → m < n2 → ∀ (t1 t2 t3 t4 t5 t6 t7 t8 : Int32) (u1 u2 u3 u4 u5 u6 : A1) (lo sd acc : Int32),
    ∃ (r lo' sd' : Int32) (t1' t2' t3' t4' t5' t6' t7' t8' : Int32) (u1' u2' u3' u4' u5' u6' : A1), lX9_seedsThatMakeHost_6 (nI C) (nI G) (nI D) pride speed payer cost sit tak ser hid (nI ρ) ovr hst pia coins chairOf tired hosted owed paid n1 t1 t2 t3 t4 t5 t6 t7 t8 lo u1 u2 u3 u4 u5 u6 (nI g) (nI N) y acc (nI k) = some (r, t1', t2', t3', t4', t5', t6', t7', t8', lo', u1', u2', u3', u4', u5', u6') ∧ lX12_odds_46 n2 0 sd s bf (nI g) (nI N) y (hosted g) acc (nI k) = some (r, 0, sd', s, bf) := by
  have hG := hH.1
  intro m
  induction m with
  | zero =>
    intro k n1 n2 hk hn1 hn2 t1 t2 t3 t4 t5 t6 t7 t8 u1 u2 u3 u4 u5 u6 lo sd acc
    obtain ⟨n1, rfl⟩ := sn hn1
    obtain ⟨n2, rfl⟩ := sn hn2
    have e : k = N := by omega
    subst e
    refine ⟨acc, lo, sd, t1, t2, t3, t4, t5, t6, t7, t8, u1, u2, u3, u4, u5, u6, ?_, ?_⟩
    · rw [lX9_seedsThatMakeHost_6, if_pos (nI_le (Nat.le_refl _) (by omega))]
    · rw [lX12_odds_46, if_pos (nI_le (Nat.le_refl _) (by omega))]
  | succ m ih =>
    intro k n1 n2 hk hn1 hn2 t1 t2 t3 t4 t5 t6 t7 t8 u1 u2 u3 u4 u5 u6 lo sd acc
    obtain ⟨n1, rfl⟩ := sn hn1
    obtain ⟨n2, rfl⟩ := sn hn2
    have hge : ¬ nI N ≤ nI k := nI_ge (by omega) (by omega)
    obtain ⟨k', b1, b2, b3, b4, b5, b6, b7, b8, b9, b10, b11, b12, b13, s2, z1, z2, z3, z4, z5, z6, z7, z8⟩ := drawn_loop (N := 20) (by omega) 20 0 5000 5000 ρ (by omega) (by omega) (by omega) hρ _ _ _ _ _ _ (y + nI k) _ _ _ _ _ _ s hH (RF_copy (o1 := u1) (o2 := u2) (o3 := u3) (o4 := u4) (o5 := u5) (o6 := u6) (show G ≤ 7 by omega) hF)
    rw [show nI 0 = 0 from rfl, show nI 20 = 20 from rfl] at z5 z6
    have e71 : s2 (71 + g) = b11 g := (z7.1.2 g hg).2.2.2.1
    have hbk := back_eq hbf z8
    simp only [lX9_seedsThatMakeHost_6, if_neg hge, fX1_copyFrom, bind_eq, fX1_goDrawn, z5, lX12_odds_46, fX12_draws, z6, gI_ok (show g < 7 by omega) (show 7 ≤ 1000 by omega), ix0 (show g < 1000 by omega), c71, gI_oka (show 71 + g < 273 by omega) (show 273 ≤ 1000 by omega), ixa (show 71 + g < 1000 by omega), e71, bX12_odds_84, hbk, nI_1]
    by_cases h : b11 g ≤ hosted g
    · rw [if_pos h, if_pos h, Int32.add_zero]
      exact ih (k + 1) n1 n2 (by omega) (by omega) (by omega) _ _ _ _ _ _ _ _ _ _ _ _ _ _ _ _ _
    · rw [if_neg h, if_neg h]
      exact ih (k + 1) n1 n2 (by omega) (by omega) (by omega) _ _ _ _ _ _ _ _ _ _ _ _ _ _ _ _ _
/-- promise 36: odds -/
theorem T_odds {C G D : Nat} {pride speed payer cost s : A1} (hH : RH C G D pride speed payer cost s) {sit tak ser hid ovr hst pia : Int32} {ρ : Nat} (hρ : ρ ≤ 400) {coins chairOf tired hosted owed paid : A1} (hF : RF C G D sit tak ser hid (nI ρ) ovr hst pia coins chairOf tired hosted owed paid s) (t1 t2 t3 t4 t5 t6 t7 t8 : Int32) (u1 u2 u3 u4 u5 u6 : A1) (lo th sd : Int32) (bf : A1) (x y z : Int32) :
    ∃ (r lo' sd' : Int32) (t1' t2' t3' t4' t5' t6' t7' t8' : Int32) (u1' u2' u3' u4' u5' u6' : A1) (bf' : A1), fX11_odds (nI C) (nI G) (nI D) pride speed payer cost sit tak ser hid (nI ρ) ovr hst pia coins chairOf tired hosted owed paid t1 t2 t3 t4 t5 t6 t7 t8 lo u1 u2 u3 u4 u5 u6 x y z = some (r, t1', t2', t3', t4', t5', t6', t7', t8', lo', u1', u2', u3', u4', u5', u6') ∧ fX12_odds th sd s bf x y z = some (r, 0, sd', s, bf') := by
  have hG := hH.1
  unfold fX11_odds fX12_odds
  rcases guest_is hH x with ⟨g, hg, rfl, h1, h2⟩ | ⟨h1, h2⟩
  · rw [h1, h2, bind_eq, bind_eq, if_neg nn1, if_neg nn1]
    unfold fX12_isIn
    by_cases h3 : y < 1
    · rw [if_pos h3, if_pos h3, bind_eq, if_pos rfl]
      exact ⟨-1, lo, sd, t1, t2, t3, t4, t5, t6, t7, t8, u1, u2, u3, u4, u5, u6, bf, rfl, rfl⟩
    · rw [if_neg h3, if_neg h3]
      by_cases h4 : 30 < y
      · rw [if_pos h4, if_pos h4, bind_eq, if_pos rfl]
        exact ⟨-1, lo, sd, t1, t2, t3, t4, t5, t6, t7, t8, u1, u2, u3, u4, u5, u6, bf, rfl, rfl⟩
      · rw [if_neg h4, if_neg h4, bind_eq, if_neg nn1]
        obtain ⟨N, hN, rfl⟩ := nI_of (show ¬ y < 0 from fun h => h3 (fa_trans h (by decide)))
        have hN30 : N ≤ 30 := by
          apply Nat.le_of_not_lt
          intro h
          exact h4 (nI_lt (a := 30) h (by omega))
        obtain ⟨bf', b1, b2⟩ := tries_eq s bf
        obtain ⟨r, lo', sd', t1', t2', t3', t4', t5', t6', t7', t8', u1', u2', u3', u4', u5', u6', z1, z2⟩ := odds_loop hH hρ hF hg b2 hN30 z N 0 5000 5000 (by omega) (by omega) (by omega) t1 t2 t3 t4 t5 t6 t7 t8 u1 u2 u3 u4 u5 u6 lo sd 0
        rw [show nI 0 = 0 from rfl] at z1 z2
        have e71 : s (71 + g) = hosted g := (hF.1.2 g hg).2.2.2.1
        refine ⟨r, lo', sd', t1', t2', t3', t4', t5', t6', t7', t8', u1', u2', u3', u4', u5', u6', bf', ?_, ?_⟩
        · unfold fX9_seedsThatMakeHost
          rw [z1, bind_eq]
        · rw [b1, bind_eq, c71, gI_oka (by omega) (by omega), ixa (by omega), nmv_eq, e71, z2]
  · rw [h1, h2, bind_eq, bind_eq, if_pos rfl, if_pos rfl]
    exact ⟨-1, lo, sd, t1, t2, t3, t4, t5, t6, t7, t8, u1, u2, u3, u4, u5, u6, bf, rfl, rfl⟩
