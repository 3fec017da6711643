/-! ===== pure: what is tried is brought back; next ===== -/
theorem tries_loop {s : A1} : ∀ m j n (bf : A1), j + m = 48 → m < n → (∀ i, i < j → bf i = s (44 + i)) → ∃ bf', lX12_tries_2 s n bf (nI j) = some bf' ∧ ∀ i, i < 48 → bf' i = s (44 + i) := by
  intro m
  induction m with
  | zero =>
    intro j n bf hj hn h0
    obtain ⟨n, rfl⟩ : ∃ k, n = k + 1 := ⟨n - 1, by omega⟩
    refine ⟨bf, ?_, fun i hi => h0 i (by omega)⟩
    rw [lX12_tries_2, if_pos (show (48 : Int32) ≤ nI j from nI_le (a := 48) (by omega) (by omega))]
  | succ m ih =>
    intro j n bf hj hn h0
    obtain ⟨n, rfl⟩ : ∃ k, n = k + 1 := ⟨n - 1, by omega⟩
    rw [lX12_tries_2, if_neg (show ¬ (48 : Int32) ≤ nI j from nI_ge (b := 48) (by omega) (by omega)), c44, gI_oka (by omega) (by omega), ixa (by omega), nmv_eq, gI_ok (by omega) (by omega), ix0 (by omega), nmv_eq, nI_1]
    refine ih (j + 1) n _ (by omega) (by omega) (fun i hi => ?_)
    by_cases e : i = j
    · subst e
      exact pk_us
    · rw [pk_un e]
      exact h0 i (by omega)
theorem tries_eq (s bf : A1) : ∃ bf', fX12_tries s bf = some bf' ∧ ∀ i, i < 48 → bf' i = s (44 + i) := tries_loop 48 0 5000 bf (by omega) (by omega) (fun i h => absurd h (by omega))
theorem back_loop {bf : A1} : ∀ m j n (s : A1), j + m = 48 → m < n → ∃ s', lX12_back_2 bf n s (nI j) = some s' ∧ (∀ i, j ≤ i → i < 48 → s' (44 + i) = bf i) ∧ ∀ i, (i < 44 + j ∨ 92 ≤ i) → s' i = s i := by
  intro m
  induction m with
  | zero =>
    intro j n s hj hn
    obtain ⟨n, rfl⟩ : ∃ k, n = k + 1 := ⟨n - 1, by omega⟩
    refine ⟨s, ?_, fun i h1 h2 => absurd h1 (by omega), fun _ _ => rfl⟩
    rw [lX12_back_2, if_pos (show (48 : Int32) ≤ nI j from nI_le (a := 48) (by omega) (by omega))]
  | succ m ih =>
    intro j n s hj hn
    obtain ⟨n, rfl⟩ : ∃ k, n = k + 1 := ⟨n - 1, by omega⟩
    rw [lX12_back_2, if_neg (show ¬ (48 : Int32) ≤ nI j from nI_ge (b := 48) (by omega) (by omega)), gI_ok (by omega) (by omega), ix0 (by omega), nmv_eq, c44, gI_oka (by omega) (by omega), ixa (by omega), nmv_eq, nI_1]
    obtain ⟨s', z1, z2, z3⟩ := ih (j + 1) n (upd s (44 + j) (bf j)) (by omega) (by omega)
    refine ⟨s', z1, fun i h1 h2 => ?_, fun i hi => ?_⟩
    · by_cases e : i = j
      · subst e
        rw [z3 (44 + i) (by omega), pk_us]
      · exact z2 i (by omega) h2
    · rw [z3 i (by omega), pk_un (by omega)]
/-- what is tried is brought back -/
theorem back_eq {s0 s bf : A1} (h1 : ∀ i, i < 48 → bf i = s0 (44 + i)) (h2 : ∀ i, (i < 44 ∨ 92 ≤ i) → s i = s0 i) : fX12_back bf s = some s0 := by
  obtain ⟨s', z1, z2, z3⟩ := back_loop (bf := bf) 48 0 5000 s (by omega) (by omega)
  unfold fX12_back
  have e : s' = s0 := by
    funext i
    rcases Nat.lt_or_ge i 44 with h | h
    · rw [z3 i (by omega), h2 i (by omega)]
    · rcases Nat.lt_or_ge i 92 with h3 | h3
      · have e2 : i = 44 + (i - 44) := by omega
        rw [e2, z2 (i - 44) (by omega) (by omega), h1 (i - 44) (by omega)]
      · rw [z3 i (by omega), h2 i (by omega)]
  rw [← e]
  exact z1
/-- the rows of another feast, copied: seven of them -/
theorem cpy7 {f g : A1} {i : Nat} (h : i < 7) : va_cpy f g 0 0 7 i = f i := by
  unfold va_cpy
  simp [h]
theorem RF_congr {C G D : Nat} {sit tak ser hid rnd ovr hst pia : Int32} {coins chairOf tired hosted owed paid coins2 chairOf2 tired2 hosted2 owed2 paid2 s : A1} (hF : RF C G D sit tak ser hid rnd ovr hst pia coins chairOf tired hosted owed paid s) (h : ∀ g, g < G → coins2 g = coins g ∧ chairOf2 g = chairOf g ∧ tired2 g = tired g ∧ hosted2 g = hosted g ∧ owed2 g = owed g ∧ paid2 g = paid g) :
    RF C G D sit tak ser hid rnd ovr hst pia coins2 chairOf2 tired2 hosted2 owed2 paid2 s := by
  obtain ⟨⟨e, eg⟩, ⟨s1, s2, s3, s4, s5, hT1, hT2⟩, m1, m2⟩ := hF
  refine ⟨⟨e, fun g hg => ?_⟩, ⟨s1, s2, s3, s4, fun g hg => ?_, fun c hc => ?_, fun a b ha hb h1 h2 h3 => ?_⟩, fun g hg => ?_, ?_⟩
  · obtain ⟨x1, x2, x3, x4, x5, x6⟩ := h g hg
    rw [x1, x2, x3, x4, x5, x6]
    exact eg g hg
  · rw [(h g hg).2.1]
    exact s5 g hg
  · rw [hT1 c hc]
    constructor
    · intro ⟨g, hg, y1, y2⟩
      exact ⟨g, hg, y1, by rw [(h g hg).2.1]; exact y2⟩
    · intro ⟨g, hg, y1, y2⟩
      rw [(h g hg).2.1] at y2
      exact ⟨g, hg, y1, y2⟩
  · rw [(h a ha).2.1, (h b hb).2.1] at h3
    exact hT2 a b ha hb h1 h2 h3
  · obtain ⟨x1, x2, x3, x4, x5, x6⟩ := h g hg
    rw [x1, x3, x5, x6]
    exact m1 g hg
  · rw [m2]
    exact psum_congr (fun i hi => ((h i hi).2.2.2.2.2).symm)
theorem RF_copy {C G D : Nat} {sit tak ser hid rnd ovr hst pia : Int32} {coins chairOf tired hosted owed paid o1 o2 o3 o4 o5 o6 s : A1} (hG : G ≤ 7) (hF : RF C G D sit tak ser hid rnd ovr hst pia coins chairOf tired hosted owed paid s) :
    RF C G D sit tak ser hid rnd ovr hst pia (va_cpy coins o1 0 0 7) (va_cpy chairOf o2 0 0 7) (va_cpy tired o3 0 0 7) (va_cpy hosted o4 0 0 7) (va_cpy owed o5 0 0 7) (va_cpy paid o6 0 0 7) s :=
  RF_congr hF (fun g hg => ⟨cpy7 (by omega), cpy7 (by omega), cpy7 (by omega), cpy7 (by omega), cpy7 (by omega), cpy7 (by omega)⟩)
/-- the host of a trial, both -/
theorem sim_hostNext {C G D : Nat} {pride speed payer cost s : A1} (hH : RH C G D pride speed payer cost s) {sit tak ser hid ovr hst pia : Int32} {ρ : Nat} (hρ : ρ ≤ 800) {coins chairOf tired hosted owed paid : A1} (hF : RF C G D sit tak ser hid (nI ρ) ovr hst pia coins chairOf tired hosted owed paid s) (hi0 : Int32) :
    ∃ (h sit' tak' ser' rnd' ovr' hst' pia' : Int32) (coins' chairOf' tired' hosted' owed' paid' : A1) (hi : Int32) (s' : A1),
      fX9_hostOfTrial (nI C) (nI G) (nI D) pride speed payer cost hid sit tak ser (nI ρ) ovr hst pia coins chairOf tired hosted owed paid = some (h, sit', tak', ser', rnd', ovr', hst', pia', coins', chairOf', tired', hosted', owed', paid') ∧
      fX12_hostNext hi0 s = some (h, hi, s') ∧ (∀ i, (i < 44 ∨ 92 ≤ i) → s' i = s i) ∧ (h = -1 ∨ ∃ w k', w < G ∧ h = nI w ∧ bt sit w = false ∧ k' < 99 ∧ hi = nI (k' + 1) ∧ rnd' = nI (ρ + k' + 1)) := by
  obtain ⟨h, b1, b2, b3, b4, b5, b6, b7, b8, b9, b10, b11, b12, b13, hi, s2, z1, z2, z3, z4⟩ := host_loop 99 0 5000 5000 0 ρ (by omega) (by omega) (by omega) (by omega) (by omega) (by omega) sit tak ser ovr hst pia coins chairOf tired hosted owed paid s hH hF QI_0
  refine ⟨h, b1, b2, b3, b4, b5, b6, b7, b8, b9, b10, b11, b12, b13, hi, s2, z1, z2, z3, ?_⟩
  rcases z4 with z4 | ⟨w, k', y1, y2, y3, y4, y5, y6, y7⟩
  · exact Or.inl z4
  · exact Or.inr ⟨w, k', y1, y2, y3, y5, y6, by rw [y7]; exact congrArg nI (by omega)⟩
/-- promise 16: next -/
theorem T_next {C G D : Nat} {pride speed payer cost s : A1} (hH : RH C G D pride speed payer cost s) {sit tak ser hid ovr hst pia : Int32} {ρ : Nat} (hρ : ρ ≤ 400) {coins chairOf tired hosted owed paid : A1} (hF : RF C G D sit tak ser hid (nI ρ) ovr hst pia coins chairOf tired hosted owed paid s) (nb t1 t2 t3 t4 t5 t6 t7 t8 : Int32) (u1 u2 u3 u4 u5 u6 : A1) (th hi0 : Int32) (bf : A1) :
    ∃ (h nb' t1' t2' t3' t4' t5' t6' t7' t8' : Int32) (u1' u2' u3' u4' u5' u6' : A1) (hi' : Int32) (bf' : A1),
      fX11_next (nI C) (nI G) (nI D) pride speed payer cost sit tak ser hid (nI ρ) ovr hst pia coins chairOf tired hosted owed paid nb t1 t2 t3 t4 t5 t6 t7 t8 u1 u2 u3 u4 u5 u6 = some (h, nb', t1', t2', t3', t4', t5', t6', t7', t8', u1', u2', u3', u4', u5', u6') ∧
      fX12_next th hi0 nb s bf = some (h, 0, hi', nb', s, bf') := by
  have hG := hH.1
  obtain ⟨h, b1, b2, b3, b4, b5, b6, b7, b8, b9, b10, b11, b12, b13, hi, s2, z1, z2, z3, z4⟩ := sim_hostNext hH (by omega) (RF_copy (o1 := u1) (o2 := u2) (o3 := u3) (o4 := u4) (o5 := u5) (o6 := u6) (by omega) hF) hi0
  obtain ⟨bf', e1, e2⟩ := tries_eq s bf
  have e3 := back_eq e2 z3
  rcases z4 with rfl | ⟨w, k', y1, rfl, y3, y4, y5, y6⟩
  · refine ⟨-1, nb, b1, b2, b3, hid, b4, b5, b6, b7, b8, b9, b10, b11, b12, b13, hi, bf', ?_, ?_⟩
    · simp only [fX11_next, fX9_hostNext, fX1_copyFrom, bind_eq, z1, if_true]
    · simp only [fX12_next, e1, z2, e3, bind_eq, if_pos (show (-1 : Int32) < 0 by decide)]
  · refine ⟨nI w, nI (k' + 1), b1, b2, b3, hid, b4, b5, b6, b7, b8, b9, b10, b11, b12, b13, hi, bf', ?_, ?_⟩
    · have e4 : b4 - nI ρ = nI (k' + 1) := by
        rw [y6, pk_sub (by omega)]
        exact congrArg nI (by omega)
      simp only [fX11_next, fX9_hostNext, fX1_copyFrom, bind_eq, z1, if_neg (nI_neg w (by omega)), nmv_eq, e4]
    · simp only [fX12_next, e1, z2, e3, bind_eq, if_neg (nI_pos (show w < 2 ^ 31 by omega)), y5]
