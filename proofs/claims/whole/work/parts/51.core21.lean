/-! ===== pure: promises 30, 31: proud, watch ===== -/
def upT (t : Nat) : Int32 := (1 <<< (((if 9 < nI t then 9 else nI t) + 1) &&& 31)) - 1
theorem upT_all : ∀ t, t < 256 → ∀ x, x < 32 → bt (upT t) x = decide (x ≤ t ∧ x ≤ 9) := by decide +kernel
theorem bt1023 : ∀ x, x < 10 → bt 1023 x = true := by decide
theorem upT_eq (t : Nat) : fX9_pridesUpTo (nI t) = some (upT t) := rfl
/-- what pairs say of a PRIDE -/
def prOK (B : A1) (x : Nat) : Nat → Bool
  | 0 => true
  | j + 1 => prOK B x j && (decide (x ≤ oc B (2 * j)) == decide (oc B (2 * j + 1) = 1))
def prS (B : A1) (P : Nat) (S : Int32) : Prop := sm 10 S ∧ ∀ x, x < 10 → bt S x = prOK B x P
theorem prS_uniq {B : A1} {P : Nat} {S T : Int32} (h1 : prS B P S) (h2 : prS B P T) : S = T := by
  apply b_ext
  intro i hi
  by_cases h : i < 10
  · rw [h1.2 i h, h2.2 i h]
  · rw [h1.1 i (by omega) hi, h2.1 i (by omega) hi]
theorem mul2 (j : Nat) : 2 * nI j = nI (2 * j) := pk_mul 2 j
theorem pr_bad {B : A1} {P : Nat} (hP : P ≤ 8) (wa : Int32) : ∀ (m j n : Nat), j + m = P → m < n → (∃ i, j ≤ i ∧ i < P ∧ 1 < oc B (2 * i + 1)) → ∀ S, lX9_pridesBy_36 940 (nI (2 * P)) B n wa (nI P) S (nI j) = some (-1, wa) := by
  intro m
  induction m with
  | zero =>
    intro j n hj hn ⟨i, h1, h2, h3⟩
    omega
  | succ m ih =>
    intro j n hj hn hex S
    obtain ⟨n, rfl⟩ := sn hn
    obtain ⟨i, h1, h2, h3⟩ := hex
    have hb := (oc_eq B (2 * j + 1)).2
    rw [lX9_pridesBy_36, if_neg (nI_ge (by omega) (by omega)), mul2, nI_1, at_in (by omega) (by omega), bind_eq]
    by_cases h : oc B (2 * j + 1) ≤ 1
    · have hji : j ≠ i := fun e => by subst e; omega
      rw [if_pos (show nI (oc B (2 * j + 1)) ≤ 1 from nI_le (b := 1) h (by omega)), at_in (by omega) (by omega), bind_eq, upT_eq, bind_eq, nI_1]
      have go := ih (j + 1) n (by omega) (by omega) ⟨i, by omega, h2, h3⟩
      by_cases h4 : nI (oc B (2 * j + 1)) = 1
      · rw [if_pos h4]
        exact go _
      · rw [if_neg h4, nmv_eq]
        exact go _
    · rw [if_neg (show ¬ nI (oc B (2 * j + 1)) ≤ 1 from nI_ge (a := 1) (by omega) (by omega))]
theorem pr_good {B : A1} {P : Nat} (hP : P ≤ 8) (h1 : ∀ i, i < P → oc B (2 * i + 1) ≤ 1) (wa : Int32) : ∀ (m j n : Nat), j + m = P → m < n → ∀ S, prS B j S → ∃ T, prS B P T ∧ lX9_pridesBy_36 940 (nI (2 * P)) B n wa (nI P) S (nI j) = if T ≤ 0 then some (T, wa) else (fX9_bestWatch T).bind (fun r => some (T, r)) := by
  intro m
  induction m with
  | zero =>
    intro j n hj hn S hS
    obtain ⟨n, rfl⟩ := sn hn
    have e : j = P := by omega
    subst e
    exact ⟨S, hS, by rw [lX9_pridesBy_36, if_pos (nI_le (Nat.le_refl _) (by omega))]⟩
  | succ m ih =>
    intro j n hj hn S hS
    obtain ⟨n, rfl⟩ := sn hn
    have hb := (oc_eq B (2 * j + 1)).2
    have h := h1 j (by omega)
    have hu := upT_all (oc B (2 * j)) (oc_eq B (2 * j)).2
    rw [lX9_pridesBy_36, if_neg (nI_ge (by omega) (by omega)), mul2, nI_1, at_in (by omega) (by omega), bind_eq, if_pos (show nI (oc B (2 * j + 1)) ≤ 1 from nI_le (b := 1) h (by omega)), at_in (by omega) (by omega), bind_eq, upT_eq, bind_eq, nI_1]
    by_cases h4 : oc B (2 * j + 1) = 1
    · rw [if_pos (show nI (oc B (2 * j + 1)) = 1 by rw [h4]; rfl)]
      apply ih (j + 1) n (by omega) (by omega)
      refine ⟨fun i h5 h6 => by rw [b_and, hS.1 i h5 h6, Bool.false_and], fun x hx => ?_⟩
      rw [b_and, hS.2 x hx, hu x (by omega), prOK, h4]
      have e : decide (x ≤ oc B (2 * j) ∧ x ≤ 9) = decide (x ≤ oc B (2 * j)) := decide_eq_decide.mpr ⟨fun h => h.1, fun h => ⟨h, by omega⟩⟩
      rw [e]
      cases decide (x ≤ oc B (2 * j)) <;> rfl
    · rw [if_neg (show ¬ nI (oc B (2 * j + 1)) = 1 from fun e => h4 ((nI_eq (b := 1) (by omega) (by omega)).mp e)), nmv_eq]
      apply ih (j + 1) n (by omega) (by omega)
      refine ⟨fun i h5 h6 => by rw [b_and, hS.1 i h5 h6, Bool.false_and], fun x hx => ?_⟩
      rw [b_and, b_xor, b_m1 x (by omega), hS.2 x hx, hu x (by omega), prOK, decide_eq_false h4]
      have e : decide (x ≤ oc B (2 * j) ∧ x ≤ 9) = decide (x ≤ oc B (2 * j)) := decide_eq_decide.mpr ⟨fun h => h.1, fun h => ⟨h, by omega⟩⟩
      rw [e]
      cases decide (x ≤ oc B (2 * j)) <;> rfl
theorem nI_2 (k : Nat) : nI k + 2 = nI (k + 2) := by rw [show (2 : Int32) = nI 2 from rfl, nI_add]
theorem prM_bad {B tp : A1} (hBt : ∀ i, i < 940 → tp i = B i) {P : Nat} (hP : P ≤ 8) (kk : Int32 → Int32 → Int32 → Int32 → Int32 → Int32 → Int32 → Int32 → Int32 → Option (Int32 × Int32 × Int32 × Int32 × Int32 × Int32 × Int32 × Int32)) (th len p lim wt hp : Int32) : ∀ (m j n : Nat), j + m = P → m < n → (∃ i, j ≤ i ∧ i < P ∧ 1 < oc B (2 * i + 1)) → lX12_proud_39 tp kk n th len (nI (2 * P)) p lim wt hp (nI (2 * j + 1)) = some (-1, th, len, nI (2 * P), p, lim, wt, hp) := by
  intro m
  induction m with
  | zero =>
    intro j n hj hn ⟨i, h1, h2, h3⟩
    omega
  | succ m ih =>
    intro j n hj hn hex
    obtain ⟨n, rfl⟩ := sn hn
    obtain ⟨i, h1, h2, h3⟩ := hex
    have hb := (oc_eq B (2 * j + 1)).2
    rw [lX12_proud_39, if_neg (nI_ge (by omega) (by omega)), octet_eq (by omega) hBt, bind_eq]
    by_cases h : oc B (2 * j + 1) ≤ 1
    · have hji : j ≠ i := fun e => by subst e; omega
      rw [if_pos (show nI (oc B (2 * j + 1)) ≤ 1 from nI_le (b := 1) h (by omega)), nI_2]
      exact ih (j + 1) n (by omega) (by omega) ⟨i, by omega, h2, h3⟩
    · rw [if_neg (show ¬ nI (oc B (2 * j + 1)) ≤ 1 from nI_ge (a := 1) (by omega) (by omega))]
theorem prM_good {B tp : A1} (hBt : ∀ i, i < 940 → tp i = B i) {P : Nat} (hP : P ≤ 8) (kk : Int32 → Int32 → Int32 → Int32 → Int32 → Int32 → Int32 → Int32 → Int32 → Option (Int32 × Int32 × Int32 × Int32 × Int32 × Int32 × Int32 × Int32)) (th len p lim wt hp : Int32) (h1 : ∀ i, i < P → oc B (2 * i + 1) ≤ 1) : ∀ (m j n : Nat), j + m = P → m < n → lX12_proud_39 tp kk n th len (nI (2 * P)) p lim wt hp (nI (2 * j + 1)) = kk th len (nI (2 * P)) p lim wt hp 0 0 := by
  intro m
  induction m with
  | zero =>
    intro j n hj hn
    obtain ⟨n, rfl⟩ := sn hn
    rw [lX12_proud_39, if_pos (nI_le (by omega) (by omega))]
  | succ m ih =>
    intro j n hj hn
    obtain ⟨n, rfl⟩ := sn hn
    have hb := (oc_eq B (2 * j + 1)).2
    rw [lX12_proud_39, if_neg (nI_ge (by omega) (by omega)), octet_eq (by omega) hBt, bind_eq, if_pos (show nI (oc B (2 * j + 1)) ≤ 1 from nI_le (b := 1) (h1 j (by omega)) (by omega)), nI_2]
    exact ih (j + 1) n (by omega) (by omega)
theorem prM_one {B tp : A1} (hBt : ∀ i, i < 940 → tp i = B i) {P : Nat} (hP : P ≤ 8) (kk : Int32 → Int32 → Int32 → Int32 → Int32 → Int32 → Int32 → Int32 → Int32 → Option (Int32 × Int32 × Int32 × Int32 × Int32 × Int32 × Int32 × Int32)) (th len p lim wt hp acc : Int32) {x : Nat} (hx : x < 10) : ∀ (m j n : Nat), j + m = P → m < n → ∀ fl, fl = (if prOK B x j = true then 1 else 0) → lX12_proud_79 tp kk n th len (nI (2 * P)) p lim wt hp acc (nI x) fl (nI (2 * j)) = kk th len (nI (2 * P)) p lim wt hp (acc ||| (if prOK B x P = true then 1 <<< (nI x &&& 31) else 0)) (nI (x + 1)) := by
  intro m
  induction m with
  | zero =>
    intro j n hj hn fl hfl
    obtain ⟨n, rfl⟩ := sn hn
    have e : j = P := by omega
    subst e
    rw [lX12_proud_79, if_pos (nI_le (by omega) (by omega)), hfl, nI_1]
    by_cases h : prOK B x j = true
    · rw [if_pos h, if_pos h, if_neg nn1, nmv_eq]
    · rw [if_neg h, if_neg h, if_pos rfl]
  | succ m ih =>
    intro j n hj hn fl hfl
    obtain ⟨n, rfl⟩ := sn hn
    rw [lX12_proud_79, if_neg (nI_ge (by omega) (by omega)), hfl]
    have ih2 := ih (j + 1) n (by omega) (by omega)
    rw [prOK] at ih2
    by_cases h : prOK B x j = true
    · have b1 := (oc_eq B (2 * j)).2
      have b2 := (oc_eq B (2 * j + 1)).2
      rw [if_pos h, if_neg nn1, octet_eq (by omega) hBt, bind_eq]
      have go : ∀ y0 : Int32, y0 = (if x ≤ oc B (2 * j) then 1 else 0) → bX12_proud_107 tp (lX12_proud_79 tp kk n) th len (nI (2 * P)) p lim wt hp acc (nI x) (nI (2 * j)) y0 = kk th len (nI (2 * P)) p lim wt hp (acc ||| (if prOK B x P = true then 1 <<< (nI x &&& 31) else 0)) (nI (x + 1)) := by
        intro y0 hy0
        unfold bX12_proud_107 bX12_proud_124
        rw [nI_1, octet_eq (by omega) hBt, bind_eq, nI_2]
        by_cases h5 : oc B (2 * j + 1) = 1
        · rw [if_pos (show nI (oc B (2 * j + 1)) = 1 by rw [h5]; rfl)]
          by_cases h6 : x ≤ oc B (2 * j)
          · rw [if_pos h6] at hy0
            rw [if_pos hy0]
            exact ih2 1 (by rw [h, h5, decide_eq_true h6]; rfl)
          · rw [if_neg h6] at hy0
            rw [if_neg (show ¬ y0 = 1 by rw [hy0]; decide)]
            exact ih2 0 (by rw [h, h5, decide_eq_false h6]; rfl)
        · rw [if_neg (show ¬ nI (oc B (2 * j + 1)) = 1 from fun e => h5 ((nI_eq (b := 1) (by omega) (by omega)).mp e))]
          by_cases h6 : x ≤ oc B (2 * j)
          · rw [if_pos h6] at hy0
            rw [if_neg (show ¬ y0 = 0 by rw [hy0]; decide)]
            exact ih2 0 (by rw [h, decide_eq_false h5, decide_eq_true h6]; rfl)
          · rw [if_neg h6] at hy0
            rw [if_pos hy0]
            exact ih2 1 (by rw [h, decide_eq_false h5, decide_eq_false h6]; rfl)
      by_cases h7 : nI (oc B (2 * j)) < nI x
      · have h8 : ¬ x ≤ oc B (2 * j) := fun h9 => nI_nlt h9 (by omega) h7
        rw [if_pos h7]
        exact go 0 (by rw [if_neg h8])
      · have h8 : x ≤ oc B (2 * j) := Nat.le_of_not_lt (fun h9 => h7 (nI_lt h9 (by omega)))
        rw [if_neg h7]
        exact go 1 (by rw [if_pos h8])
    · rw [if_neg h, if_pos rfl, nI_2]
      exact ih2 0 (by rw [Bool.eq_false_iff.mpr h]; rfl)
theorem prM_all {B tp : A1} (hBt : ∀ i, i < 940 → tp i = B i) {P : Nat} (hP : P ≤ 8) (kk : Int32 → Int32 → Int32 → Int32 → Int32 → Int32 → Int32 → Int32 → Int32 → Int32 → Option (Int32 × Int32 × Int32 × Int32 × Int32 × Int32 × Int32 × Int32)) (th len p lim wt hp : Int32) : ∀ (m x n : Nat), x + m = 10 → m < n → ∀ acc, (∀ i, i < 32 → bt acc i = (decide (i < x) && prOK B i P)) → ∃ T, prS B P T ∧ lX12_proud_68 tp kk n th len (nI (2 * P)) p lim wt hp acc (nI x) = if T = 0 then some (0, th, len, nI (2 * P), p, lim, wt, hp) else kk th len (nI (2 * P)) p lim wt 1 T 1000000 0 := by
  intro m
  induction m with
  | zero =>
    intro x n hx hn acc ha
    obtain ⟨n, rfl⟩ := sn hn
    have e : x = 10 := by omega
    subst e
    refine ⟨acc, ⟨fun i h1 h2 => by rw [ha i h2, decide_eq_false (by omega), Bool.false_and], fun i hi => by rw [ha i (by omega), decide_eq_true hi, Bool.true_and]⟩, ?_⟩
    rw [lX12_proud_68, if_pos (by decide)]
  | succ m ih =>
    intro x n hx hn acc ha
    obtain ⟨n, rfl⟩ := sn hn
    rw [lX12_proud_68, if_neg (show ¬ (10 : Int32) ≤ nI x from nI_ge (b := 10) (by omega) (by omega))]
    rw [show (0 : Int32) = nI (2 * 0) from rfl, prM_one hBt hP (lX12_proud_68 tp kk n) th len p lim wt hp acc (show x < 10 by omega) P 0 5000 (by omega) (by omega) 1 rfl]
    apply ih (x + 1) n (by omega) (by omega)
    intro i hi
    by_cases h : prOK B x P = true
    · rw [if_pos h, bt_set (by omega) hi, ha i hi]
      by_cases e : i = x
      · subst e
        simp [h]
      · have e2 : decide (i < x) = decide (i < x + 1) := decide_eq_decide.mpr (by omega)
        rw [decide_eq_false e, Bool.or_false, e2]
    · rw [if_neg h, Int32.or_zero, ha i hi]
      by_cases e : i = x
      · subst e
        rw [Bool.eq_false_iff.mpr h, Bool.and_false, Bool.and_false]
      · have e2 : decide (i < x) = decide (i < x + 1) := decide_eq_decide.mpr (by omega)
        rw [e2]
theorem greater_eq (a b : Int32) : fX12_greater a b = some (if a < b then b else a) := by
  unfold fX12_greater
  by_cases h : a < b
  · rw [if_pos (fa_of_lt h).1, if_pos h]
  · by_cases h2 : a ≤ b
    · have e : a = b := by
        rw [fa_eq]
        rw [fa_lt] at h
        rw [fa_le] at h2
        omega
      rw [if_pos h2, if_neg h, e]
    · rw [if_neg h2, if_neg h]
def mxp (a b : Nat) : Int32 := if nI b < nI a - nI b then nI a - nI b else nI b
theorem mxp_all : ∀ a, a ≤ 10 → ∀ b, b ≤ 10 → ¬ 11 ≤ mxp a b ∧ mxp a b < 1000000 := by decide +kernel
theorem shl_all : ∀ t, t < 10 → (2 <<< (nI t &&& 31)) - 1 = upT t := by decide +kernel
theorem pop_le10 (x : Int32) : pop x ≤ 10 := fa_cnt_le _ _
theorem watch_loop {T L1 L2 : Int32} (hL : ∀ a, a ≤ 10 → ∀ b, b ≤ 10 → ¬ L1 ≤ mxp a b ∧ mxp a b < L2) (hT : sm 10 T) (tp : A1) (th len sz p lim hp : Int32) : ∀ (m t n1 n2 : Nat), t + m = 10 → m < n1 → m < n2 → ∀ (best lc wt lm : Int32), ((t = 0 ∧ lc = L1 ∧ lm = L2) ∨ (0 < t ∧ lc = lm ∧ best = wt)) → ∃ w, lX9_bestWatch_7 n1 T best lc (nI t) = some w ∧ lX12_proud_176 tp n2 th len sz p lim wt hp T lm (nI t) = some (T, th, len, sz, p, lim, w, hp) := by
  intro m
  induction m with
  | zero =>
    intro t n1 n2 ht hn1 hn2 best lc wt lm h
    obtain ⟨n1, rfl⟩ := sn hn1
    obtain ⟨n2, rfl⟩ := sn hn2
    have e : t = 10 := by omega
    subst e
    rcases h with ⟨h, -, -⟩ | ⟨-, -, rfl⟩
    · omega
    · exact ⟨best, by rw [lX9_bestWatch_7, if_pos (by decide)], by rw [lX12_proud_176, if_pos (by decide)]⟩
  | succ m ih =>
    intro t n1 n2 ht hn1 hn2 best lc wt lm h
    obtain ⟨n1, rfl⟩ := sn hn1
    obtain ⟨n2, rfl⟩ := sn hn2
    have h9 : ¬ (9 : Int32) < nI t := nI_nlt (a := 9) (by omega) (by omega)
    have h10 : ¬ (10 : Int32) ≤ nI t := nI_ge (b := 10) (by omega) (by omega)
    have hA : sm 10 (T &&& upT t) := fun i h1 h2 => by rw [b_and, hT i h1 h2, Bool.false_and]
    have hm := hL (pop T) (pop_le10 T) (pop (T &&& upT t)) (pop_le10 _)
    rw [lX9_bestWatch_7, if_neg h9, upT_eq, bind_eq, bitCount_eq hA, bind_eq, bitCount_eq hT, bind_eq, nmv_eq, lX12_proud_176, if_neg h10, nmv_eq, shl_all t (by omega), bits_eq hA, bind_eq, bits_eq hT, bind_eq, greater_eq, bind_eq, nI_1]
    have e : (if nI (pop (T &&& upT t)) < nI (pop T) - nI (pop (T &&& upT t)) then nI (pop T) - nI (pop (T &&& upT t)) else nI (pop (T &&& upT t))) = mxp (pop T) (pop (T &&& upT t)) := rfl
    rw [e]
    rcases h with ⟨rfl, rfl, rfl⟩ | ⟨h0, rfl, rfl⟩
    · rw [if_neg hm.1, if_pos hm.2]
      exact ih _ n1 n2 (by omega) (by omega) (by omega) _ _ _ _ (Or.inr ⟨by omega, rfl, rfl⟩)
    · by_cases h5 : lc ≤ mxp (pop T) (pop (T &&& upT t))
      · rw [if_pos h5, if_neg (fun h6 => (fa_of_lt h6).2.1 h5)]
        exact ih _ n1 n2 (by omega) (by omega) (by omega) _ _ _ _ (Or.inr ⟨by omega, rfl, rfl⟩)
      · rw [if_neg h5, if_pos (fa_of_nle h5)]
        exact ih _ n1 n2 (by omega) (by omega) (by omega) _ _ _ _ (Or.inr ⟨by omega, rfl, rfl⟩)
/-- what watch tells -/
def RWt (wa wt hp : Int32) : Prop := (hp = 0 ∧ wa = -1) ∨ (hp = 1 ∧ wa = wt)
theorem div2 {n : Nat} (h : n < 2 ^ 31) : nI n / 2 = nI (n / 2) := pk_div (d := 2) h (by omega) (by omega)
theorem rem2 {n : Nat} (h : n < 2 ^ 31) : nI n - nI (n / 2) * 2 = nI (n % 2) := by
  rw [← div2 h]
  exact pk_rem (d := 2) h (by omega) (by omega)
/-- promise 30: proud -/
theorem T_proud {n nb : Nat} {tz len : Int32} {B tp : A1} (hT : RT n nb tz len B tp) (th sz p lim : Int32) {wa wt hp : Int32} (hW : RWt wa wt hp) :
    ∃ (r wa' wt' hp' sz' p' lim' : Int32), RWt wa' wt' hp' ∧ fX11_proud nb B tz wa = some (r, 0, wa') ∧ fX12_proud tp th len sz p lim wt hp = some (r, 0, 0, sz', p', lim', wt', hp') := by
  obtain ⟨rfl, hn, rfl, rfl, hBt, -⟩ := hT
  unfold fX11_proud fX9_pridesBy fX12_proud fX12_taken
  rw [bind_eq]
  dsimp only
  rw [div2 (by omega), rem2 (by omega)]
  unfold fX12_isIn
  have bad : ∃ (r wa' wt' hp' sz' p' lim' : Int32), RWt wa' wt' hp' ∧ (some ((-1 : Int32), wa)).bind (fun (r_1, u1_seer_watchAt) => some (r_1, (0 : Int32), u1_seer_watchAt)) = some (r, 0, wa') ∧ some ((-1 : Int32), (0 : Int32), (0 : Int32), nI n, (0 : Int32), (940 : Int32), wt, hp) = some (r, 0, 0, sz', p', lim', wt', hp') := ⟨_, _, _, _, _, _, _, hW, rfl, rfl⟩
  by_cases h2 : n % 2 = 0
  · rw [if_pos (show nI (n % 2) = 0 by rw [h2]; rfl), if_neg (show ¬ nI (n % 2) = 1 by rw [h2]; decide)]
    obtain ⟨P, rfl⟩ : ∃ P, n = 2 * P := ⟨n / 2, by omega⟩
    rw [show 2 * P / 2 = P by omega]
    by_cases h3 : P < 1
    · rw [if_pos (show nI P < 1 from nI_lt (b := 1) h3 (by omega)), if_pos (show nI (2 * P) < 2 from nI_lt (b := 2) (by omega) (by omega)), bind_eq, bind_eq, if_pos rfl]
      exact bad
    · rw [if_neg (show ¬ nI P < 1 from nI_nlt (b := 1) (a := P) (by omega) (by omega)), if_neg (show ¬ nI (2 * P) < 2 from nI_nlt (b := 2) (a := 2 * P) (by omega) (by omega))]
      by_cases h4 : P ≤ 8
      · rw [if_pos (show nI P ≤ 8 from nI_le (b := 8) h4 (by omega)), if_neg (show ¬ (16 : Int32) < nI (2 * P) from nI_nlt (a := 16) (by omega) (by omega)), bind_eq, if_neg nn1]
        by_cases h5 : ∀ i, i < P → oc B (2 * i + 1) ≤ 1
        · obtain ⟨T, hT1, z1⟩ := pr_good h4 h5 wa P 0 5000 (by omega) (by omega) 1023 ⟨sm_nI (S := 1023) (by omega), fun x hx => bt1023 x hx⟩
          obtain ⟨T2, hT2, z2⟩ := prM_all hBt h4 (lX12_proud_176 tp 5000) 0 0 0 940 wt hp 10 0 5000 (by omega) (by omega) 0 (fun i hi => by rw [b_0, decide_eq_false (by omega), Bool.false_and])
          rw [prS_uniq hT2 hT1] at z2
          rw [show nI 0 = 0 from rfl] at z1 z2
          have z3 := prM_good hBt h4 (lX12_proud_68 tp (lX12_proud_176 tp 5000) 5000) 0 0 0 940 wt hp h5 P 0 5000 (by omega) (by omega)
          rw [show nI (2 * 0 + 1) = 1 from rfl] at z3
          rw [z1, z3, z2]
          obtain ⟨S, hS, rfl⟩ := sm_nat (by omega) hT1.1
          by_cases h6 : S = 0
          · subst h6
            rw [if_pos (show nI 0 ≤ 0 by decide), if_pos (show nI 0 = 0 from rfl), bind_eq]
            exact ⟨_, _, _, _, _, _, _, hW, rfl, rfl⟩
          · rw [if_neg (nI_nle (by omega) (by omega)), if_neg (nI_ne0 (by omega) (by omega))]
            obtain ⟨w, y1, y2⟩ := watch_loop mxp_all hT1.1 tp 0 0 (nI (2 * P)) 0 940 1 10 0 5000 5000 (by omega) (by omega) (by omega) 0 11 wt 1000000 (Or.inl ⟨rfl, rfl, rfl⟩)
            rw [show nI 0 = 0 from rfl] at y1 y2
            unfold fX9_bestWatch
            rw [y1, y2, bind_eq, bind_eq]
            exact ⟨_, _, _, _, _, _, _, Or.inr ⟨rfl, rfl⟩, rfl, rfl⟩
        · obtain ⟨i, h6, h7⟩ : ∃ i, i < P ∧ 1 < oc B (2 * i + 1) := by
            apply Classical.byContradiction
            intro hc
            apply h5
            intro i hi
            apply Nat.le_of_not_lt
            intro h
            exact hc ⟨i, hi, h⟩
          have z1 := pr_bad h4 wa P 0 5000 (by omega) (by omega) ⟨i, by omega, h6, h7⟩ 1023
          have z3 := prM_bad hBt h4 (lX12_proud_68 tp (lX12_proud_176 tp 5000) 5000) 0 0 0 940 wt hp P 0 5000 (by omega) (by omega) ⟨i, by omega, h6, h7⟩
          rw [show nI (2 * 0 + 1) = 1 from rfl] at z3
          rw [show nI 0 = 0 from rfl] at z1
          rw [z1, z3]
          exact bad
      · rw [if_neg (show ¬ nI P ≤ 8 from nI_ge (a := 8) (by omega) (by omega)), if_pos (show (16 : Int32) < nI (2 * P) from nI_lt (a := 16) (by omega) (by omega)), bind_eq, bind_eq, if_pos rfl]
        exact bad
  · have h3 : n % 2 = 1 := by omega
    rw [if_neg (show ¬ nI (n % 2) = 0 by rw [h3]; decide), if_pos (show nI (n % 2) = 1 by rw [h3]; rfl)]
    by_cases h4 : nI n < 2
    · rw [if_pos h4, bind_eq, bind_eq, if_pos rfl]
      exact bad
    · rw [if_neg h4]
      by_cases h5 : 16 < nI n
      · rw [if_pos h5, bind_eq, bind_eq, if_pos rfl]
        exact bad
      · rw [if_neg h5, bind_eq, bind_eq, if_neg nn1]
        exact bad
/-- promise 31: watch -/
theorem T_watch {wa wt hp : Int32} (hW : RWt wa wt hp) (th : Int32) : ∃ r, fX11_watch wa = some r ∧ fX12_watch wt hp th = some (r, 0) := by
  unfold fX11_watch fX12_watch
  rcases hW with ⟨rfl, rfl⟩ | ⟨rfl, rfl⟩
  · rw [if_pos rfl]
    exact ⟨_, rfl, rfl⟩
  · rw [if_neg nn1]
    exact ⟨_, rfl, rfl⟩
