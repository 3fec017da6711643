/-! ===== pure: the hall and the feast, class and reference side by side ===== -/
theorem c10 : (10 : Int32) = nI 10 := rfl
theorem c17 : (17 : Int32) = nI 17 := rfl
theorem c31 : (31 : Int32) = nI 31 := rfl
theorem c37 : (37 : Int32) = nI 37 := rfl
theorem c44 : (44 : Int32) = nI 44 := rfl
theorem c49 : (49 : Int32) = nI 49 := rfl
theorem c56 : (56 : Int32) = nI 56 := rfl
theorem c64 : (64 : Int32) = nI 64 := rfl
theorem c71 : (71 : Int32) = nI 71 := rfl
theorem c78 : (78 : Int32) = nI 78 := rfl
theorem c85 : (85 : Int32) = nI 85 := rfl
theorem first_at {p : Nat → Bool} {n j : Nat} (hj : j < n) (h0 : ∀ i, i < j → p i = false) (h1 : p j = true) : fa_first p n = j := by
  rcases Nat.lt_trichotomy (fa_first p n) j with h | h | h
  · have := fa_first_yes p n (by omega)
    rw [h0 _ h] at this
    cases this
  · exact h
  · have := fa_first_no p n j h
    rw [h1] at this
    cases this
theorem first_none {p : Nat → Bool} {n : Nat} (h : ∀ i, i < n → p i = false) : fa_first p n = n := by
  rcases Nat.lt_or_ge (fa_first p n) n with h2 | h2
  · have := fa_first_yes p n h2
    rw [h _ h2] at this
    cases this
  · have := fa_first_le p n
    omega
/-- what a HALL tells, in the class and in the reference's row -/
def RH (C G D : Nat) (pride speed payer cost s : A1) : Prop :=
  (2 ≤ C ∧ C ≤ 9 ∧ G ≤ 7 ∧ G ≤ C ∧ D ≤ 6) ∧ (s 0 = nI C ∧ s 1 = nI G ∧ s 2 = nI D) ∧
  (∀ g, g < G → s (10 + g) = pride g ∧ s (17 + g) = speed g ∧ (∃ p, p ≤ 9 ∧ pride g = nI p) ∧ (∃ v, v ≤ 9 ∧ speed g = nI v) ∧ ∃ q, q < G ∧ payer g = nI q ∧ ((s (37 + g) = 0 ∧ q = g) ∨ s (37 + g) = nI (q + 1))) ∧
  (∀ d, d < D → s (31 + d) = cost d ∧ ∃ k, 1 ≤ k ∧ k ≤ 99 ∧ cost d = nI k)
theorem RH.congr {C G D : Nat} {pride speed payer cost s s' : A1} (h : RH C G D pride speed payer cost s) (he : ∀ i, i < 44 → s' i = s i) : RH C G D pride speed payer cost s' := by
  obtain ⟨h1, ⟨a, b, c⟩, h3, h4⟩ := h
  refine ⟨h1, ⟨?_, ?_, ?_⟩, ?_, ?_⟩
  · rw [he 0 (by omega), a]
  · rw [he 1 (by omega), b]
  · rw [he 2 (by omega), c]
  · intro g hg
    rw [he (10 + g) (by omega), he (17 + g) (by omega), he (37 + g) (by omega)]
    exact h3 g hg
  · intro d hd
    rw [he (31 + d) (by omega)]
    exact h4 d hd
def psum (f : A1) : Nat → Int32
  | 0 => 0
  | n + 1 => psum f n + f n
/-- the class's and the reference's feast are one -/
def EF (G : Nat) (sit ser hid rnd ovr hst : Int32) (coins chairOf tired hosted owed paid s : A1) : Prop :=
  (s 44 = rnd ∧ s 45 = ser ∧ s 46 = ovr ∧ s 47 = hid ∧ s 48 = hst + 1 ∧ s 63 = sit) ∧
  ∀ g, g < G → s (49 + g) = coins g ∧ s (56 + g) = chairOf g ∧ s (64 + g) = tired g ∧ s (71 + g) = hosted g ∧ s (78 + g) = owed g ∧ s (85 + g) = paid g
/-- taken CHAIRS are those of who sits, one GUEST each -/
def TK (C G : Nat) (sit tak : Int32) (chairOf : A1) : Prop :=
  (∀ c, c < C → (bt tak c = true ↔ ∃ g, g < G ∧ bt sit g = true ∧ chairOf g = nI c)) ∧ ∀ g g', g < G → g' < G → bt sit g = true → bt sit g' = true → chairOf g = chairOf g' → g = g'
def SI (C G D : Nat) (sit tak ser hid : Int32) (chairOf : A1) : Prop :=
  sm G sit ∧ sm C tak ∧ sm D ser ∧ sm C hid ∧ (∀ g, g < G → ∃ c, c < C ∧ chairOf g = nI c) ∧ TK C G sit tak chairOf
def MI (G : Nat) (pia : Int32) (coins tired owed paid : A1) : Prop :=
  (∀ g, g < G → (∃ t, t ≤ 99 ∧ tired g = nI t) ∧ ∃ a b o, a + b ≤ 999 ∧ o ≤ 99999 ∧ coins g = nI a ∧ paid g = nI b ∧ owed g = nI o) ∧ pia = psum paid G
-- who sits
theorem seated_eq {x : Int32} {g : Nat} (hg : g < 31) : fX1_isSeated x (nI g) = some (if bt x g = true then 1 else 0) := by
  unfold fX1_isSeated
  by_cases h : bt x g = true
  · rw [if_pos ((bit_iff hg).mpr h), if_pos h]
  · rw [if_neg (fun e => h ((bit_iff hg).mp e)), if_neg h]
theorem bitOf_eq {x : Int32} {g : Nat} (hg : g < 31) : fX12_bitOf x (nI g) = some (if bt x g = true then 1 else 0) := by
  unfold fX12_bitOf
  by_cases h : bt x g = true
  · rw [if_pos ((bit_iff hg).mpr h), if_pos h]
  · rw [if_neg (fun e => h ((bit_iff hg).mp e)), if_neg h]
theorem doesSit_eq {s : A1} {g : Nat} (hg : g < 31) : fX12_doesSit s (nI g) = some (if bt (s 63) g = true then 1 else 0) := by
  unfold fX12_doesSit
  rw [bitOf_eq hg, bind_eq]
/-- who sits at a CHAIR, by the first GUEST -/
def whoP (sit : Int32) (at_ : A1) (x : Int32) : Nat → Bool := fun i => bt sit i && decide (at_ i = x)
def whoF (G : Nat) (sit : Int32) (at_ : A1) (x : Int32) : Int32 := if fa_first (whoP sit at_ x) G < G then nI (fa_first (whoP sit at_ x) G) else -1
theorem whoF_congr {G : Nat} {sit x : Int32} {f g : A1} (h : ∀ i, i < G → f i = g i) : whoF G sit f x = whoF G sit g x := by
  have e : ∀ n, n ≤ G → fa_first (whoP sit f x) n = fa_first (whoP sit g x) n := by
    intro n
    induction n with
    | zero => intro _; rfl
    | succ n ih =>
      intro hn
      unfold fa_first
      rw [ih (by omega), show whoP sit f x n = whoP sit g x n by unfold whoP; rw [h n (by omega)]]
  unfold whoF
  rw [e G (Nat.le_refl G)]
theorem whoF_neg {C G : Nat} {sit tak : Int32} {at_ : A1} {c : Nat} (hG : G ≤ 7) (hT : TK C G sit tak at_) (hc : c < C) : whoF G sit at_ (nI c) < 0 ↔ ¬ bt tak c = true := by
  rw [hT.1 c hc]
  unfold whoF
  by_cases h : fa_first (whoP sit at_ (nI c)) G < G
  · rw [if_pos h]
    have h2 := fa_first_yes _ _ h
    unfold whoP at h2
    simp only [Bool.and_eq_true, decide_eq_true_eq] at h2
    constructor
    · intro h3
      exact absurd h3 (nI_pos (by omega))
    · intro h3
      exact absurd ⟨_, h, h2.1, h2.2⟩ h3
  · rw [if_neg h]
    constructor
    · intro _ h3
      obtain ⟨g, hg, h4, h5⟩ := h3
      have h6 : fa_first (whoP sit at_ (nI c)) G = G := by have := fa_first_le (whoP sit at_ (nI c)) G; omega
      have h7 := fa_first_no (whoP sit at_ (nI c)) G g (by omega)
      unfold whoP at h7
      simp [h4, h5] at h7
    · intro _
      decide
theorem sitter_loop {s : A1} {G : Nat} (hG : G ≤ 7) (h1 : s 1 = nI G) (x : Int32) : ∀ m j n, j + m = G → m < n → (∀ i, i < j → whoP (s 63) (fun i => s (56 + i)) x i = false) → lX12_sitterAt_2 s n x (nI j) = some (whoF G (s 63) (fun i => s (56 + i)) x) := by
  intro m
  induction m with
  | zero =>
    intro j n hj hn h0
    obtain ⟨n, rfl⟩ : ∃ k, n = k + 1 := ⟨n - 1, by omega⟩
    have e : j = G := by omega
    subst e
    rw [lX12_sitterAt_2, if_pos (by rw [h1]; exact nI_le (Nat.le_refl _) (by omega))]
    unfold whoF
    rw [first_none h0, if_neg (by omega)]
  | succ m ih =>
    intro j n hj hn h0
    obtain ⟨n, rfl⟩ : ∃ k, n = k + 1 := ⟨n - 1, by omega⟩
    rw [lX12_sitterAt_2, if_neg (by rw [h1]; exact nI_ge (by omega) (by omega)), doesSit_eq (by omega), bind_eq]
    by_cases hb : bt (s 63) j = true
    · rw [if_pos hb, if_neg (by decide), c56, gI_oka (by omega) (by omega), ixa (by omega)]
      by_cases hx : s (56 + j) = x
      · rw [if_pos hx]
        unfold whoF
        have h2 : whoP (s 63) (fun i => s (56 + i)) x j = true := by unfold whoP; simp [hb, hx]
        rw [first_at (by omega) h0 h2, if_pos (by omega)]
      · rw [if_neg hx, nI_1]
        exact ih (j + 1) n (by omega) (by omega) (lt_s h0 (by unfold whoP; simp [hx]))
    · rw [if_neg hb, if_pos rfl, nI_1]
      exact ih (j + 1) n (by omega) (by omega) (lt_s h0 (by unfold whoP; simp [hb]))
theorem sitter_eq {s : A1} {G : Nat} (hG : G ≤ 7) (h1 : s 1 = nI G) (x : Int32) : fX12_sitterAt s x = some (whoF G (s 63) (fun i => s (56 + i)) x) := by
  unfold fX12_sitterAt
  exact sitter_loop hG h1 x G 0 5000 (by omega) (by omega) (fun i h => absurd h (by omega))
theorem whoSits_loop {sit : Int32} {at_ : A1} {G : Nat} (hG : G ≤ 7) (x : Int32) : ∀ m j n, j + m = G → m < n → (∀ i, i < j → whoP sit at_ x i = false) → lX1_whoSitsAt_2 sit (nI G) at_ n x (nI j) = some (whoF G sit at_ x) := by
  intro m
  induction m with
  | zero =>
    intro j n hj hn h0
    obtain ⟨n, rfl⟩ : ∃ k, n = k + 1 := ⟨n - 1, by omega⟩
    have e : j = G := by omega
    subst e
    rw [lX1_whoSitsAt_2, if_pos (nI_le (Nat.le_refl _) (by omega))]
    unfold whoF
    rw [first_none h0, if_neg (by omega)]
  | succ m ih =>
    intro j n hj hn h0
    obtain ⟨n, rfl⟩ : ∃ k, n = k + 1 := ⟨n - 1, by omega⟩
    rw [lX1_whoSitsAt_2, if_neg (nI_ge (by omega) (by omega)), gI_ok (by omega) (by omega), ix0 (by omega)]
    by_cases hx : at_ j = x
    · rw [if_pos hx, seated_eq (by omega), bind_eq]
      by_cases hb : bt sit j = true
      · rw [if_pos hb, if_neg (by decide)]
        unfold whoF
        have h2 : whoP sit at_ x j = true := by unfold whoP; simp [hb, hx]
        rw [first_at (by omega) h0 h2, if_pos (by omega)]
      · rw [if_neg hb, if_pos rfl, nI_1]
        exact ih (j + 1) n (by omega) (by omega) (lt_s h0 (by unfold whoP; simp [hb]))
    · rw [if_neg hx, nI_1]
      exact ih (j + 1) n (by omega) (by omega) (lt_s h0 (by unfold whoP; simp [hx]))
theorem whoSits_eq {sit : Int32} {at_ : A1} {G : Nat} (hG : G ≤ 7) (x : Int32) : fX1_whoSitsAt sit (nI G) at_ x = some (whoF G sit at_ x) := by
  unfold fX1_whoSitsAt
  exact whoSits_loop hG x G 0 5000 (by omega) (by omega) (fun i h => absurd h (by omega))
/-- why one can't SIT -/
def whyN (sit tak hid : Int32) (g c : Nat) : Int32 := if bt sit g = true then 1 else if bt tak c = true then 2 else if bt hid c = true then 3 else 0
theorem whyC {sit tak hid : Int32} {at_ : A1} {g c : Nat} (hg : g < 7) (hc : c < 9) (h : at_ g = nI c) : fX1_whyNotSit sit tak hid at_ (nI g) = some (whyN sit tak hid g c) := by
  unfold fX1_whyNotSit whyN
  rw [seated_eq (by omega), bind_eq, gI_ok (by omega) (by omega), gI_ok (by omega) (by omega), ix0 (by omega), h]
  by_cases h1 : bt sit g = true
  · rw [if_pos h1, if_neg (by decide), if_pos h1]
  · rw [if_neg h1, if_pos rfl, if_neg h1]
    by_cases h2 : bt tak c = true
    · rw [if_pos ((bit_iff (by omega)).mpr h2), if_pos h2]
    · rw [if_neg (fun e => h2 ((bit_iff (by omega)).mp e)), if_neg h2]
      by_cases h3 : bt hid c = true
      · rw [if_pos ((bit_iff (by omega)).mpr h3), if_pos h3]
      · rw [if_neg (fun e => h3 ((bit_iff (by omega)).mp e)), if_neg h3]
theorem whyM {C G : Nat} {s : A1} {tak : Int32} {g c : Nat} (hC : C ≤ 9) (hG : G ≤ 7) (hg : g < G) (hc : c < C) (h1 : s 1 = nI G) (h : s (56 + g) = nI c) (hT : TK C G (s 63) tak (fun i => s (56 + i))) : fX12_whySit s (nI g) = some (whyN (s 63) tak (s 47) g c) := by
  unfold fX12_whySit whyN
  simp only [doesSit_eq (show g < 31 by omega), bind_eq, c56, gI_oka (show 56 + g < 273 by omega) (show 273 ≤ 1000 by omega), ixa (show 56 + g < 1000 by omega), nmv_eq, h, sitter_eq hG h1]
  by_cases h2 : bt (s 63) g = true
  · rw [if_pos h2, if_neg (by decide), if_pos h2]
  · rw [if_neg h2, if_pos rfl, if_neg h2]
    have h3 := whoF_neg (c := c) hG hT hc
    by_cases h4 : bt tak c = true
    · rw [if_neg (fun e => h3.mp e h4), if_pos h4]
    · rw [if_pos (h3.mpr h4), if_neg h4, bitOf_eq (by omega), bind_eq]
      by_cases h5 : bt (s 47) c = true
      · rw [if_pos h5, if_neg (by decide), if_pos h5]
      · rw [if_neg h5, if_pos rfl, if_neg h5]
