/-! ===== pure: guards, places, bits ===== -/
abbrev A1 : Type := Nat → Int32
theorem gI_ok {α : Type} {k n : Nat} {x : Option α} (h : k < n) (hn : n ≤ 1000) : gI (nI k) n x = x := by
  unfold gI
  rw [if_pos]
  rw [nI_toInt (by omega)]
  omega
theorem gI_oka {α : Type} {a k n : Nat} {x : Option α} (h : a + k < n) (hn : n ≤ 1000) : gI (nI a + nI k) n x = x := by
  rw [nI_add]
  exact gI_ok h hn
theorem ixa {a k : Nat} (h : a + k < 1000) : Int32.toNatClampNeg (nI a + nI k) = a + k := by
  rw [nI_add]
  exact nI_clamp (by omega)
theorem ix0 {k : Nat} (h : k < 1000) : Int32.toNatClampNeg (nI k) = k := nI_clamp (by omega)
theorem gZ_ok {α : Type} {y : Int32} {x : Option α} (h : ¬ y = 0) : gZ y x = x := by
  unfold gZ
  rw [if_neg h]
theorem gB_0 {α : Type} {x : Option α} : gB 0 x = x := by
  unfold gB
  rw [if_pos (Or.inl rfl)]
theorem gB_1 {α : Type} {x : Option α} : gB 1 x = x := by
  unfold gB
  rw [if_pos (Or.inr rfl)]
theorem nmv_eq {α β : Type} (a : α) (f : α → Option β) : nmv a f = f a := rfl
theorem bind_eq {α β : Type} (a : α) (f : α → Option β) : (some a).bind f = f a := rfl
theorem bt_1 : ∀ i, i < 32 → bt 1 i = decide (i = 0) := by decide +kernel
theorem bt_nI {S i : Nat} (h : i < 32) : bt (nI S) i = S.testBit i := by
  show (BitVec.ofNat 32 S).getLsbD i = _
  rw [BitVec.getLsbD_ofNat]
  simp [h]
theorem bit_iff {x : Int32} {g : Nat} (hg : g < 31) : ((x >>> (nI g &&& 31)) &&& 1) = 1 ↔ bt x g = true := by
  constructor
  · intro h
    have h2 := congrArg (fun y => bt y 0) h
    rw [b_and, b_sshr g (by omega) x (by omega), if_pos (by omega), bt_1 0 (by omega)] at h2
    simpa using h2
  · intro h
    apply b_ext
    intro i hi
    rw [b_and, bt_1 i hi]
    by_cases e : i = 0
    · subst e
      rw [b_sshr g (by omega) x (by omega), if_pos (by omega)]
      simpa using h
    · simp [e]
theorem bit_eq {x : Int32} {g : Nat} (hg : g < 31) : ((x >>> (nI g &&& 31)) &&& 1) = if bt x g then 1 else 0 := by
  by_cases h : bt x g = true
  · rw [if_pos h]
    exact (bit_iff hg).mpr h
  · rw [if_neg h]
    apply b_ext
    intro i hi
    rw [b_and, bt_1 i hi, b_0]
    by_cases e : i = 0
    · subst e
      rw [b_sshr g (by omega) x (by omega), if_pos (by omega)]
      simpa using h
    · simp [e]
theorem bt_sh {g i : Nat} (hg : g < 31) (hi : i < 32) : bt (1 <<< (nI g &&& 31)) i = decide (i = g) := by
  rw [b_shl g (by omega) 1 hi]
  by_cases h : g ≤ i
  · rw [bt_1 (i - g) (by omega), decide_eq_true h, Bool.true_and]
    exact decide_eq_decide.mpr (by omega)
  · rw [decide_eq_false h, Bool.false_and]
    exact (decide_eq_false (by omega)).symm
/-- all bits from n on are 0 -/
def sm (n : Nat) (x : Int32) : Prop := ∀ i, n ≤ i → i < 32 → bt x i = false
theorem sm_0 (n : Nat) : sm n 0 := fun i _ _ => b_0 i
theorem sm_set {n g : Nat} {x : Int32} (h : sm n x) (hg : g < n) (hn : n < 31) : sm n (x ||| (1 <<< (nI g &&& 31))) := by
  intro i h1 h2
  rw [b_or, bt_sh (by omega) h2, h i h1 h2, decide_eq_false (by omega), Bool.or_false]
theorem bt_set {g i : Nat} {x : Int32} (hg : g < 31) (hi : i < 32) : bt (x ||| (1 <<< (nI g &&& 31))) i = (bt x i || decide (i = g)) := by
  rw [b_or, bt_sh hg hi]
theorem bt_clr {g i : Nat} {x : Int32} (hg : g < 31) (hi : i < 32) : bt (x &&& ((1 <<< (nI g &&& 31)) ^^^ (-1))) i = (bt x i && !decide (i = g)) := by
  rw [b_and, b_xor, bt_sh hg hi, b_m1 i hi]
  cases decide (i = g) <;> rfl
theorem bt_flp {g i : Nat} {x : Int32} (hg : g < 31) (hi : i < 32) : bt (x ^^^ (1 <<< (nI g &&& 31))) i = (bt x i ^^ decide (i = g)) := by
  rw [b_xor, bt_sh hg hi]
theorem sm_nat {n : Nat} {x : Int32} (hn : n ≤ 31) (h : sm n x) : ∃ S, S < 2 ^ n ∧ x = nI S := by
  refine ⟨x.toBitVec.toNat, ?_, ?_⟩
  · apply Nat.lt_pow_two_of_testBit
    intro i hi
    rcases Nat.lt_or_ge i 32 with h2 | h2
    · exact h i hi h2
    · exact Nat.testBit_lt_two_pow (Nat.lt_of_lt_of_le x.toBitVec.isLt (Nat.pow_le_pow_right (by decide) h2))
  · apply Int32.toBitVec_inj.mp
    show _ = BitVec.ofNat 32 _
    simp
theorem sm_nI {n S : Nat} (h : S < 2 ^ n) : sm n (nI S) := by
  intro i h1 h2
  rw [bt_nI h2]
  exact Nat.testBit_lt_two_pow (Nat.lt_of_lt_of_le h (Nat.pow_le_pow_right (by decide) h1))
/-- how many bits -/
def pop (x : Int32) : Nat := fa_cnt (bt x) 10
theorem pop_all : ∀ S, S < 1024 → fJ6_bitCount_0f7a4 (nI S) = some (nI (pop (nI S))) ∧ fX12_bits (nI S) = some (nI (pop (nI S))) := by decide +kernel
theorem bitCount_eq {x : Int32} (h : sm 10 x) : fJ6_bitCount_0f7a4 x = some (nI (pop x)) := by
  obtain ⟨S, hS, rfl⟩ := sm_nat (by omega) h
  exact (pop_all S hS).1
theorem bits_eq {x : Int32} (h : sm 10 x) : fX12_bits x = some (nI (pop x)) := by
  obtain ⟨S, hS, rfl⟩ := sm_nat (by omega) h
  exact (pop_all S hS).2
theorem sm_up {m n : Nat} {x : Int32} (h : sm m x) (hmn : m ≤ n) : sm n x := fun i h1 h2 => h i (by omega) h2
/-- who stands, of G, where S sit -/
def lefts (G : Nat) (x : Int32) : Int32 := ((1 <<< (nI G &&& 31)) - 1) &&& (x ^^^ (-1))
theorem left_all : ∀ G, G ≤ 7 → ∀ S, S < 2 ^ G → pop (lefts G (nI S)) + pop (nI S) = G ∧ (∀ g, g < 10 → bt (lefts G (nI S)) g = (decide (g < G) && !bt (nI S) g)) ∧ lefts G (nI S) = nI (2 ^ G - 1 - S) := by decide +kernel
theorem one_all : ∀ G, G ≤ 7 → ∀ S, S < 2 ^ G → pop (nI S) + 1 = G → fa_first (fun g => !bt (nI S) g) G < G ∧ ∀ g, g < G → bt (nI S) g = !decide (g = fa_first (fun g => !bt (nI S) g) G) := by decide +kernel
