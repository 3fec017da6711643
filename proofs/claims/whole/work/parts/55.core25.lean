theorem wb_tb (n : Nat) : (lN n).toBitVec = BitVec.ofNat 64 n := rfl
theorem wb_inj {a b : Int64} (h : a.toBitVec = b.toBitVec) : a = b := Int64.toBitVec_inj.mp h
theorem wb_tn {n : Nat} (h : n < 2 ^ 64) : (lN n).toBitVec.toNat = n := by rw [wb_tb, BitVec.toNat_ofNat, Nat.mod_eq_of_lt h]
theorem wb_of (x : Int64) : ∃ n, n < 2 ^ 64 ∧ x = lN n := ⟨x.toBitVec.toNat, x.toBitVec.isLt, wb_inj (by rw [wb_tb]; simp)⟩
theorem wb_of32 (x : Int32) : ∃ n, n < 2 ^ 32 ∧ x = nI n := ⟨x.toBitVec.toNat, x.toBitVec.isLt, Int32.toBitVec_inj.mp (by show _ = BitVec.ofNat 32 _; simp)⟩
theorem wb_c : ∀ k, k < 64 → ((nI k).toInt64 &&& 63) = lN k := by decide +kernel
theorem wb_cu : ∀ k, k < 64 → ((nI k).toInt64.toUInt64 &&& Int64.toUInt64 63) = UInt64.ofNat k := by decide +kernel
theorem wb_sm : ∀ k, k < 64 → (BitVec.ofNat 64 k).smod 64 = BitVec.ofNat 64 k := by decide +kernel
theorem wb_pw {a b : Nat} (h : a ≤ b) : 2 ^ b = 2 ^ a * 2 ^ (b - a) := by rw [← Nat.pow_add]; congr 1; omega
theorem wb_lt2 {a b : Nat} (h : a < b) : 2 ^ a < 2 ^ b := Nat.pow_lt_pow_right (by decide) h
theorem wb_mod (n : Nat) : lN n = lN (n % 2 ^ 64) := wb_inj (by rw [wb_tb, wb_tb]; apply BitVec.eq_of_toNat_eq; rw [BitVec.toNat_ofNat, BitVec.toNat_ofNat, Nat.mod_mod])
theorem wb_shr {n k : Nat} (hn : n < 2 ^ 64) (hk : k < 64) : ((lN n).toUInt64 >>> ((nI k).toInt64.toUInt64 &&& Int64.toUInt64 63)).toInt64 = lN (n / 2 ^ k) := by
  rw [wb_cu k hk]
  apply wb_inj
  apply BitVec.eq_of_toNat_eq
  show ((lN n).toUInt64 >>> UInt64.ofNat k).toNat = (BitVec.ofNat 64 _).toNat
  have h1 : (UInt64.ofNat k).toNat = k := by
    show (BitVec.ofNat 64 k).toNat = k
    rw [BitVec.toNat_ofNat, Nat.mod_eq_of_lt (by omega)]
  have h2 : (lN n).toUInt64.toNat = n := wb_tn hn
  rw [UInt64.toNat_shiftRight, h1, h2, Nat.mod_eq_of_lt hk, Nat.shiftRight_eq_div_pow, BitVec.toNat_ofNat, Nat.mod_eq_of_lt (Nat.lt_of_le_of_lt (Nat.div_le_self _ _) hn)]
theorem wb_shl (n : Nat) {k : Nat} (hk : k < 64) : lN n <<< ((nI k).toInt64 &&& 63) = lN (n * 2 ^ k) := by
  rw [wb_c k hk]
  apply wb_inj
  rw [Int64.toBitVec_shiftLeft, wb_tb, wb_tb, wb_tb, wb_sm k hk]
  apply BitVec.eq_of_toNat_eq
  rw [BitVec.shiftLeft_eq', BitVec.toNat_shiftLeft, BitVec.toNat_ofNat, BitVec.toNat_ofNat, BitVec.toNat_ofNat, Nat.mod_eq_of_lt (show k < 2 ^ 64 by omega), Nat.shiftLeft_eq, Nat.mul_mod, Nat.mod_mod, ← Nat.mul_mod]
theorem wb_and {a b : Nat} (ha : a < 2 ^ 64) (hb : b < 2 ^ 64) : lN a &&& lN b = lN (a &&& b) := by
  apply wb_inj
  rw [Int64.toBitVec_and, wb_tb, wb_tb, wb_tb]
  apply BitVec.eq_of_toNat_eq
  rw [BitVec.toNat_and, BitVec.toNat_ofNat, BitVec.toNat_ofNat, BitVec.toNat_ofNat, Nat.mod_eq_of_lt ha, Nat.mod_eq_of_lt hb, Nat.mod_eq_of_lt (Nat.and_lt_two_pow _ hb)]
theorem wb_or {a b : Nat} (ha : a < 2 ^ 64) (hb : b < 2 ^ 64) : lN a ||| lN b = lN (a ||| b) := by
  apply wb_inj
  rw [Int64.toBitVec_or, wb_tb, wb_tb, wb_tb]
  apply BitVec.eq_of_toNat_eq
  rw [BitVec.toNat_or, BitVec.toNat_ofNat, BitVec.toNat_ofNat, BitVec.toNat_ofNat, Nat.mod_eq_of_lt ha, Nat.mod_eq_of_lt hb, Nat.mod_eq_of_lt (Nat.or_lt_two_pow ha hb)]
theorem wb_mask {n k : Nat} (hn : n < 2 ^ 64) (hk : k < 64) : lN n &&& lN (2 ^ k - 1) = lN (n % 2 ^ k) := by
  rw [wb_and hn (by have := wb_lt2 hk; omega), Nat.and_two_pow_sub_one_eq_mod]
theorem wb_a1 {n : Nat} (hn : n < 2 ^ 64) : lN n &&& 1 = lN (n % 2) := wb_mask (k := 1) hn (by decide)
theorem u_tn {n : Nat} (h : n < 2 ^ 64) : (UInt64.ofNat n).toNat = n := Nat.mod_eq_of_lt h
theorem g_or {k p a b : Nat} (hp : 2 ^ k = p) (ha : a < p) (h : b * p + a < 2 ^ 64) : lN (b * p) ||| lN a = lN (b * p + a) := by
  subst hp
  have h1 : b * 2 ^ k ||| a = b * 2 ^ k + a := by rw [← Nat.shiftLeft_eq, Nat.shiftLeft_add_eq_or_of_lt ha]
  have h3 : UInt64.ofNat (b * 2 ^ k) ||| UInt64.ofNat a = UInt64.ofNat (b * 2 ^ k + a) := UInt64.toNat_inj.mp (by rw [UInt64.toNat_or, u_tn (by omega), u_tn (by omega), u_tn h, h1])
  have h2 := congrArg UInt64.toInt64 h3
  exact h2
/-! ===== pure: words, as letters behind one another (the last first) ===== -/
def v5 : List Nat → Nat
  | [] => 0
  | l :: r => 32 * v5 r + l
def v8 : List Nat → Nat
  | [] => 0
  | l :: r => 256 * v8 r + (96 + l)
def LT (r : List Nat) : Prop := ∀ l, l ∈ r → 1 ≤ l ∧ l ≤ 26
def WL (r : List Nat) : Prop := r.length ≤ 7 ∧ LT r
theorem LT_cons {l : Nat} {r : List Nat} (h : LT (l :: r)) : (1 ≤ l ∧ l ≤ 26) ∧ LT r := ⟨h l (List.mem_cons_self ..), fun x hx => h x (List.mem_cons_of_mem _ hx)⟩
theorem LT_add {l : Nat} {r : List Nat} (h1 : 1 ≤ l) (h2 : l ≤ 26) (h : LT r) : LT (l :: r) := by
  intro x hx
  rcases List.mem_cons.mp hx with rfl | hx
  · exact ⟨h1, h2⟩
  · exact h x hx
theorem v5_lt : ∀ r, LT r → v5 r < 32 ^ r.length
  | [], _ => by decide
  | l :: r, h => by
    obtain ⟨h1, h2⟩ := LT_cons h
    have := v5_lt r h2
    rw [v5, List.length_cons, Nat.pow_succ]
    omega
theorem v8_lt : ∀ r, LT r → v8 r < 256 ^ r.length
  | [], _ => by decide
  | l :: r, h => by
    obtain ⟨h1, h2⟩ := LT_cons h
    have := v8_lt r h2
    rw [v8, List.length_cons, Nat.pow_succ]
    omega
theorem v5_inj : ∀ r r', LT r → LT r' → v5 r = v5 r' → r = r'
  | [], [], _, _, _ => rfl
  | [], l :: r', _, h2, h => by
    have := (LT_cons h2).1
    rw [v5, v5] at h
    omega
  | l :: r, [], h1, _, h => by
    have := (LT_cons h1).1
    rw [v5, v5] at h
    omega
  | l :: r, l' :: r', h1, h2, h => by
    obtain ⟨a1, a2⟩ := LT_cons h1
    obtain ⟨b1, b2⟩ := LT_cons h2
    rw [v5, v5] at h
    rw [show l = l' by omega, v5_inj r r' a2 b2 (by omega)]
theorem v8_inj : ∀ r r', LT r → LT r' → v8 r = v8 r' → r = r'
  | [], [], _, _, _ => rfl
  | [], l :: r', _, h2, h => by
    have := (LT_cons h2).1
    rw [v8, v8] at h
    omega
  | l :: r, [], h1, _, h => by
    have := (LT_cons h1).1
    rw [v8, v8] at h
    omega
  | l :: r, l' :: r', h1, h2, h => by
    obtain ⟨a1, a2⟩ := LT_cons h1
    obtain ⟨b1, b2⟩ := LT_cons h2
    rw [v8, v8] at h
    rw [show l = l' by omega, v8_inj r r' a2 b2 (by omega)]
def w5 (r : List Nat) : Int64 := lN (v5 r)
def w8 (r : List Nat) : Int64 := lN (v8 r)
theorem v5_63 {r : List Nat} (h : WL r) : v5 r < 2 ^ 63 := Nat.lt_of_lt_of_le (v5_lt r h.2) (Nat.le_trans (Nat.pow_le_pow_right (by omega) h.1) (by decide))
theorem v8_63 {r : List Nat} (h : WL r) : v8 r < 2 ^ 63 := Nat.lt_of_lt_of_le (v8_lt r h.2) (Nat.le_trans (Nat.pow_le_pow_right (by omega) h.1) (by decide))
theorem w5_eq {r r' : List Nat} (h : WL r) (h' : WL r') : lg_cmp (w5 r) (w5 r') = 0 ↔ r = r' := by
  rw [lg_cmp_eq]
  unfold w5
  rw [pk_lEQ (v5_63 h) (v5_63 h')]
  exact ⟨v5_inj r r' h.2 h'.2, fun e => by rw [e]⟩
theorem w8_eq {r r' : List Nat} (h : WL r) (h' : WL r') : lg_cmp (w8 r) (w8 r') = 0 ↔ r = r' := by
  rw [lg_cmp_eq]
  unfold w8
  rw [pk_lEQ (v8_63 h) (v8_63 h')]
  exact ⟨v8_inj r r' h.2 h'.2, fun e => by rw [e]⟩
theorem w5_cons (r : List Nat) {l : Nat} (hl : l ≤ 26) : w5 r * 32 + Int32.toInt64 (nI (96 + l) - 96) = w5 (l :: r) := by
  rw [show (96 : Int32) = nI 96 from rfl, pk_sub (by omega), show 96 + l - 96 = l by omega, nI_l (by omega), show (32 : Int64) = lN 32 from rfl]
  unfold w5
  rw [lN_mul, lN_add, v5, Nat.mul_comm]
theorem w8_cons {r : List Nat} (hr : r.length ≤ 6) (h : LT r) {l : Nat} (hl : l ≤ 26) : (w8 r <<< (Int32.toInt64 8 &&& 63)) ||| Int32.toInt64 (nI (96 + l)) = w8 (l :: r) := by
  have hb : v8 r < 2 ^ 48 := Nat.lt_of_lt_of_le (v8_lt r h) (Nat.le_trans (Nat.pow_le_pow_right (by omega) hr) (by decide))
  rw [nI_l (by omega)]
  unfold w8
  rw [show Int32.toInt64 8 = (nI 8).toInt64 from rfl, wb_shl _ (by omega), g_or (k := 8) rfl (by omega) (by omega), v8, Nat.mul_comm]
def kwL : List (List Nat) := [[19, 18, 9, 1, 8, 3], [20, 19, 5, 21, 7], [8, 19, 9, 4], [19, 25, 1, 16], [19, 20, 9, 19], [19, 5, 19, 9, 18], [5, 22, 18, 5, 19], [5, 4, 9, 8], [23, 15, 8, 19], [4, 14, 21, 15, 18], [18, 15], [4, 14, 1], [20, 15, 14], [4, 5, 20, 1, 5, 19], [4, 5, 14, 9, 21, 18], [25, 18, 1, 5, 23], [25, 2], [18, 15, 6], [19, 14, 9, 15, 3], [4, 5, 18, 9, 20], [4, 5, 20, 19, 15, 8], [18, 5, 2, 13, 21, 14]]
/-- the words that no name may be -/
def kw (k : Nat) : List Nat := kwL.getD k []
theorem kw_WL0 : ∀ k, k < 22 → (kw k).length ≤ 7 ∧ ∀ l, l ∈ kw k → 1 ≤ l ∧ l ≤ 26 := by decide
theorem kw_WL : ∀ k, k < 22 → WL (kw k) := kw_WL0
theorem kw_inj : ∀ i, i < 22 → ∀ j, j < 22 → kw i = kw j → i = j := by decide
def kiN (r : List Nat) : Nat := fa_first (fun k => decide (kw k = r)) 22
/-- which of them a word is -/
def kix (r : List Nat) : Int32 := if kiN r < 22 then nI (kiN r) else -1
theorem kix_is {r : List Nat} {k : Nat} (hk : k < 22) : kix r = nI k ↔ r = kw k := by
  unfold kix
  constructor
  · intro h
    by_cases h2 : kiN r < 22
    · rw [if_pos h2] at h
      have e := (nI_eq (by omega) (by omega)).mp h
      have := fa_first_yes _ _ h2
      rw [← e]
      exact (of_decide_eq_true this).symm
    · rw [if_neg h2] at h
      exact absurd (show nI k < 0 by rw [← h]; decide) (nI_pos (by omega))
  · rintro rfl
    have e : kiN (kw k) = k := first_at hk (fun i hi => decide_eq_false (fun e => absurd (kw_inj i (by omega) k hk e) (by omega))) (decide_eq_true rfl)
    rw [e, if_pos hk]
theorem kix_or (r : List Nat) : (∃ k, k < 22 ∧ r = kw k ∧ kix r = nI k) ∨ (kix r = -1 ∧ ∀ k, k < 22 → r ≠ kw k) := by
  by_cases h : kiN r < 22
  · have := of_decide_eq_true (fa_first_yes (fun k => decide (kw k = r)) 22 h)
    refine Or.inl ⟨kiN r, h, this.symm, ?_⟩
    unfold kix
    rw [if_pos h]
  · refine Or.inr ⟨?_, fun k hk e => ?_⟩
    · unfold kix
      rw [if_neg h]
    · have h2 := fa_first_no (fun k => decide (kw k = r)) 22 k (by have := fa_first_le (fun k => decide (kw k = r)) 22; unfold kiN at h; omega)
      exact absurd e.symm (of_decide_eq_false h2)
/-- the words in the class and in the reference -/
def RKy (keys res : Nat → Int64) : Prop := ∀ k, k < 22 → keys k = w5 (kw k) ∧ res k = w8 (kw k)
theorem key_loop {keys res : Nat → Int64} (hK : RKy keys res) {r : List Nat} (hr : WL r) : ∀ (m j n : Nat), j + m = 22 → m < n → (∀ i, i < j → kw i ≠ r) → lX6_keyOf_2 keys n (w5 r) (nI j) = some (kix r) := by
  intro m
  induction m with
  | zero =>
    intro j n hj hn h
    obtain ⟨n, rfl⟩ := sn hn
    have e : j = 22 := by omega
    subst e
    rw [lX6_keyOf_2, if_pos (by decide)]
    rcases kix_or r with ⟨k, h1, h2, -⟩ | ⟨h1, -⟩
    · exact absurd h2.symm (h k h1)
    · rw [h1]
  | succ m ih =>
    intro j n hj hn h
    obtain ⟨n, rfl⟩ := sn hn
    rw [lX6_keyOf_2, if_neg (show ¬ (22 : Int32) ≤ nI j from nI_ge (b := 22) (by omega) (by omega)), gI_ok (by omega) (by omega), ix0 (by omega), (hK j (by omega)).1, nI_1]
    by_cases e : kw j = r
    · rw [if_pos ((w5_eq (kw_WL j (by omega)) hr).mpr e), (kix_is (by omega)).mpr e.symm]
    · rw [if_neg (fun e2 => e ((w5_eq (kw_WL j (by omega)) hr).mp e2))]
      exact ih (j + 1) n (by omega) (by omega) (fun i hi => by
        by_cases e3 : i = j
        · rw [e3]
          exact e
        · exact h i (by omega))
theorem keyOf_eq {keys res : Nat → Int64} (hK : RKy keys res) {r : List Nat} (hr : WL r) : fX6_keyOf keys (w5 r) = some (kix r) := key_loop hK hr 22 0 5000 (by omega) (by omega) (fun i h => absurd h (by omega))
theorem isName0 {res : Nat → Int64} (tok : Int32) (wd : Int64) : ∀ (m j n : Nat), j + m = 22 → m < n → lX12_isName_16 tok wd res n 0 (nI j) = some 0 := by
  intro m
  induction m with
  | zero =>
    intro j n hj hn
    obtain ⟨n, rfl⟩ := sn hn
    have e : j = 22 := by omega
    subst e
    rw [lX12_isName_16, if_pos (by decide), gB_0]
  | succ m ih =>
    intro j n hj hn
    obtain ⟨n, rfl⟩ := sn hn
    rw [lX12_isName_16, if_neg (show ¬ (22 : Int32) ≤ nI j from nI_ge (b := 22) (by omega) (by omega)), if_pos rfl, nI_1]
    exact ih (j + 1) n (by omega) (by omega)
theorem isName1 {keys res : Nat → Int64} (hK : RKy keys res) {r : List Nat} (hr : WL r) (tok : Int32) : ∀ (m j n : Nat), j + m = 22 → m < n → (∀ i, i < j → kw i ≠ r) → lX12_isName_16 tok (w8 r) res n 1 (nI j) = some (if kix r = -1 then 1 else 0) := by
  intro m
  induction m with
  | zero =>
    intro j n hj hn h
    obtain ⟨n, rfl⟩ := sn hn
    have e : j = 22 := by omega
    subst e
    rw [lX12_isName_16, if_pos (by decide), gB_1]
    rcases kix_or r with ⟨k, h1, h2, -⟩ | ⟨h1, -⟩
    · exact absurd h2.symm (h k h1)
    · rw [h1, if_pos rfl]
  | succ m ih =>
    intro j n hj hn h
    obtain ⟨n, rfl⟩ := sn hn
    rw [lX12_isName_16, if_neg (show ¬ (22 : Int32) ≤ nI j from nI_ge (b := 22) (by omega) (by omega)), if_neg nn1, gI_ok (by omega) (by omega), ix0 (by omega), (hK j (by omega)).2, nI_1]
    by_cases e : kw j = r
    · have e2 : ¬ kix r = -1 := by
        rw [(kix_is (show j < 22 by omega)).mpr e.symm]
        exact fun e => absurd (show nI j < 0 by rw [e]; decide) (nI_pos (by omega))
      rw [if_pos ((w8_eq hr (kw_WL j (by omega))).mpr e.symm), if_neg e2]
      exact isName0 tok (w8 r) m (j + 1) n (by omega) (by omega)
    · rw [if_neg (fun e2 => e ((w8_eq hr (kw_WL j (by omega))).mp e2).symm)]
      exact ih (j + 1) n (by omega) (by omega) (fun i hi => by
        by_cases e3 : i = j
        · rw [e3]
          exact e
        · exact h i (by omega))
theorem isName_w {keys res : Nat → Int64} (hK : RKy keys res) {r : List Nat} (hr : WL r) : fX12_isName 1 (w8 r) res = some (if kix r = -1 then 1 else 0) := by
  unfold fX12_isName
  rw [if_pos rfl]
  exact isName1 hK hr 1 22 0 5000 (by omega) (by omega) (fun i h => absurd h (by omega))
theorem isName_n {res : Nat → Int64} {tok : Int32} (h : ¬ tok = 1) (wd : Int64) : fX12_isName tok wd res = some 0 := by
  unfold fX12_isName
  rw [if_neg h]
  exact isName0 tok wd 22 0 5000 (by omega) (by omega)
theorem isWord_w {r : List Nat} (hr : WL r) {k : Nat} (hk : k < 22) : fX12_isWord 1 (w8 r) (w8 (kw k)) = some (if kix r = nI k then 1 else 0) := by
  unfold fX12_isWord
  rw [if_pos rfl]
  by_cases h : r = kw k
  · rw [if_pos ((w8_eq hr (kw_WL k hk)).mpr h), if_pos ((kix_is hk).mpr h)]
  · rw [if_neg (fun e => h ((w8_eq hr (kw_WL k hk)).mp e)), if_neg (fun e => h ((kix_is hk).mp e))]
theorem isWord_n {tok : Int32} (h : ¬ tok = 1) (wd x : Int64) : fX12_isWord tok wd x = some 0 := by
  unfold fX12_isWord
  rw [if_neg h]
theorem kW0 : (109299962049139 : Int64) = w8 (kw 0) := by decide
theorem kW1 : (444351214452 : Int64) = w8 (kw 1) := by decide
theorem kW2 : (1684632424 : Int64) = w8 (kw 2) := by decide
theorem kW3 : (1885436275 : Int64) = w8 (kw 3) := by decide
theorem kW4 : (1936290931 : Int64) = w8 (kw 4) := by decide
theorem kW5 : (491395442035 : Int64) = w8 (kw 5) := by decide
theorem kW6 : (495623239269 : Int64) = w8 (kw 6) := by decide
theorem kW7 : (1751737445 : Int64) = w8 (kw 7) := by decide
theorem kW8 : (1936224119 : Int64) = w8 (kw 8) := by decide
theorem kW9 : (491496238692 : Int64) = w8 (kw 9) := by decide
theorem kW10 : (28530 : Int64) = w8 (kw 10) := by decide
theorem kW11 : (6385252 : Int64) = w8 (kw 11) := by decide
theorem kW12 : (7237492 : Int64) = w8 (kw 12) := by decide
theorem kW13 : (126879263909220 : Int64) = w8 (kw 13) := by decide
theorem kW14 : (125848605582692 : Int64) = w8 (kw 14) := by decide
theorem kW15 : (512801993337 : Int64) = w8 (kw 15) := by decide
theorem kW16 : (25209 : Int64) = w8 (kw 16) := by decide
theorem kW17 : (6713202 : Int64) = w8 (kw 17) := by decide
theorem kW18 : (427070942835 : Int64) = w8 (kw 18) := by decide
theorem kW19 : (499985311076 : Int64) = w8 (kw 19) := by decide
theorem kW20 : (114827887666532 : Int64) = w8 (kw 20) := by decide
theorem kW21 : (121450625394034 : Int64) = w8 (kw 21) := by decide
