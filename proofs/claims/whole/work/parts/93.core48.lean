/-! ===== pure: promise 43 (plate) ===== -/
def wr : List Nat → Nat → A1 → A1
  | [], _, X => X
  | c :: cs, n, X => wr cs (n + 1) (upd X n (nI c))
theorem wr_app : ∀ (a b : List Nat) (n : Nat) (X : A1), wr (a ++ b) n X = wr b (n + a.length) (wr a n X)
  | [], b, n, X => rfl
  | c :: a, b, n, X => by
    rw [List.cons_append, wr, wr, wr_app a b (n + 1), List.length_cons, show n + 1 + a.length = n + (a.length + 1) by omega]
theorem wr_lo : ∀ (cs : List Nat) (n : Nat) (X : A1) (i : Nat), i < n → wr cs n X i = X i
  | [], _, _, _, _ => rfl
  | c :: cs, n, X, i, h => by
    rw [wr, wr_lo cs (n + 1) _ i (by omega)]
    show (if i = n then nI c else X i) = X i
    rw [if_neg (by omega)]
theorem wr_at : ∀ (cs : List Nat) (n : Nat) (X : A1) (i : Nat), n ≤ i → i < n + cs.length → wr cs n X i = nI (cs.getD (i - n) 0)
  | [], n, X, i, h1, h2 => by
    rw [List.length_nil] at h2
    omega
  | c :: cs, n, X, i, h1, h2 => by
    rw [List.length_cons] at h2
    rw [wr]
    by_cases h : i = n
    · subst h
      rw [wr_lo cs (i + 1) _ i (by omega), Nat.sub_self]
      show (if i = i then nI c else X i) = nI c
      rw [if_pos rfl]
    · rw [wr_at cs (n + 1) _ i (by omega) (by omega)]
      obtain ⟨k, rfl⟩ : ∃ k, i = n + 1 + k := ⟨i - (n + 1), by omega⟩
      rw [show n + 1 + k - (n + 1) = k by omega, show n + 1 + k - n = k + 1 by omega]
      rfl
theorem put_ok {n c : Nat} (X : A1) (hn : n < 40) (hc : c < 128) : fX10_put 40 (nI n) X (nI c) = some (nI (n + 1), upd X n (nI c)) := by
  unfold fX10_put
  rw [if_neg (nI_pos (by omega)), if_neg (show ¬ Int32.ofNat 40 ≤ nI n from nI_ge (b := 40) (by omega) (by omega)), gI_ok (by omega) (by omega), nmv_eq, ix0 (by omega), nar_eq, fa_byte_small hc, nI_1]
theorem lays_ok {n c : Nat} (X : A1) (hn : n < 40) (hc : c < 128) : fX12_lays (nI n) X (nI c) = some (nI (n + 1), upd X n (nI c)) := by
  unfold fX12_lays
  rw [gI_ok (by omega) (by omega), nmv_eq, ix0 (by omega), nar_eq, fa_byte_small hc, nI_1]
theorem pT_ok (f : Nat → Nat) : ∀ (m j n : Nat) (X : A1), (∀ i, i < m → f (j + i) < 128) → n + m ≤ 40 → fPT 40 f m j (nI n) X = some (nI (n + m), wr ((List.range' j m).map f) n X) := by
  intro m
  induction m with
  | zero => intro j n X _ _; rfl
  | succ m ih =>
    intro j n X h hn
    rw [fPT, put_ok (n := n) (c := f j) X (by omega) (h 0 (by omega)), bind_eq]
    show fPT 40 f m (j + 1) (nI (n + 1)) (upd X n (nI (f j))) = _
    rw [ih (j + 1) (n + 1) _ (fun i hi => by rw [show j + 1 + i = j + (i + 1) by omega]; exact h (i + 1) (by omega)) (by omega), List.range'_succ, List.map_cons, wr, show n + 1 + m = n + (m + 1) by omega]
theorem lshr {n k : Nat} (hn : n < 2 ^ 63) (hk : k < 64) : lN n >>> ((nI k).toInt64 &&& 63) = lN (n / 2 ^ k) := by
  rw [wb_c k hk]
  apply wb_inj
  show (lN n).toBitVec.sshiftRight ((lN k).toBitVec.smod 64).toNat = _
  rw [wb_tb k, wb_sm k hk, BitVec.toNat_ofNat, Nat.mod_eq_of_lt (show k < 2 ^ 64 by omega), wb_tb, wb_tb, BitVec.sshiftRight_eq_of_msb_false (by rw [BitVec.msb_eq_decide, BitVec.toNat_ofNat, Nat.mod_eq_of_lt (by omega)]; exact decide_eq_false (by omega))]
  apply BitVec.eq_of_toNat_eq
  have h2 : n / 2 ^ k ≤ n := Nat.div_le_self _ _
  rw [BitVec.toNat_ushiftRight, BitVec.toNat_ofNat, BitVec.toNat_ofNat, Nat.mod_eq_of_lt (by omega), Nat.mod_eq_of_lt (by omega), Nat.shiftRight_eq_div_pow]
theorem l2i (n : Nat) (hn : n < 2 ^ 31) : Int64.toInt32 (lN n) = nI n := by
  apply Int32.toBitVec_inj.mp
  show (BitVec.ofNat 64 n).signExtend 32 = BitVec.ofNat 32 n
  apply BitVec.eq_of_toNat_eq
  rw [BitVec.signExtend_eq_setWidth_of_le _ (by omega), BitVec.toNat_setWidth, BitVec.toNat_ofNat, BitVec.toNat_ofNat]
  omega
/-- a number by its places, the last first -/
def vb (B : Nat) : List Nat → Nat
  | [] => 0
  | l :: r => B * vb B r + l
theorem vb_v5 : ∀ r, v5 r = vb 32 r
  | [] => rfl
  | l :: r => by rw [v5, vb, vb_v5 r]
theorem vb_v8 : ∀ r, v8 r = vb 256 (r.map (96 + ·))
  | [] => rfl
  | l :: r => by rw [v8, List.map_cons, vb, vb_v8 r]
theorem vb_dig {B : Nat} (hB : 0 < B) : ∀ (j : Nat) (d : List Nat), (∀ c, c ∈ d → c < B) → vb B d / B ^ j % B = d.getD j 0 := by
  intro j
  induction j with
  | zero =>
    intro d h
    cases d with
    | nil => rw [vb, Nat.zero_div, Nat.zero_mod]; rfl
    | cons l r => rw [vb, Nat.pow_zero, Nat.div_one, Nat.mul_add_mod, Nat.mod_eq_of_lt (h l (List.mem_cons_self ..))]; rfl
  | succ j ih =>
    intro d h
    cases d with
    | nil => rw [vb, Nat.zero_div, Nat.zero_mod]; rfl
    | cons l r =>
      rw [vb, Nat.pow_succ, Nat.mul_comm (B ^ j) B, ← Nat.div_div_eq_div_mul, Nat.mul_add_div hB, Nat.div_eq_of_lt (h l (List.mem_cons_self ..)), Nat.add_zero, ih r (fun c hc => h c (List.mem_cons_of_mem _ hc))]
      rfl
theorem take_get (d : List Nat) (j : Nat) : (j < d.length ∧ (d.take (j + 1)).reverse = d.getD j 0 :: (d.take j).reverse) ∨ (d.length ≤ j ∧ d.getD j 0 = 0 ∧ d.take (j + 1) = d.take j) := by
  by_cases h : j < d.length
  · left
    refine ⟨h, ?_⟩
    rw [List.take_succ, List.getElem?_eq_getElem h, List.getD_eq_getElem?_getD, List.getElem?_eq_getElem h, Option.toList_some, List.reverse_append]
    rfl
  · right
    refine ⟨by omega, ?_, ?_⟩
    · rw [List.getD_eq_getElem?_getD, List.getElem?_eq_none (by omega)]
      rfl
    · rw [List.take_of_length_le (by omega), List.take_of_length_le (by omega)]
theorem stepdn (a b : Nat) (c : Int32) (hc : nI b + c = 0) : nI (a + b) + c = nI a := by
  rw [← nI_add, Int32.add_assoc, hc]
  exact Int32.add_zero _
theorem spells_loop {d : List Nat} (h : ∀ c, c ∈ d → 1 ≤ c ∧ c < 128) {V : Nat} (hV : V = vb 256 d) (h63 : V < 2 ^ 63) : ∀ (j m n : Nat) (X : A1), j ≤ 8 → j < m → n + (d.take j).length ≤ 40 → lX12_spells_3 m (nI n) X (lN V) (nI (8 * j) + (-8)) = some (nI (n + (d.take j).length), wr (d.take j).reverse n X) := by
  intro j
  induction j with
  | zero =>
    intro m n X _ hm _
    obtain ⟨m, rfl⟩ := sn hm
    rw [lX12_spells_3, if_pos (by decide)]
    rfl
  | succ j ih =>
    intro m n X hj hm hn
    obtain ⟨m, rfl⟩ := sn hm
    have hlt : V / 2 ^ (8 * j) < 2 ^ 64 := Nat.lt_of_le_of_lt (Nat.div_le_self _ _) (by omega)
    have hdig : V / 2 ^ (8 * j) % 256 = d.getD j 0 := by
      rw [hV, Nat.pow_mul]
      exact vb_dig (B := 256) (by omega) j d (fun c hc => by have := h c hc; omega)
    rw [Nat.mul_add, Nat.mul_one, stepdn (8 * j) 8 (-8) (by decide), lX12_spells_3, if_neg (nI_pos (by omega)), lshr h63 (by omega), show (255 : Int64) = lN (2 ^ 8 - 1) from rfl, wb_mask hlt (by omega), show (2 : Nat) ^ 8 = 256 from rfl, hdig]
    rcases take_get d j with ⟨hl, ht⟩ | ⟨hl, hz, ht⟩
    · have hc := h (d.getD j 0) (by rw [List.getD_eq_getElem?_getD, List.getElem?_eq_getElem hl]; exact List.getElem_mem hl)
      have htl : (d.take (j + 1)).length = (d.take j).length + 1 := by rw [← List.length_reverse, ht, List.length_cons, List.length_reverse]
      have hnz : ¬ lg_cmp (lN (d.getD j 0)) 0 = 0 := by
        rw [lg_cmp_eq, show (0 : Int64) = lN 0 from rfl, pk_lEQ (by omega) (by omega)]
        omega
      rw [if_neg hnz, nmv_eq, l2i (d.getD j 0) (by omega), lays_ok (n := n) (c := d.getD j 0) X (by omega) hc.2, bind_eq, ht, htl]
      show lX12_spells_3 m (nI (n + 1)) (upd X n (nI (d.getD j 0))) (lN V) (nI (8 * j) + (-8)) = _
      rw [ih m (n + 1) _ (by omega) (by omega) (by omega), wr, show n + 1 + (d.take j).length = n + ((d.take j).length + 1) by omega]
    · rw [hz, if_pos (show lg_cmp (lN 0) 0 = 0 by rw [lg_cmp_eq]; rfl), ih m n X (by omega) (by omega) (by rw [← ht]; exact hn), ht]
theorem spells_ok {d : List Nat} (hd : d.length ≤ 7) (h : ∀ c, c ∈ d → 1 ≤ c ∧ c < 128) {V : Nat} (hV : V = vb 256 d) (h63 : V < 2 ^ 63) {n : Nat} (X : A1) (hn : n + d.length ≤ 40) : fX12_spells (nI n) X (lN V) = some (nI (n + d.length), wr d.reverse n X) := by
  have e := spells_loop h hV h63 8 5000 n X (by omega) (by omega) (by rw [List.take_of_length_le (by omega)]; exact hn)
  rw [List.take_of_length_le (by omega)] at e
  exact e
theorem says_ok {d : List Nat} (hd : d.length ≤ 7) (h : ∀ c, c ∈ d → 1 ≤ c ∧ c < 128) {V : Nat} (hV : V = vb 256 d) (h63 : V < 2 ^ 63) {n : Nat} (X : A1) (hn : n + 1 + d.length ≤ 40) : fX12_says (nI n) X (lN V) = some (nI (n + (1 + d.length)), wr (32 :: d.reverse) n X) := by
  unfold fX12_says
  rw [show (32 : Int32) = nI 32 from rfl, lays_ok X (by omega) (by omega), bind_eq]
  show (fX12_spells (nI (n + 1)) (upd X n (nI 32)) (lN V)).bind _ = _
  rw [spells_ok hd h hV h63 _ hn, bind_eq, wr, show n + (1 + d.length) = n + 1 + d.length by omega]
theorem name_loop {d : List Nat} (h : ∀ c, c ∈ d → 1 ≤ c ∧ c ≤ 26) {V : Nat} (hV : V = vb 32 d) (h63 : V < 2 ^ 63) : ∀ (j m n : Nat) (X : A1), j ≤ 8 → j < m → n + (d.take j).length ≤ 40 → lX10_putName_3 40 m (nI n) X (lN V) (nI (5 * j) + (-5)) = some (nI (n + (d.take j).length), wr ((d.take j).reverse.map (96 + ·)) n X) := by
  intro j
  induction j with
  | zero =>
    intro m n X _ hm _
    obtain ⟨m, rfl⟩ := sn hm
    rw [lX10_putName_3, if_pos (by decide)]
    rfl
  | succ j ih =>
    intro m n X hj hm hn
    obtain ⟨m, rfl⟩ := sn hm
    have hlt : V / 2 ^ (5 * j) < 2 ^ 64 := Nat.lt_of_le_of_lt (Nat.div_le_self _ _) (by omega)
    have hdig : V / 2 ^ (5 * j) % 32 = d.getD j 0 := by
      rw [hV, Nat.pow_mul]
      exact vb_dig (B := 32) (by omega) j d (fun c hc => by have := h c hc; omega)
    rw [Nat.mul_add, Nat.mul_one, stepdn (5 * j) 5 (-5) (by decide), lX10_putName_3, if_neg (nI_pos (by omega)), lshr h63 (by omega), show (31 : Int64) = lN (2 ^ 5 - 1) from rfl, wb_mask hlt (by omega), show (2 : Nat) ^ 5 = 32 from rfl, hdig, nmv_eq]
    rcases take_get d j with ⟨hl, ht⟩ | ⟨hl, hz, ht⟩
    · have hc := h (d.getD j 0) (by rw [List.getD_eq_getElem?_getD, List.getElem?_eq_getElem hl]; exact List.getElem_mem hl)
      have htl : (d.take (j + 1)).length = (d.take j).length + 1 := by rw [← List.length_reverse, ht, List.length_cons, List.length_reverse]
      rw [l2i (d.getD j 0) (by omega), if_neg (nI_ne0 (by omega) (by omega)), show (96 : Int32) = nI 96 from rfl, nI_add, put_ok (n := n) (c := 96 + d.getD j 0) X (by omega) (by omega), bind_eq, ht, htl]
      show lX10_putName_3 40 m (nI (n + 1)) (upd X n (nI (96 + d.getD j 0))) (lN V) (nI (5 * j) + (-5)) = _
      rw [ih m (n + 1) _ (by omega) (by omega) (by omega), List.map_cons, wr, show n + 1 + (d.take j).length = n + ((d.take j).length + 1) by omega]
    · rw [hz, if_pos (show Int64.toInt32 (lN 0) = 0 from rfl), ih m n X (by omega) (by omega) (by rw [← ht]; exact hn), ht]
theorem name_ok {d : List Nat} (hd : d.length ≤ 7) (h : ∀ c, c ∈ d → 1 ≤ c ∧ c ≤ 26) {V : Nat} (hV : V = vb 32 d) (h63 : V < 2 ^ 63) {n : Nat} (X : A1) (hn : n + d.length ≤ 40) : fX10_putName 40 (nI n) X (lN V) = some (nI (n + d.length), wr (d.reverse.map (96 + ·)) n X) := by
  have e := name_loop h hV h63 7 5000 n X (by omega) (by omega) (by rw [List.take_of_length_le (by omega)]; exact hn)
  rw [List.take_of_length_le (by omega)] at e
  exact e
