/-! ===== pure: promise 40: said, set by set and GUEST by GUEST ===== -/
theorem hg_up (st : A1) : ∀ i, hg st i ≤ i
  | 0 => Nat.le_refl 0
  | i + 1 => by
    have := hg_up st i
    rw [hg]
    split
    · omega
    · split <;> omega
theorem hg_dn (st : A1) (i : Nat) : ∀ m, hg st i ≤ hg st (i + m) + m
  | 0 => Nat.le_refl _
  | m + 1 => by
    have := hg_dn st i m
    rw [show i + (m + 1) = i + m + 1 by omega, hg]
    split
    · omega
    · split <;> omega
theorem hg_le {st : A1} {L : Nat} (hL : L ≤ 39) (h1 : hg st L = 1) {i : Nat} (hi : i ≤ L) : hg st i ≤ 20 := by
  have h2 := hg_up st i
  have h3 := hg_dn st i (L - i)
  rw [show i + (L - i) = L by omega] at h3
  omega
/-- what lies on the pile of one GUEST behind i steps -/
def PV (st : A1) (lv : Nat → Nat → Bool) : Nat → Nat → Nat → Bool
  | 0, _, _ => false
  | i + 1, h, g => if st i = 12 then (if h + 1 = hg st i then !(PV st lv i h g) else PV st lv i h g) else if st i = 11 then (if h + 2 = hg st i then PV st lv i h g && PV st lv i (h + 1) g else PV st lv i h g) else if st i = 10 then (if h + 2 = hg st i then PV st lv i h g || PV st lv i (h + 1) g else PV st lv i h g) else if h = hg st i then lv i g else PV st lv i h g
theorem lefts_sm {G : Nat} (hG : G ≤ 7) {x : Int32} (h : sm G x) : sm G (lefts G x) ∧ ∀ g, g < G → bt (lefts G x) g = !bt x g := by
  obtain ⟨S, hS, rfl⟩ := sm_nat (by omega) h
  obtain ⟨h1, h2, h3⟩ := left_all G hG S hS
  refine ⟨?_, fun g hg => ?_⟩
  · rw [h3]
    exact sm_nI (by omega)
  · rw [h2 g (by omega), decide_eq_true hg, Bool.true_and]
section
variable {C G D : Nat} {pride speed payer cost s : A1} {sit tak ser hid rnd ovr hst pia : Int32} {coins chairOf tired hosted owed paid : A1}
theorem plain_loop (hG : G ≤ 7) {st sg va : A1} {x : Int32} {p : Nat → Bool} (hp : ∀ g, g < G → fX7_holds st sg va sit (nI G) pride payer coins chairOf tired hosted owed (nI g) x = some (bI (p g))) : ∀ (m j n : Nat), j + m = G → m < n → ∀ S : Int32, sm G S → (∀ g, j ≤ g → g < G → bt S g = false) →
    ∃ S', lX7_plainOne_5 st sg va sit (nI G) pride payer coins chairOf tired hosted owed n x S (nI j) = some S' ∧ sm G S' ∧ ∀ g, g < G → bt S' g = if g < j then bt S g else p g := by
  intro m
  induction m with
  | zero =>
    intro j n hj hn S hS hz
    obtain ⟨n, rfl⟩ := sn hn
    refine ⟨S, ?_, hS, fun g hg => ?_⟩
    · rw [lX7_plainOne_5, if_pos (nI_le (by omega) (by omega))]
    · rw [if_pos (by omega)]
  | succ m ih =>
    intro j n hj hn S hS hz
    obtain ⟨n, rfl⟩ := sn hn
    rw [lX7_plainOne_5, if_neg (nI_ge (by omega) (by omega)), hp j (by omega), bind_eq, nI_1]
    by_cases hb : p j = true
    · rw [hb, if_neg (show ¬ bI true = 0 by decide), nmv_eq]
      obtain ⟨S', y1, y2, y3⟩ := ih (j + 1) n (by omega) (by omega) (S ||| (1 <<< (nI j &&& 31))) (sm_set hS (by omega) (by omega)) (fun g h1 h2 => by
        rw [bt_set (by omega) (by omega), hz g (by omega) h2, decide_eq_false (by omega)]
        rfl)
      refine ⟨S', y1, y2, fun g hg => ?_⟩
      rw [y3 g hg]
      by_cases e : g = j
      · subst e
        rw [if_pos (by omega), if_neg (by omega), bt_set (by omega) (by omega), hb, decide_eq_true rfl, Bool.or_true]
      · by_cases e2 : g < j
        · rw [if_pos (by omega), if_pos e2, bt_set (by omega) (by omega), decide_eq_false e, Bool.or_false]
        · rw [if_neg (by omega), if_neg e2]
    · have hb' : p j = false := by
        cases h : p j
        · rfl
        · exact absurd h hb
      rw [hb', if_pos (show bI false = 0 by decide)]
      obtain ⟨S', y1, y2, y3⟩ := ih (j + 1) n (by omega) (by omega) S hS (fun g h1 h2 => hz g (by omega) h2)
      refine ⟨S', y1, y2, fun g hg => ?_⟩
      rw [y3 g hg]
      by_cases e : g = j
      · subst e
        rw [if_pos (by omega), if_neg (by omega), hz g (by omega) hg, hb']
      · by_cases e2 : g < j
        · rw [if_pos (by omega), if_pos e2]
        · rw [if_neg (by omega), if_neg e2]
theorem true_loop (hG : G ≤ 7) {st sg va : A1} {L : Nat} (hL : L ≤ 39) (h1 : hg st L = 1) (hW : WFs st L) {lv : Nat → Nat → Bool} (hlv : ∀ i, i < L → ¬ (st i = 12 ∨ st i = 11 ∨ st i = 10) → ∀ g, g < G → fX7_holds st sg va sit (nI G) pride payer coins chairOf tired hosted owed (nI g) (nI i) = some (bI (lv i g))) : ∀ (m i n : Nat), i + m = L → m < n → ∀ pile : A1, (∀ h, h < hg st i → sm G (pile h) ∧ ∀ g, g < G → bt (pile h) g = PV st lv i h g) →
    ∃ r pile', lX7_trueOf_17 (nI L) st sg va sit (nI G) pride payer coins chairOf tired hosted owed n pile ((1 <<< (nI G &&& 31)) - 1) (nI (hg st i)) (nI i) = some (r, pile') ∧ sm G r ∧ ∀ g, g < G → bt r g = PV st lv L 0 g := by
  intro m
  induction m with
  | zero =>
    intro i n hi hn pile hP
    obtain ⟨n, rfl⟩ := sn hn
    have e : i = L := by omega
    subst e
    obtain ⟨y1, y2⟩ := hP 0 (by omega)
    refine ⟨pile 0, pile, ?_, y1, y2⟩
    rw [lX7_trueOf_17, if_pos (nI_le (by omega) (by omega)), h1, if_neg (by decide)]
  | succ m ih =>
    intro i n hi hn pile hP
    obtain ⟨n, rfl⟩ := sn hn
    have hle := hg_le hL h1 (show i ≤ L by omega)
    have hle1 := hg_le hL h1 (show i + 1 ≤ L by omega)
    obtain ⟨w1, w2⟩ := hW i (by omega)
    have gi : ∀ {α : Type} {x : Option α}, gI (nI i) 40 x = x := fun {α x} => gI_ok (by omega) (by omega)
    rw [lX7_trueOf_17, if_neg (nI_ge (by omega) (by omega)), gi, ix0 (show i < 1000 by omega)]
    by_cases h12 : st i = 12
    · have hh := w1 h12
      have e1 : hg st (i + 1) = hg st i := by
        rw [hg, if_pos h12]
      obtain ⟨y1, y2⟩ := hP (hg st i - 1) (by omega)
      obtain ⟨z1, z2⟩ := lefts_sm hG y1
      rw [if_pos h12, if_neg (nI_nle (by omega) (by omega)), sub1 hh, gI_ok (show hg st i - 1 < 20 by omega) (by omega), nmv_eq, gI_ok (show hg st i - 1 < 20 by omega) (by omega), nmv_eq, ix0 (by omega), nI_1]
      have := ih (i + 1) n (by omega) (by omega) (upd pile (hg st i - 1) (lefts G (pile (hg st i - 1)))) (fun h hh2 => by
        rw [e1] at hh2
        by_cases e : h = hg st i - 1
        · rw [e, pk_us]
          refine ⟨z1, fun g hg' => ?_⟩
          rw [z2 g hg', y2 g hg', PV, if_pos h12, if_pos (by omega)]
        · rw [pk_un e]
          refine ⟨(hP h hh2).1, fun g hg' => ?_⟩
          rw [(hP h hh2).2 g hg', PV, if_pos h12, if_neg (by omega)])
      rw [e1] at this
      exact this
    · rw [if_neg h12, gi]
      have both : (st i = 11 ∨ st i = 10) → ∀ (k : A1 → Int32 → Int32 → Int32 → Option (Int32 × A1)), (∀ v : Int32, sm G v → (∀ g, g < G → bt v g = PV st lv (i + 1) (hg st i - 2) g) → ∃ r pile', k (upd pile (hg st i - 2) v) ((1 <<< (nI G &&& 31)) - 1) (nI (hg st i - 1)) (nI (i + 1)) = some (r, pile') ∧ sm G r ∧ ∀ g, g < G → bt r g = PV st lv L 0 g) →
          ∃ r pile', bX7_trueOf_89 (nI L) st sg va sit (nI G) pride payer coins chairOf tired hosted owed k pile ((1 <<< (nI G &&& 31)) - 1) (nI (hg st i)) (nI i) = some (r, pile') ∧ sm G r ∧ ∀ g, g < G → bt r g = PV st lv L 0 g := by
        intro h11 k hk
        have hh := w2 h11
        obtain ⟨y1, y2⟩ := hP (hg st i - 2) (by omega)
        obtain ⟨z1, z2⟩ := hP (hg st i - 1) (by omega)
        have em : nI (hg st i) + (-1) = nI (hg st i - 1) := sb_m1 (by omega)
        have em2 : nI (hg st i - 1) - 1 = nI (hg st i - 2) := by
          rw [sub1 (by omega), show hg st i - 1 - 1 = hg st i - 2 by omega]
        have g1 : ∀ {α : Type} {x : Option α}, gI (nI (hg st i - 2)) 20 x = x := fun {α x} => gI_ok (by omega) (by omega)
        have g2 : ∀ {α : Type} {x : Option α}, gI (nI (hg st i - 1)) 20 x = x := fun {α x} => gI_ok (by omega) (by omega)
        have i1 : Int32.toNatClampNeg (nI (hg st i - 2)) = hg st i - 2 := ix0 (by omega)
        have i2 : Int32.toNatClampNeg (nI (hg st i - 1)) = hg st i - 1 := ix0 (by omega)
        unfold bX7_trueOf_89
        rw [if_neg (show ¬ nI (hg st i) ≤ 1 from nI_ge (a := 1) (by omega) (by omega)), em, em2, g1, g2, nmv_eq, gi, i1, i2, ix0 (show i < 1000 by omega), nI_1]
        have hsum : hg st i - 2 + 2 = hg st i := by omega
        have hs1 : hg st i - 2 + 1 = hg st i - 1 := by omega
        by_cases e11 : st i = 11
        · rw [if_pos e11, g1, nmv_eq]
          refine hk _ (fun j h2 h3 => by rw [b_and, y1 j h2 h3]; rfl) (fun g hg' => ?_)
          rw [b_and, y2 g hg', z2 g hg', PV, if_neg h12, if_pos e11, if_pos hsum, hs1]
        · have e10 : st i = 10 := h11.resolve_left e11
          rw [if_neg e11, g1, g2, nmv_eq, g1, nmv_eq]
          refine hk _ (fun j h2 h3 => by rw [b_or, y1 j h2 h3, z1 j h2 h3]; rfl) (fun g hg' => ?_)
          rw [b_or, y2 g hg', z2 g hg', PV, if_neg h12, if_neg e11, if_pos e10, if_pos hsum, hs1]
      have goon : (st i = 11 ∨ st i = 10) → ∀ v : Int32, sm G v → (∀ g, g < G → bt v g = PV st lv (i + 1) (hg st i - 2) g) → ∃ r pile', lX7_trueOf_17 (nI L) st sg va sit (nI G) pride payer coins chairOf tired hosted owed n (upd pile (hg st i - 2) v) ((1 <<< (nI G &&& 31)) - 1) (nI (hg st i - 1)) (nI (i + 1)) = some (r, pile') ∧ sm G r ∧ ∀ g, g < G → bt r g = PV st lv L 0 g := by
        intro h11 v hv hb
        have hh := w2 h11
        have e1 : hg st (i + 1) = hg st i - 1 := by
          rw [hg, if_neg h12, if_pos h11]
        have := ih (i + 1) n (by omega) (by omega) (upd pile (hg st i - 2) v) (fun h hh2 => by
          rw [e1] at hh2
          by_cases e : h = hg st i - 2
          · rw [e, pk_us]
            exact ⟨hv, hb⟩
          · rw [pk_un e]
            refine ⟨(hP h (by omega)).1, fun g hg' => ?_⟩
            rw [(hP h (by omega)).2 g hg', PV, if_neg h12]
            by_cases e11 : st i = 11
            · rw [if_pos e11, if_neg (by omega)]
            · rw [if_neg e11, if_pos (h11.resolve_left e11), if_neg (by omega)])
        rw [e1] at this
        exact this
      by_cases h11 : st i = 11
      · rw [if_pos h11]
        exact both (Or.inl h11) _ (goon (Or.inl h11))
      · rw [if_neg h11, gi]
        by_cases h10 : st i = 10
        · rw [if_pos h10]
          exact both (Or.inr h10) _ (goon (Or.inr h10))
        · have hno : ¬ (st i = 12 ∨ st i = 11 ∨ st i = 10) := fun e => e.elim h12 (fun e => e.elim h11 h10)
          have hno2 : ¬ (st i = 11 ∨ st i = 10) := fun e => e.elim h11 h10
          have e1 : hg st (i + 1) = hg st i + 1 := by
            rw [hg, if_neg h12, if_neg hno2]
          obtain ⟨S', x1, x2, x3⟩ := plain_loop hG (hlv i (by omega) hno) G 0 5000 (by omega) (by omega) 0 (sm_0 G) (fun g _ _ => b_0 g)
          have hpl : fX7_plainOne st sg va sit (nI G) pride payer coins chairOf tired hosted owed (nI i) = some S' := x1
          rw [if_neg h10, if_neg (show ¬ (20 : Int32) ≤ nI (hg st i) from nI_ge (b := 20) (by omega) (by omega)), hpl, bind_eq, gI_ok (show hg st i < 20 by omega) (by omega), nmv_eq, ix0 (by omega), nI_1, nI_1]
          have := ih (i + 1) n (by omega) (by omega) (upd pile (hg st i) S') (fun h hh2 => by
            rw [e1] at hh2
            by_cases e : h = hg st i
            · rw [e, pk_us]
              refine ⟨x2, fun g hg' => ?_⟩
              rw [x3 g hg', if_neg (by omega), PV, if_neg h12, if_neg h11, if_neg h10, if_pos rfl]
            · rw [pk_un e]
              refine ⟨(hP h (by omega)).1, fun g hg' => ?_⟩
              rw [(hP h (by omega)).2 g hg', PV, if_neg h12, if_neg h11, if_neg h10, if_neg e])
          rw [e1] at this
          exact this
end
theorem nar0 : vp_nar .boolean 0 = 0 := rfl
theorem nar1 : vp_nar .boolean 1 = 1 := rfl
theorem nar_bI (b : Bool) : vp_nar .boolean (bI b) = bI b := by
  cases b <;> rfl
theorem gB_bI {α : Type} (b : Bool) (x : Option α) : gB (bI b) x = x := by
  cases b
  · exact gB_0
  · exact gB_1
/-- the code of a step -/
theorem CRel_code {G : Nat} {a b c x y z : Int32} (h : CRel G a b c x y z) : (a = 12 ∧ x = 20) ∨ (a = 11 ∧ x = 21) ∨ (a = 10 ∧ x = 22) ∨ ((¬ a = 12 ∧ ¬ a = 11 ∧ ¬ a = 10) ∧ ¬ x = 20 ∧ ¬ x = 21 ∧ ¬ x = 22) := by
  have far : ∀ j, j < 9 → (¬ nI (13 + j) = 12 ∧ ¬ nI (13 + j) = 11 ∧ ¬ nI (13 + j) = 10) ∧ ¬ nI j = 20 ∧ ¬ nI j = 21 ∧ ¬ nI j = 22 := by decide +kernel
  rcases h with h | h | h | ⟨j, hj, h, hx⟩ | ⟨j, v, hj, hv, h, hx, hc, hz⟩ | ⟨j, q, v, hj, hq, hv, h, hx, hb, hy, hc, hz⟩
  · exact Or.inl h
  · exact Or.inr (Or.inl h)
  · exact Or.inr (Or.inr (Or.inl h))
  · rw [h, hx]
    exact Or.inr (Or.inr (Or.inr (far j (by omega))))
  · rw [h, hx]
    exact Or.inr (Or.inr (Or.inr (far j (by omega))))
  · rw [h, hx]
    exact Or.inr (Or.inr (Or.inr (far j (by omega))))
theorem said_loop {G : Nat} {st sg va s : A1} {L : Nat} (hL : L ≤ 39) (hs : s 92 = nI L) (h1 : hg st L = 1) (hW : WFs st L) (hC : ∀ i, i < L → CRel G (st i) (sg i) (va i) (s (93 + 3 * i)) (s (93 + 3 * i + 1)) (s (93 + 3 * i + 2))) {lv : Nat → Nat → Bool} {g : Nat} (hlv : ∀ i, i < L → ¬ (st i = 12 ∨ st i = 11 ∨ st i = 10) → fX12_isLeaf s (nI g) (s (93 + 3 * i)) (s (93 + 3 * i + 1)) (s (93 + 3 * i + 2)) = some (bI (lv i g))) : ∀ (m i n : Nat), i + m = L → m < n → ∀ tr : A1, (∀ h, h < hg st i → tr h = bI (PV st lv i h g)) →
    ∃ tr', lX12_isSaid_4 s n tr (nI g) (nI (hg st i)) (nI i) = some (bI (PV st lv L 0 g), tr') := by
  intro m
  induction m with
  | zero =>
    intro i n hi hn tr hP
    obtain ⟨n, rfl⟩ := sn hn
    have e : i = L := by omega
    subst e
    refine ⟨tr, ?_⟩
    rw [lX12_isSaid_4, hs, if_pos (nI_le (by omega) (by omega)), hP 0 (by omega), gB_bI]
  | succ m ih =>
    intro i n hi hn tr hP
    obtain ⟨n, rfl⟩ := sn hn
    have hle := hg_le hL h1 (show i ≤ L by omega)
    have hle1 := hg_le hL h1 (show i + 1 ≤ L by omega)
    obtain ⟨w1, w2⟩ := hW i (by omega)
    have e93 : (93 : Int32) + (3 * nI i) = nI (93 + 3 * i) := by
      rw [show (3 : Int32) * nI i = nI (3 * i) from pk_mul 3 i]
      exact nI_add 93 (3 * i)
    have gx : ∀ {α : Type} {x : Option α}, gI (nI (93 + 3 * i)) 273 x = x := fun {α x} => gI_ok (by omega) (by omega)
    have gx1 : ∀ {α : Type} {x : Option α}, gI (nI (93 + 3 * i + 1)) 273 x = x := fun {α x} => gI_ok (by omega) (by omega)
    have gx2 : ∀ {α : Type} {x : Option α}, gI (nI (93 + 3 * i + 2)) 273 x = x := fun {α x} => gI_ok (by omega) (by omega)
    have ix : Int32.toNatClampNeg (nI (93 + 3 * i)) = 93 + 3 * i := ix0 (by omega)
    have ix1 : Int32.toNatClampNeg (nI (93 + 3 * i + 1)) = 93 + 3 * i + 1 := ix0 (by omega)
    have ix2 : Int32.toNatClampNeg (nI (93 + 3 * i + 2)) = 93 + 3 * i + 2 := ix0 (by omega)
    have two : nI (93 + 3 * i) + 2 = nI (93 + 3 * i + 2) := nI_add (93 + 3 * i) 2
    have one : nI (93 + 3 * i) + 1 = nI (93 + 3 * i + 1) := nI_add (93 + 3 * i) 1
    have onei : nI i + 1 = nI (i + 1) := nI_1 i
    rw [lX12_isSaid_4, hs, if_neg (nI_ge (by omega) (by omega)), e93, gx, ix, onei]
    rcases CRel_code (hC i (by omega)) with ⟨ha, hx⟩ | ⟨ha, hx⟩ | ⟨ha, hx⟩ | ⟨⟨n12, n11, n10⟩, m20, m21, m22⟩
    · have hh := w1 ha
      have e1 : hg st (i + 1) = hg st i := by
        rw [hg, if_pos ha]
      have nx : ∀ v : Int32, v = bI (PV st lv (i + 1) (hg st i - 1) g) → ∃ tr', lX12_isSaid_4 s n (upd tr (hg st i - 1) v) (nI g) (nI (hg st i)) (nI (i + 1)) = some (bI (PV st lv L 0 g), tr') := by
        intro v hv
        have := ih (i + 1) n (by omega) (by omega) (upd tr (hg st i - 1) v) (fun h hh2 => by
          rw [e1] at hh2
          by_cases e : h = hg st i - 1
          · rw [e, pk_us, hv]
          · rw [pk_un e, hP h hh2, PV, if_pos ha, if_neg (by omega)])
        rw [e1] at this
        exact this
      have pv : PV st lv (i + 1) (hg st i - 1) g = !(PV st lv i (hg st i - 1) g) := by
        rw [PV, if_pos ha, if_pos (by omega)]
      have gh : ∀ {α : Type} {x : Option α}, gI (nI (hg st i - 1)) 45 x = x := fun {α x} => gI_ok (by omega) (by omega)
      rw [if_pos hx, sub1 hh, gh, ix0 (show hg st i - 1 < 1000 by omega), hP (hg st i - 1) (by omega), gh, gh, nmv_eq, nmv_eq, nar0, nar1]
      cases hb : PV st lv i (hg st i - 1) g
      · rw [if_pos (show bI false = 0 by decide)]
        exact nx 1 (by rw [pv, hb]; rfl)
      · rw [if_neg (show ¬ bI true = 0 by decide)]
        exact nx 0 (by rw [pv, hb]; rfl)
    · have hh := w2 (Or.inl ha)
      have n12 : ¬ st i = 12 := by rw [ha]; decide
      have e1 : hg st (i + 1) = hg st i - 1 := by
        rw [hg, if_neg n12, if_pos (Or.inl ha)]
      have nx : ∀ v : Int32, v = bI (PV st lv (i + 1) (hg st i - 2) g) → ∃ tr', lX12_isSaid_4 s n (upd tr (hg st i - 2) v) (nI g) (nI (hg st i - 1)) (nI (i + 1)) = some (bI (PV st lv L 0 g), tr') := by
        intro v hv
        have := ih (i + 1) n (by omega) (by omega) (upd tr (hg st i - 2) v) (fun h hh2 => by
          rw [e1] at hh2
          by_cases e : h = hg st i - 2
          · rw [e, pk_us, hv]
          · rw [pk_un e, hP h (by omega), PV, if_neg n12, if_pos ha, if_neg (by omega)])
        rw [e1] at this
        exact this
      have pv : PV st lv (i + 1) (hg st i - 2) g = (PV st lv i (hg st i - 2) g && PV st lv i (hg st i - 1) g) := by
        rw [PV, if_neg n12, if_pos ha, if_pos (by omega), show hg st i - 2 + 1 = hg st i - 1 by omega]
      have em : nI (hg st i) + (-1) = nI (hg st i - 1) := sb_m1 (by omega)
      have em2 : nI (hg st i - 1) - 1 = nI (hg st i - 2) := by
        rw [sub1 (by omega), show hg st i - 1 - 1 = hg st i - 2 by omega]
      have g1 : ∀ {α : Type} {x : Option α}, gI (nI (hg st i - 2)) 45 x = x := fun {α x} => gI_ok (by omega) (by omega)
      have g2 : ∀ {α : Type} {x : Option α}, gI (nI (hg st i - 1)) 45 x = x := fun {α x} => gI_ok (by omega) (by omega)
      have i1 : Int32.toNatClampNeg (nI (hg st i - 2)) = hg st i - 2 := ix0 (by omega)
      have i2 : Int32.toNatClampNeg (nI (hg st i - 1)) = hg st i - 1 := ix0 (by omega)
      unfold bX12_isSaid_86
      rw [hx, if_neg (show ¬ (21 : Int32) = 20 by decide), gx, if_pos rfl, gx, ix, hx, if_pos rfl, em, em2, g1, i1, i2, hP (hg st i - 2) (by omega), hP (hg st i - 1) (by omega), onei]
      cases hb : PV st lv i (hg st i - 2) g
      · rw [if_pos (show bI false = 0 by decide), g1, nmv_eq, nar0]
        exact nx 0 (by rw [pv, hb]; rfl)
      · rw [if_neg (show ¬ bI true = 0 by decide), g2]
        cases hb2 : PV st lv i (hg st i - 1) g
        · rw [if_pos (show bI false = 0 by decide), g1, nmv_eq, nar0]
          exact nx 0 (by rw [pv, hb, hb2]; rfl)
        · rw [if_neg (show ¬ bI true = 0 by decide), g1, nmv_eq, nar1]
          exact nx 1 (by rw [pv, hb, hb2]; rfl)
    · have hh := w2 (Or.inr ha)
      have n12 : ¬ st i = 12 := by rw [ha]; decide
      have n11 : ¬ st i = 11 := by rw [ha]; decide
      have e1 : hg st (i + 1) = hg st i - 1 := by
        rw [hg, if_neg n12, if_pos (Or.inr ha)]
      have nx : ∀ v : Int32, v = bI (PV st lv (i + 1) (hg st i - 2) g) → ∃ tr', lX12_isSaid_4 s n (upd tr (hg st i - 2) v) (nI g) (nI (hg st i - 1)) (nI (i + 1)) = some (bI (PV st lv L 0 g), tr') := by
        intro v hv
        have := ih (i + 1) n (by omega) (by omega) (upd tr (hg st i - 2) v) (fun h hh2 => by
          rw [e1] at hh2
          by_cases e : h = hg st i - 2
          · rw [e, pk_us, hv]
          · rw [pk_un e, hP h (by omega), PV, if_neg n12, if_neg n11, if_pos ha, if_neg (by omega)])
        rw [e1] at this
        exact this
      have pv : PV st lv (i + 1) (hg st i - 2) g = (PV st lv i (hg st i - 2) g || PV st lv i (hg st i - 1) g) := by
        rw [PV, if_neg n12, if_neg n11, if_pos ha, if_pos (by omega), show hg st i - 2 + 1 = hg st i - 1 by omega]
      have em : nI (hg st i) + (-1) = nI (hg st i - 1) := sb_m1 (by omega)
      have em2 : nI (hg st i - 1) - 1 = nI (hg st i - 2) := by
        rw [sub1 (by omega), show hg st i - 1 - 1 = hg st i - 2 by omega]
      have g1 : ∀ {α : Type} {x : Option α}, gI (nI (hg st i - 2)) 45 x = x := fun {α x} => gI_ok (by omega) (by omega)
      have g2 : ∀ {α : Type} {x : Option α}, gI (nI (hg st i - 1)) 45 x = x := fun {α x} => gI_ok (by omega) (by omega)
      have i1 : Int32.toNatClampNeg (nI (hg st i - 2)) = hg st i - 2 := ix0 (by omega)
      have i2 : Int32.toNatClampNeg (nI (hg st i - 1)) = hg st i - 1 := ix0 (by omega)
      unfold bX12_isSaid_86
      rw [hx, if_neg (show ¬ (22 : Int32) = 20 by decide), gx, if_neg (show ¬ (22 : Int32) = 21 by decide), gx, if_pos rfl, gx, ix, hx, if_neg (show ¬ (22 : Int32) = 21 by decide), em, em2, g1, i1, i2, hP (hg st i - 2) (by omega), hP (hg st i - 1) (by omega), onei]
      cases hb : PV st lv i (hg st i - 2) g
      · rw [if_pos (show bI false = 0 by decide), g2]
        cases hb2 : PV st lv i (hg st i - 1) g
        · rw [if_pos (show bI false = 0 by decide), g1, nmv_eq, nar0]
          exact nx 0 (by rw [pv, hb, hb2]; rfl)
        · rw [if_neg (show ¬ bI true = 0 by decide), g1, nmv_eq, nar1]
          exact nx 1 (by rw [pv, hb, hb2]; rfl)
      · rw [if_neg (show ¬ bI true = 0 by decide), g1, nmv_eq, nar1]
        exact nx 1 (by rw [pv, hb]; rfl)
    · have hno : ¬ (st i = 12 ∨ st i = 11 ∨ st i = 10) := fun e => e.elim n12 (fun e => e.elim n11 n10)
      have hno2 : ¬ (st i = 11 ∨ st i = 10) := fun e => e.elim n11 n10
      have e1 : hg st (i + 1) = hg st i + 1 := by
        rw [hg, if_neg n12, if_neg hno2]
      rw [if_neg m20, gx, if_neg m21, gx, if_neg m22, gx, one, gx1, two, gx2, nmv_eq, ix1, ix2, hlv i (by omega) hno, bind_eq, gI_ok (show hg st i < 45 by omega) (by omega), nmv_eq, ix0 (show hg st i < 1000 by omega), nar_bI, nI_1]
      have := ih (i + 1) n (by omega) (by omega) (upd tr (hg st i) (bI (lv i g))) (fun h hh2 => by
        rw [e1] at hh2
        by_cases e : h = hg st i
        · rw [e, pk_us, PV, if_neg n12, if_neg n11, if_neg n10, if_pos rfl]
        · rw [pk_un e, hP h (by omega), PV, if_neg n12, if_neg n11, if_neg n10, if_neg e])
      rw [e1] at this
      exact this
