/-! ===== pure: a SENTENCE: codes, what is pending ===== -/
/-- how high the pile is behind L steps of the class -/
def hg (st : A1) : Nat → Nat
  | 0 => 0
  | i + 1 => if st i = 12 then hg st i else if st i = 11 ∨ st i = 10 then hg st i - 1 else hg st i + 1
theorem hg_congr {f g : A1} : ∀ {L : Nat}, (∀ i, i < L → f i = g i) → hg f L = hg g L
  | 0, _ => rfl
  | L + 1, h => by
    rw [hg, hg, hg_congr (fun i hi => h i (by omega)), h L (by omega)]
/-- no step asks for more than lies on the pile -/
def WFs (st : A1) (L : Nat) : Prop := ∀ i, i < L → (st i = 12 → 1 ≤ hg st i) ∧ ((st i = 11 ∨ st i = 10) → 2 ≤ hg st i)
theorem WFs_congr {f g : A1} {L : Nat} (h : ∀ i, i < L → g i = f i) (hf : WFs f L) : WFs g L := fun i hi => by
  rw [h i hi, hg_congr (f := g) (g := f) (L := i) (fun j hj => h j (by omega))]
  exact hf i hi
/-- a step, both -/
def CRel (G : Nat) (a b c x y z : Int32) : Prop :=
  (a = 12 ∧ x = 20) ∨ (a = 11 ∧ x = 21) ∨ (a = 10 ∧ x = 22) ∨ (∃ j, j < 3 ∧ a = nI (13 + j) ∧ x = nI j) ∨ (∃ j g, (j = 3 ∨ j = 4) ∧ g < G ∧ a = nI (13 + j) ∧ x = nI j ∧ c = nI g ∧ z = nI g) ∨ (∃ j q v, (5 ≤ j ∧ j ≤ 8) ∧ (60 ≤ q ∧ q ≤ 62) ∧ v ≤ 999 ∧ a = nI (13 + j) ∧ x = nI j ∧ b = nI q ∧ y = nI q ∧ c = nI v ∧ z = nI v)
/-- the codes, both, the first c of them -/
def CRs (G c : Nat) (st sg va rd : A1) : Prop := ∀ i, i < c → CRel G (st i) (sg i) (va i) (rd (3 * i)) (rd (3 * i + 1)) (rd (3 * i + 2))
theorem code_eq {c : Nat} (hc : c < 45) (rd : A1) (x y z : Int32) : fX12_code (nI c) rd x y z = some (nI (c + 1), upd (upd (upd rd (3 * c) x) (3 * c + 1) y) (3 * c + 2) z) := by
  have e3 : (3 : Int32) * nI c = nI (3 * c) := pk_mul 3 c
  unfold fX12_code
  rw [e3, gI_ok (show 3 * c < 135 by omega) (by omega), nmv_eq, nI_1, gI_ok (show 3 * c + 1 < 135 by omega) (by omega), nmv_eq, nI_2, gI_ok (show 3 * c + 2 < 135 by omega) (by omega), nmv_eq, ix0 (show 3 * c < 1000 by omega), ix0 (show 3 * c + 1 < 1000 by omega), ix0 (show 3 * c + 2 < 1000 by omega), nI_1]
theorem add_eq {L : Nat} (hL : L < 40) (st sg va : A1) (x y z : Int32) : fX7_add (nI L) st sg va x y z = some (1, nI (L + 1), upd st L x, upd sg L y, upd va L z) := by
  unfold fX7_add
  rw [if_pos (show nI L < 40 from nI_lt (b := 40) hL (by omega)), gI_ok hL (by omega), nmv_eq, gI_ok hL (by omega), nmv_eq, gI_ok hL (by omega), nmv_eq, ix0 (show L < 1000 by omega), nI_1]
theorem CRs_add {G c : Nat} {st sg va rd : A1} {a b d x y z : Int32} (h : CRs G c st sg va rd) (hx : CRel G a b d x y z) : CRs G (c + 1) (upd st c a) (upd sg c b) (upd va c d) (upd (upd (upd rd (3 * c) x) (3 * c + 1) y) (3 * c + 2) z) := by
  intro i hi
  by_cases e : i = c
  · subst e
    rw [pk_us, pk_us, pk_us, pk_un (show 3 * i ≠ 3 * i + 2 by omega), pk_un (show 3 * i ≠ 3 * i + 1 by omega), pk_us, pk_un (show 3 * i + 1 ≠ 3 * i + 2 by omega), pk_us, pk_us]
    exact hx
  · rw [pk_un e, pk_un e, pk_un e, pk_un (by omega), pk_un (by omega), pk_un (by omega), pk_un (by omega), pk_un (by omega), pk_un (by omega), pk_un (by omega), pk_un (by omega), pk_un (by omega)]
    exact h i (by omega)
/-- the reference emits a code that the class has told already -/
theorem CRs_emit {G c : Nat} {st sg va rd : A1} {x y z : Int32} (h : CRs G c st sg va rd) (hx : CRel G (st c) (sg c) (va c) x y z) : CRs G (c + 1) st sg va (upd (upd (upd rd (3 * c) x) (3 * c + 1) y) (3 * c + 2) z) := by
  intro i hi
  by_cases e : i = c
  · subst e
    rw [pk_un (show 3 * i ≠ 3 * i + 2 by omega), pk_un (show 3 * i ≠ 3 * i + 1 by omega), pk_us, pk_un (show 3 * i + 1 ≠ 3 * i + 2 by omega), pk_us, pk_us]
    exact hx
  · rw [pk_un (by omega), pk_un (by omega), pk_un (by omega), pk_un (by omega), pk_un (by omega), pk_un (by omega), pk_un (by omega), pk_un (by omega), pk_un (by omega)]
    exact h i (by omega)
theorem CRs_cg {G c : Nat} {st sg va st' sg' va' rd : A1} (h : CRs G c st sg va rd) (h2 : ∀ i, i < c → st' i = st i ∧ sg' i = sg i ∧ va' i = va i) : CRs G c st' sg' va' rd := fun i hi => by
  obtain ⟨h3, h4, h5⟩ := h2 i hi
  rw [h3, h4, h5]
  exact h i hi
theorem sub1 {t : Nat} (h : 1 ≤ t) : nI t - 1 = nI (t - 1) := pk_sub (b := 1) h
/-- 'nots': k of them are emitted -/
theorem nots_run {G : Nat} {st sg va stk : A1} {T dp : Nat} (hb : T = 0 ∨ ¬ stk (T - 1) = 20) : ∀ (k c n : Nat) (rd : A1), T + k ≤ 44 → c + k ≤ 44 → k < n → dp + k < 1000 → (∀ i, i < k → stk (T + i) = 20) → (∀ i, i < k → st (c + i) = 12) → CRs G c st sg va rd →
    ∃ rd', lX12_nots_0 stk n (nI c) (nI (T + k)) (nI (dp + k)) rd = some (nI (c + k), nI T, nI dp, rd') ∧ CRs G (c + k) st sg va rd' := by
  intro k
  induction k with
  | zero =>
    intro c n rd hT hc hn hdp hs hst hR
    obtain ⟨n, rfl⟩ := sn hn
    refine ⟨rd, ?_, hR⟩
    rw [lX12_nots_0]
    by_cases h0 : T = 0
    · subst h0
      rw [if_pos (by decide)]
      rfl
    · rcases hb with hb | hb
      · exact absurd hb h0
      · rw [if_neg (nI_nle (by omega) (by omega)), sub1 (by omega), gI_ok (show T + 0 - 1 < 45 by omega) (by omega), ix0 (by omega), show T + 0 - 1 = T - 1 by omega, if_neg hb]
        rfl
  | succ k ih =>
    intro c n rd hT hc hn hdp hs hst hR
    obtain ⟨n, rfl⟩ := sn hn
    have h12 : st c = 12 := hst 0 (by omega)
    obtain ⟨rd', y1, y2⟩ := ih (c + 1) n _ (by omega) (by omega) (by omega) (by omega) (fun i hi => hs i (by omega)) (fun i hi => by rw [show c + 1 + i = c + (i + 1) by omega]; exact hst (i + 1) (by omega)) (CRs_emit (x := 20) (y := 0) (z := 0) hR (Or.inl ⟨h12, rfl⟩))
    refine ⟨rd', ?_, by rw [show c + (k + 1) = c + 1 + k by omega]; exact y2⟩
    have e20 : stk (T + (k + 1) - 1) = 20 := by
      rw [show T + (k + 1) - 1 = T + k by omega]
      exact hs k (by omega)
    rw [lX12_nots_0, if_neg (nI_nle (by omega) (by omega)), sub1 (show 1 ≤ T + (k + 1) by omega), gI_ok (show T + (k + 1) - 1 < 45 by omega) (by omega), ix0 (by omega), if_pos e20, code_eq (by omega), bind_eq]
    dsimp only
    rw [sub1 (show 1 ≤ dp + (k + 1) by omega), show T + (k + 1) - 1 = T + k by omega, show dp + (k + 1) - 1 = dp + k by omega, show c + (k + 1) = c + 1 + k by omega]
    exact y1
/-- one that joins is emitted -/
theorem joins_one {stk : A1} {T c n : Nat} {x till : Int32} (rd : A1) (hT : T ≤ 43) (hc : c ≤ 43) (h : stk T = x) (hx : x = 21 ∨ (x = 22 ∧ till = 22)) : lX12_joins_0 stk (n + 1) (nI c) (nI (T + 1)) rd till = lX12_joins_0 stk n (nI (c + 1)) (nI T) (upd (upd (upd rd (3 * c) x) (3 * c + 1) 0) (3 * c + 2) 0) till := by
  have hh : stk (T + 1 - 1) = x := by
    rw [show T + 1 - 1 = T by omega]
    exact h
  rw [lX12_joins_0, if_neg (nI_nle (by omega) (by omega)), sub1 (show 1 ≤ T + 1 by omega), gI_ok (show T + 1 - 1 < 45 by omega) (by omega), ix0 (by omega), hh]
  unfold bX12_joins_45
  rw [sub1 (show 1 ≤ T + 1 by omega), gI_ok (show T + 1 - 1 < 45 by omega) (by omega), ix0 (by omega), hh, code_eq (by omega), bind_eq]
  dsimp only
  rcases hx with rfl | ⟨rfl, rfl⟩
  · rw [if_pos rfl]
    rfl
  · rw [if_neg (by decide), gI_ok (show T + 1 - 1 < 45 by omega) (by omega), if_pos rfl, if_pos rfl]
    rfl
/-- .. or none any more -/
theorem joins_none {stk : A1} {T c n : Nat} {till : Int32} (rd : A1) (hT : T ≤ 44) (h : T = 0 ∨ (¬ stk (T - 1) = 21 ∧ ¬ (stk (T - 1) = 22 ∧ till = 22))) : lX12_joins_0 stk (n + 1) (nI c) (nI T) rd till = some (nI c, nI T, rd) := by
  rw [lX12_joins_0]
  by_cases h0 : T = 0
  · subst h0
    rw [if_pos (by decide)]
  · rcases h with h | ⟨h, h2⟩
    · exact absurd h h0
    · rw [if_neg (nI_nle (by omega) (by omega)), sub1 (by omega), gI_ok (show T - 1 < 45 by omega) (by omega), ix0 (by omega), if_neg h, gI_ok (show T - 1 < 45 by omega) (by omega)]
      by_cases h3 : stk (T - 1) = 22
      · rw [if_pos h3, if_neg (fun h4 => h2 ⟨h3, h4⟩)]
      · rw [if_neg h3]
/-- 'joins' by 'and': the pending 'and', if there is one -/
theorem joins_and {G : Nat} {st sg va stk : A1} {T c pa : Nat} {rd : A1} (hpa : pa ≤ 1) (hT : T + pa ≤ 44) (hc : c + pa ≤ 44) (hs : pa = 1 → stk T = 21) (hst : pa = 1 → st c = 11) (hb : T = 0 ∨ ¬ stk (T - 1) = 21) (hR : CRs G c st sg va rd) : ∃ rd', fX12_joins stk (nI c) (nI (T + pa)) rd 21 = some (nI (c + pa), nI T, rd') ∧ CRs G (c + pa) st sg va rd' := by
  have hb' : T = 0 ∨ (¬ stk (T - 1) = 21 ∧ ¬ (stk (T - 1) = 22 ∧ (21 : Int32) = 22)) := hb.imp id (fun h => ⟨h, fun h2 => absurd h2.2 (by decide)⟩)
  unfold fX12_joins
  by_cases e : pa = 1
  · subst e
    refine ⟨_, (joins_one rd (by omega) (by omega) (hs rfl) (Or.inl rfl)).trans (joins_none _ (by omega) hb'), CRs_emit hR (Or.inr (Or.inl ⟨hst rfl, rfl⟩))⟩
  · have e0 : pa = 0 := by omega
    subst e0
    exact ⟨rd, joins_none _ (by omega) hb', hR⟩
/-- 'joins' by 'or': what is pending -/
theorem joins_or {G : Nat} {st sg va stk : A1} {T c pa po : Nat} {rd : A1} (hpa : pa ≤ 1) (hpo : po ≤ 1) (hT : T + po + pa ≤ 44) (hc : c + pa + po ≤ 44) (hs : pa = 1 → stk (T + po) = 21) (hs2 : po = 1 → stk T = 22) (hst : pa = 1 → st c = 11) (hst2 : po = 1 → st (c + pa) = 10) (hb : T = 0 ∨ (¬ stk (T - 1) = 21 ∧ ¬ stk (T - 1) = 22)) (hR : CRs G c st sg va rd) : ∃ rd', fX12_joins stk (nI c) (nI (T + po + pa)) rd 22 = some (nI (c + pa + po), nI T, rd') ∧ CRs G (c + pa + po) st sg va rd' := by
  have hb' : T = 0 ∨ (¬ stk (T - 1) = 21 ∧ ¬ (stk (T - 1) = 22 ∧ (22 : Int32) = 22)) := hb.imp id (fun h => ⟨h.1, fun h2 => h.2 h2.1⟩)
  unfold fX12_joins
  have hor : ∀ (c : Nat) (rd : A1) (n : Nat), c + po ≤ 44 → (po = 1 → st c = 10) → CRs G c st sg va rd → ∃ rd', lX12_joins_0 stk (n + 1 + 1) (nI c) (nI (T + po)) rd 22 = some (nI (c + po), nI T, rd') ∧ CRs G (c + po) st sg va rd' := by
    intro c rd n hc hst2 hR
    by_cases e : po = 1
    · subst e
      exact ⟨_, (joins_one rd (by omega) (by omega) (hs2 rfl) (Or.inr ⟨rfl, rfl⟩)).trans (joins_none _ (by omega) hb'), CRs_emit hR (Or.inr (Or.inr (Or.inl ⟨hst2 rfl, rfl⟩)))⟩
    · have e0 : po = 0 := by omega
      subst e0
      exact ⟨rd, joins_none _ (by omega) hb', hR⟩
  by_cases e : pa = 1
  · subst e
    obtain ⟨rd', y1, y2⟩ := hor (c + 1) (upd (upd (upd rd (3 * c) 21) (3 * c + 1) 0) (3 * c + 2) 0) 4997 (by omega) hst2 (CRs_emit hR (Or.inr (Or.inl ⟨hst rfl, rfl⟩)))
    exact ⟨rd', (joins_one rd (by omega) (by omega) (hs rfl) (Or.inl rfl)).trans y1, y2⟩
  · have e0 : pa = 0 := by omega
    subst e0
    exact hor c rd 4998 (by omega) hst2 hR
