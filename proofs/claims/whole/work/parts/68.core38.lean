/-! ===== pure: a SENTENCE: class and reference, state against state ===== -/
abbrev OS : Type := Int32 × Int32 × Int32 × Int32 × Int32 × Int32 × Int32 × Int32 × Int32 × Int32 × Int32 × Int32 × Int64 × Int32 × Int32 × Int32 × Int32 × Int32 × Int32 × A1 × A1 × A1
abbrev KS : Type := Int32 → Int32 → Int32 → Int32 → Int32 → Int32 → Int32 → Int32 → Int32 → Int32 → Int32 → Int64 → Int32 → Int32 → Int32 → Int32 → Int32 → Int32 → A1 → A1 → A1 → Int32 → Option OS
abbrev OC : Type := Int32 × Int32 × Int32 × Int32 × Int32 × Int64 × Int32 × Int32 × Int32 × Int32 × Int32 × Int32 × A1 × A1 × A1
def SI0 (G L o t : Nat) (st sg va rd : A1) : Prop := (L ≤ 2 * o ∧ o ≤ 20 ∧ hg st L ≤ o ∧ t ≤ o + hg st L) ∧ WFs st L ∧ CRs G L st sg va rd
/-- behind a piece of a SENTENCE: what was told, what is pending -/
def POs (G L o t po pa k L' o' c' : Nat) (st sg va st' sg' va' rd' stk stk' : A1) : Prop :=
  (po ≤ 1 ∧ pa ≤ 1 ∧ c' + k + pa + po = L' ∧ L + 1 ≤ L') ∧ (L' + 1 + 2 * o ≤ L + 2 * o' ∧ o + 1 ≤ o' ∧ o' ≤ 20 ∧ t + k ≤ o' + hg st' L') ∧ (hg st' L' = hg st L + 1 ∧ WFs st' L') ∧ (∀ i, i < L → st' i = st i ∧ sg' i = sg i ∧ va' i = va i) ∧ CRs G c' st' sg' va' rd' ∧ ((∀ i, i < k → st' (c' + i) = 12) ∧ (pa = 1 → st' (c' + k) = 11) ∧ (po = 1 → st' (c' + k + pa) = 10)) ∧ ((po = 1 → stk' t = 22) ∧ (pa = 1 → stk' (t + po) = 21) ∧ ∀ i, i < k → stk' (t + po + pa + i) = 20) ∧ (∀ i, i < t → stk' i = stk i)
def Res (n lim G : Nat) (tp : A1) (nm res : Nat → Int64) (kk : KS) (th len fa fa2 : Int32) (s : A1) (L o t w : Nat) (st sg va stk : A1) (Q : Nat → Nat → Int32 → Prop) (rC : Option OC) (rM : Option OS) : Prop :=
  (∃ (n2' b' : Nat) (bh' at1' kd' nb' : Int32) (wd' : Int64) (ky' ta' : Int32) (p' tk' at2' sp' nb2' : Int32) (wd2' : Int64) (got' : Int32) (L' o' c' po pa k : Nat) (st' sg' va' rd' stk' : A1),
     rC = some (1, bh', at1', kd', nb', wd', ky', ta', 0, fa, nI L', nI o', st', sg', va') ∧
     rM = lX12_sentence_48 tp nm res kk n2' th len (nI n) p' (nI lim) tk' at2' sp' nb2' 0 fa2 wd2' got' (nI c') (nI o') (nI (t + po + pa + k)) (nI (w + k)) 1 s rd' stk' 1 ∧
     RTok n b' bh' at1' kd' nb' wd' ky' p' tk' at2' nb2' wd2' ∧ 1000 ≤ phi b' kd' + n2' ∧ Q po pa ky' ∧ POs G L o t po pa k L' o' c' st sg va st' sg' va' rd' stk stk') ∨
  (∃ (q f : Int32) (bh' at1' kd' nb' : Int32) (wd' : Int64) (ky' ta' L' o' : Int32) (st' sg' va' : A1) (p' tk' at2' sp' nb2' : Int32) (wd2' : Int64) (got' c' o2' t' dp' w' : Int32) (rd' stk' : A1), ¬ q = 0 ∧
     rC = some (0, bh', at1', kd', nb', wd', ky', ta', q, f, L', o', st', sg', va') ∧
     rM = some (-1 - f, th, len, nI n, p', nI lim, tk', at2', sp', nb2', q, f, wd2', got', c', o2', t', dp', w', s, rd', stk'))
def Q1 (po pa : Nat) (_ : Int32) : Prop := po = 0 ∧ pa = 0
def Q2 (po _ : Nat) (ky : Int32) : Prop := po = 0 ∧ ¬ ky = 11
def Q3 (_ _ : Nat) (ky : Int32) : Prop := ¬ ky = 11 ∧ ¬ ky = 10
def ONE (n lim : Nat) (B tp : A1) (keys res : Nat → Int64) (G : Nat) (gn nm : Nat → Int64) (kk : KS) (th len fa fa2 : Int32) (s : A1) (d w : Nat) : Prop := ∀ (n2 b L o t : Nat) (bh at1 kd nb : Int32) (wd : Int64) (ky ta p tk at2 sp nb2 : Int32) (wd2 : Int64) (got : Int32) (st sg va rd stk : A1), RTok n b bh at1 kd nb wd ky p tk at2 nb2 wd2 → 1000 ≤ phi b kd + n2 → SI0 G L o t st sg va rd →
  Res n lim G tp nm res kk th len fa fa2 s L o t w st sg va stk Q1 (fX8_readOne 940 (nI lim) (nI n) B keys (nI G) gn d bh at1 kd nb wd ky ta 0 fa (nI L) (nI o) st sg va (nI w)) (lX12_sentence_48 tp nm res kk n2 th len (nI n) p (nI lim) tk at2 sp nb2 0 fa2 wd2 got (nI L) (nI o) (nI t) (nI w) 0 s rd stk 1)
def ALL (n lim : Nat) (B tp : A1) (keys res : Nat → Int64) (G : Nat) (gn nm : Nat → Int64) (kk : KS) (th len fa fa2 : Int32) (s : A1) (d w : Nat) : Prop := ∀ (n2 b L o t : Nat) (bh at1 kd nb : Int32) (wd : Int64) (ky ta p tk at2 sp nb2 : Int32) (wd2 : Int64) (got : Int32) (st sg va rd stk : A1), RTok n b bh at1 kd nb wd ky p tk at2 nb2 wd2 → 1000 ≤ phi b kd + n2 → SI0 G L o t st sg va rd → (t = 0 ∨ stk (t - 1) = 22 ∨ stk (t - 1) = 23) →
  Res n lim G tp nm res kk th len fa fa2 s L o t w st sg va stk Q2 (fbX8_readAll 940 (nI lim) (nI n) B keys (nI G) gn (fX8_readOne 940 (nI lim) (nI n) B keys (nI G) gn d) bh at1 kd nb wd ky ta 0 fa (nI L) (nI o) st sg va (nI w)) (lX12_sentence_48 tp nm res kk n2 th len (nI n) p (nI lim) tk at2 sp nb2 0 fa2 wd2 got (nI L) (nI o) (nI t) (nI w) 0 s rd stk 1)
def CND (n lim : Nat) (B tp : A1) (keys res : Nat → Int64) (G : Nat) (gn nm : Nat → Int64) (kk : KS) (th len fa fa2 : Int32) (s : A1) (d w : Nat) : Prop := ∀ (n2 b L o t : Nat) (bh at1 kd nb : Int32) (wd : Int64) (ky ta p tk at2 sp nb2 : Int32) (wd2 : Int64) (got : Int32) (st sg va rd stk : A1), RTok n b bh at1 kd nb wd ky p tk at2 nb2 wd2 → 1000 ≤ phi b kd + n2 → SI0 G L o t st sg va rd → (t = 0 ∨ stk (t - 1) = 23) →
  Res n lim G tp nm res kk th len fa fa2 s L o t w st sg va stk Q3 (fbX8_readCond 940 (nI lim) (nI n) B keys (nI G) gn (fbX8_readAll 940 (nI lim) (nI n) B keys (nI G) gn (fX8_readOne 940 (nI lim) (nI n) B keys (nI G) gn d)) bh at1 kd nb wd ky ta 0 fa (nI L) (nI o) st sg va (nI w)) (lX12_sentence_48 tp nm res kk n2 th len (nI n) p (nI lim) tk at2 sp nb2 0 fa2 wd2 got (nI L) (nI o) (nI t) (nI w) 0 s rd stk 1)
theorem hg_upd {st : A1} {L : Nat} {x : Int32} : hg (upd st L x) L = hg st L := hg_congr (fun i hi => pk_un (by omega))
theorem WFs_add {st : A1} {L : Nat} {x : Int32} (h : WFs st L) (h1 : x = 12 → 1 ≤ hg st L) (h2 : (x = 11 ∨ x = 10) → 2 ≤ hg st L) : WFs (upd st L x) (L + 1) := by
  intro i hi
  by_cases e : i = L
  · subst e
    rw [pk_us, hg_upd]
    exact ⟨h1, h2⟩
  · have hc : ∀ j, j < L → upd st L x j = st j := fun j hj => pk_un (by omega)
    exact WFs_congr hc h i (by omega)
theorem leaf_PO {G L o t : Nat} {st sg va rd stk : A1} (hS : SI0 G L o t st sg va rd) (ho : o < 20) {j : Nat} (hj : j < 9) {y z x2 y2 z2 : Int32} (hC : CRel G (nI (13 + j)) y z x2 y2 z2) :
    POs G L o t 0 0 0 (L + 1) (o + 1) (L + 1) st sg va (upd st L (nI (13 + j))) (upd sg L y) (upd va L z) (upd (upd (upd rd (3 * L) x2) (3 * L + 1) y2) (3 * L + 2) z2) stk stk := by
  obtain ⟨⟨h1, h2, h3, h4⟩, hW, hR⟩ := hS
  have n12 : ¬ nI (13 + j) = 12 := fun e => absurd ((nI_eq (b := 12) (by omega) (by omega)).mp e) (by omega)
  have n11 : ¬ (nI (13 + j) = 11 ∨ nI (13 + j) = 10) := fun e => by
    rcases e with e | e
    · exact absurd ((nI_eq (b := 11) (by omega) (by omega)).mp e) (by omega)
    · exact absurd ((nI_eq (b := 10) (by omega) (by omega)).mp e) (by omega)
  have hh : hg (upd st L (nI (13 + j))) (L + 1) = hg st L + 1 := by
    rw [hg, pk_us, if_neg n12, if_neg n11, hg_upd]
  exact ⟨⟨by omega, by omega, rfl, by omega⟩, ⟨by omega, by omega, by omega, by omega⟩, ⟨hh, WFs_add hW (fun e => absurd e n12) (fun e => absurd e n11)⟩, fun i hi => ⟨pk_un (by omega), pk_un (by omega), pk_un (by omega)⟩, CRs_add hR hC, ⟨fun i hi => absurd hi (by omega), fun e => absurd e (by omega), fun e => absurd e (by omega)⟩, ⟨fun e => absurd e (by omega), fun e => absurd e (by omega), fun i hi => absurd hi (by omega)⟩, fun i hi => rfl⟩
theorem not_PO {G L o t k L' o' c' : Nat} {st sg va st' sg' va' rd' stk stk' : A1} (hP : POs G L (o + 1) (t + 1) 0 0 k L' o' c' st sg va st' sg' va' rd' (upd stk t 20) stk') (y z : Int32) :
    POs G L o t 0 0 (k + 1) (L' + 1) o' c' st sg va (upd st' L' 12) (upd sg' L' y) (upd va' L' z) rd' stk stk' := by
  obtain ⟨⟨-, -, hc, hLL⟩, ⟨h1, h2, h3, h4⟩, ⟨hh, hW⟩, hf, hR, ⟨p1, -, -⟩, ⟨-, -, q3⟩, hs⟩ := hP
  have hg2 : hg (upd st' L' 12) (L' + 1) = hg st L + 1 := by
    rw [hg, pk_us, if_pos rfl, hg_upd, hh]
  have hcL : c' ≤ L' := by omega
  refine ⟨⟨by omega, by omega, by omega, by omega⟩, ⟨by omega, by omega, by omega, by omega⟩, ⟨hg2, WFs_add hW (fun _ => by omega) (fun e => absurd e (by decide))⟩, fun i hi => ?_, CRs_cg hR (fun i hi => ⟨pk_un (by omega), pk_un (by omega), pk_un (by omega)⟩), ⟨fun i hi => ?_, fun e => absurd e (by omega), fun e => absurd e (by omega)⟩, ⟨fun e => absurd e (by omega), fun e => absurd e (by omega), fun i hi => ?_⟩, fun i hi => ?_⟩
  · rw [pk_un (by omega), pk_un (by omega), pk_un (by omega)]
    exact hf i hi
  · by_cases e : i = k
    · rw [e, show c' + k = L' by omega, pk_us]
    · rw [pk_un (by omega)]
      exact p1 i (by omega)
  · by_cases e : i = 0
    · rw [e, hs (t + 0 + 0 + 0) (by omega)]
      exact pk_us
    · have := q3 (i - 1) (by omega)
      rw [show t + 1 + 0 + 0 + (i - 1) = t + 0 + 0 + i by omega] at this
      exact this
  · rw [hs i (by omega), pk_un (by omega)]
