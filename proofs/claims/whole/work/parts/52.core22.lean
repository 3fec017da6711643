/-! ===== pure: what can be undone ===== -/
abbrev E9 : Type := Int32 × Int32 × Int32 × Int32 × Int32 × Int32 × Int32 × Int32 × Int32 × A1 × A1 × A1 × A1 × A1 × A1
/-- a feast as it can be: both are one, at most 400 rounds, a chair for each -/
def RFp (C G D : Nat) (sit tak ser hid rnd ovr hst pia : Int32) (coins chairOf tired hosted owed paid s : A1) : Prop :=
  (∃ ρ, ρ ≤ 400 ∧ rnd = nI ρ) ∧ G + pop hid ≤ C ∧ RF C G D sit tak ser hid rnd ovr hst pia coins chairOf tired hosted owed paid s
theorem RF_cs {C G D : Nat} {sit tak ser hid rnd ovr hst pia : Int32} {coins chairOf tired hosted owed paid s s' : A1} (hG : G ≤ 7) (hF : RF C G D sit tak ser hid rnd ovr hst pia coins chairOf tired hosted owed paid s) (h : ∀ i, 44 ≤ i → i < 92 → s' i = s i) : RF C G D sit tak ser hid rnd ovr hst pia coins chairOf tired hosted owed paid s' := by
  obtain ⟨⟨⟨e44, e45, e46, e47, e48, e63⟩, eg⟩, hS, hM⟩ := hF
  refine ⟨⟨⟨?_, ?_, ?_, ?_, ?_, ?_⟩, ?_⟩, hS, hM⟩
  · rw [h 44 (by omega) (by omega), e44]
  · rw [h 45 (by omega) (by omega), e45]
  · rw [h 46 (by omega) (by omega), e46]
  · rw [h 47 (by omega) (by omega), e47]
  · rw [h 48 (by omega) (by omega), e48]
  · rw [h 63 (by omega) (by omega), e63]
  · intro g hg
    obtain ⟨f1, f2, f3, f4, f5, f6⟩ := eg g hg
    refine ⟨?_, ?_, ?_, ?_, ?_, ?_⟩
    · rw [h (49 + g) (by omega) (by omega), f1]
    · rw [h (56 + g) (by omega) (by omega), f2]
    · rw [h (64 + g) (by omega) (by omega), f3]
    · rw [h (71 + g) (by omega) (by omega), f4]
    · rw [h (78 + g) (by omega) (by omega), f5]
    · rw [h (85 + g) (by omega) (by omega), f6]
def RFe (C G D : Nat) (e : E9) (s : A1) : Prop := RFp C G D e.1 e.2.1 e.2.2.1 e.2.2.2.1 e.2.2.2.2.1 e.2.2.2.2.2.1 e.2.2.2.2.2.2.1 e.2.2.2.2.2.2.2.1 e.2.2.2.2.2.2.2.2.2.1 e.2.2.2.2.2.2.2.2.2.2.1 e.2.2.2.2.2.2.2.2.2.2.2.1 e.2.2.2.2.2.2.2.2.2.2.2.2.1 e.2.2.2.2.2.2.2.2.2.2.2.2.2.1 e.2.2.2.2.2.2.2.2.2.2.2.2.2.2 s
theorem RFe_cs {C G D : Nat} {e : E9} {s s' : A1} (hG : G ≤ 7) (hF : RFe C G D e s) (h : ∀ i, 44 ≤ i → i < 92 → s' i = s i) : RFe C G D e s' := ⟨hF.1, hF.2.1, RF_cs hG hF.2.2 h⟩
/-- the acts that can be undone: the class's ring, the reference's rows -/
def RA (C G D : Nat) (kept last um : Int32) (ah : Nat → E9) (un : A1) : Prop :=
  ∃ k l, k ≤ 8 ∧ l < 8 ∧ kept = nI k ∧ um = nI k ∧ last = nI l ∧ ∀ j, j < k → RFe C G D (ah ((l + 8 - j) % 8)) (fun i => un (48 * (k - 1 - j) + (i - 44)))
def cpyE (sit tak ser hid rnd ovr hst pia : Int32) (coins chairOf tired hosted owed paid : A1) (e : E9) : E9 :=
  (sit, tak, ser, hid, rnd, ovr, hst, pia, e.2.2.2.2.2.2.2.2.1, va_cpy coins e.2.2.2.2.2.2.2.2.2.1 0 0 7, va_cpy chairOf e.2.2.2.2.2.2.2.2.2.2.1 0 0 7, va_cpy tired e.2.2.2.2.2.2.2.2.2.2.2.1 0 0 7, va_cpy hosted e.2.2.2.2.2.2.2.2.2.2.2.2.1 0 0 7, va_cpy owed e.2.2.2.2.2.2.2.2.2.2.2.2.2.1 0 0 7, va_cpy paid e.2.2.2.2.2.2.2.2.2.2.2.2.2.2 0 0 7)
theorem RFe_cpy {C G D : Nat} {sit tak ser hid rnd ovr hst pia : Int32} {coins chairOf tired hosted owed paid s : A1} (hG : G ≤ 7) (e : E9) (h : RFp C G D sit tak ser hid rnd ovr hst pia coins chairOf tired hosted owed paid s) : RFe C G D (cpyE sit tak ser hid rnd ovr hst pia coins chairOf tired hosted owed paid e) s := ⟨h.1, h.2.1, RF_copy hG h.2.2⟩
theorem keepC (sit tak ser hid rnd ovr hst pia : Int32) (coins chairOf tired hosted owed paid : A1) (kept : Int32) (ah : Nat → E9) {l : Nat} (hl : l < 8) :
    fX0_keep sit tak ser hid rnd ovr hst pia coins chairOf tired hosted owed paid kept (nI l) ah = some (if kept + 1 < 8 then kept + 1 else 8, nI ((l + 1) % 8), updE ah ((l + 1) % 8) (cpyE sit tak ser hid rnd ovr hst pia coins chairOf tired hosted owed paid (ah ((l + 1) % 8)))) := by
  have h : l = 0 ∨ l = 1 ∨ l = 2 ∨ l = 3 ∨ l = 4 ∨ l = 5 ∨ l = 6 ∨ l = 7 := by omega
  unfold fX0_keep
  rw [nmv_eq]
  rcases h with rfl | rfl | rfl | rfl | rfl | rfl | rfl | rfl
  · rw [if_neg (by decide), if_pos (by decide)]; rfl
  · rw [if_neg (by decide), if_neg (by decide), if_pos (by decide)]; rfl
  · rw [if_neg (by decide), if_neg (by decide), if_neg (by decide), if_pos (by decide)]; rfl
  · rw [if_neg (by decide), if_neg (by decide), if_neg (by decide), if_neg (by decide), if_pos (by decide)]; rfl
  · rw [if_neg (by decide), if_neg (by decide), if_neg (by decide), if_neg (by decide), if_neg (by decide), if_pos (by decide)]; rfl
  · rw [if_neg (by decide), if_neg (by decide), if_neg (by decide), if_neg (by decide), if_neg (by decide), if_neg (by decide), if_pos (by decide)]; rfl
  · rw [if_neg (by decide), if_neg (by decide), if_neg (by decide), if_neg (by decide), if_neg (by decide), if_neg (by decide), if_neg (by decide), if_pos (by decide)]; rfl
  · rw [if_pos (by decide)]; rfl
theorem keep47 {s : A1} {k : Nat} (hk : k < 8) : ∀ (m j n : Nat), j + m = 48 → m < n → ∀ un : A1, ∃ un', lX12_keep_47 s n (nI k) un (nI j) = some (nI (k + 1), un') ∧ (∀ i, j ≤ i → i < 48 → un' (48 * k + i) = s (44 + i)) ∧ ∀ i, (i < 48 * k + j ∨ 48 * k + 48 ≤ i) → un' i = un i := by
  intro m
  induction m with
  | zero =>
    intro j n hj hn un
    obtain ⟨n, rfl⟩ := sn hn
    have e : j = 48 := by omega
    subst e
    refine ⟨un, ?_, fun i h1 h2 => absurd h1 (by omega), fun _ _ => rfl⟩
    rw [lX12_keep_47, if_pos (by decide), nI_1]
  | succ m ih =>
    intro j n hj hn un
    obtain ⟨n, rfl⟩ := sn hn
    obtain ⟨un', h1, h2, h3⟩ := ih (j + 1) n (by omega) (by omega) (upd un (48 * k + j) (s (44 + j)))
    have h48 : ¬ (48 : Int32) ≤ nI j := nI_ge (b := 48) (by omega) (by omega)
    have e48 : (48 : Int32) * nI k = nI (48 * k) := pk_mul 48 k
    refine ⟨un', ?_, ?_, ?_⟩
    · rw [lX12_keep_47, if_neg h48, c44, gI_oka (by omega) (by omega), ixa (by omega), nmv_eq, e48, gI_oka (by omega) (by omega), ixa (by omega), nmv_eq, nI_1]
      exact h1
    · intro i hi1 hi2
      by_cases e : i = j
      · subst e
        rw [h3 _ (by omega), pk_us]
      · exact h2 i (by omega) hi2
    · intro i hi
      rw [h3 i (by omega), pk_un (by omega)]
theorem keep11 {s : A1} (kk : Int32 → A1 → Int32 → Option (Int32 × A1)) (um : Int32) : ∀ (m j n : Nat), j + m = 336 → m < n → ∀ un : A1, ∃ un', lX12_keep_11 s kk n um un (nI j) = kk 7 un' 0 ∧ (∀ i, j ≤ i → i < 336 → un' i = un (i + 48)) ∧ ∀ i, i < j → un' i = un i := by
  intro m
  induction m with
  | zero =>
    intro j n hj hn un
    obtain ⟨n, rfl⟩ := sn hn
    have e : j = 336 := by omega
    subst e
    refine ⟨un, ?_, fun i h1 h2 => absurd h1 (by omega), fun _ _ => rfl⟩
    rw [lX12_keep_11, if_pos (by decide)]
  | succ m ih =>
    intro j n hj hn un
    obtain ⟨n, rfl⟩ := sn hn
    obtain ⟨un', h1, h2, h3⟩ := ih (j + 1) n (by omega) (by omega) (upd un j (un (j + 48)))
    have h48 : ¬ (336 : Int32) ≤ nI j := nI_ge (b := 336) (by omega) (by omega)
    refine ⟨un', ?_, ?_, ?_⟩
    · rw [lX12_keep_11, if_neg h48, show (48 : Int32) = nI 48 from rfl, gI_oka (by omega) (by omega), ixa (by omega), nmv_eq, gI_ok (by omega) (by omega), nmv_eq, ix0 (by omega), nI_1]
      exact h1
    · intro i hi1 hi2
      by_cases e : i = j
      · subst e
        rw [h3 _ (by omega), pk_us]
      · rw [h2 i (by omega) hi2, pk_un (by omega)]
    · intro i hi
      rw [h3 i (by omega), pk_un (by omega)]
theorem updE_s {α : Type} {f : Nat → α} {k : Nat} {x : α} : updE f k x k = x := if_pos rfl
theorem updE_n {α : Type} {f : Nat → α} {k j : Nat} {x : α} (h : j ≠ k) : updE f k x j = f j := if_neg h
/-- an act is kept, both -/
theorem sim_keep {C G D : Nat} {sit tak ser hid rnd ovr hst pia : Int32} {coins chairOf tired hosted owed paid s : A1} (hG : G ≤ 7) (hF : RFp C G D sit tak ser hid rnd ovr hst pia coins chairOf tired hosted owed paid s) {kept last um : Int32} {ah : Nat → E9} {un : A1} (hA : RA C G D kept last um ah un) :
    ∃ (kept' last' um' : Int32) (ah' : Nat → E9) (un' : A1), fX0_keep sit tak ser hid rnd ovr hst pia coins chairOf tired hosted owed paid kept last ah = some (kept', last', ah') ∧ fX12_keep s um un = some (um', un') ∧ RA C G D kept' last' um' ah' un' := by
  obtain ⟨k, l, hk, hl, rfl, rfl, rfl, hr⟩ := hA
  have hC := keepC sit tak ser hid rnd ovr hst pia coins chairOf tired hosted owed paid (nI k) ah hl
  have newest : ∀ (q : Nat) (un' : A1), (∀ i, i < 48 → un' (48 * q + i) = s (44 + i)) → RFe C G D (cpyE sit tak ser hid rnd ovr hst pia coins chairOf tired hosted owed paid (ah ((l + 1) % 8))) (fun i => un' (48 * q + (i - 44))) := fun q un' h =>
    RFe_cs hG (RFe_cpy hG _ hF) (fun i h1 h2 => by rw [h (i - 44) (by omega), show 44 + (i - 44) = i by omega])
  by_cases h8 : k = 8
  · subst h8
    obtain ⟨un1, z1, z2, -⟩ := keep11 (s := s) (lX12_keep_47 s 5000) (nI 8) 336 0 5000 (by omega) (by omega) un
    obtain ⟨un2, y1, y2, y3⟩ := keep47 (s := s) (k := 7) (by omega) 48 0 5000 (by omega) (by omega) un1
    rw [show nI 0 = 0 from rfl] at z1 y1
    rw [if_neg (show ¬ nI 8 + 1 < 8 by decide)] at hC
    refine ⟨_, _, _, _, _, hC, by unfold fX12_keep; rw [if_pos (show nI 8 = 8 from rfl), z1]; exact y1, 8, (l + 1) % 8, by omega, by omega, rfl, rfl, rfl, ?_⟩
    intro j hj
    by_cases h0 : j = 0
    · subst h0
      rw [show ((l + 1) % 8 + 8 - 0) % 8 = (l + 1) % 8 by omega, updE_s]
      exact newest 7 un2 (fun i hi => y2 i (by omega) hi)
    · rw [show ((l + 1) % 8 + 8 - j) % 8 = (l + 8 - (j - 1)) % 8 by omega, updE_n (by omega)]
      refine RFe_cs hG (hr (j - 1) (by omega)) (fun i h1 h2 => ?_)
      rw [y3 _ (by omega), z2 _ (by omega) (by omega)]
      exact congrArg un (by omega)
  · obtain ⟨un2, y1, y2, y3⟩ := keep47 (s := s) (k := k) (by omega) 48 0 5000 (by omega) (by omega) un
    rw [show nI 0 = 0 from rfl] at y1
    have e : (if nI k + 1 < 8 then nI k + 1 else 8) = nI (k + 1) := by
      rw [nI_1]
      by_cases h : k + 1 < 8
      · rw [if_pos (show nI (k + 1) < 8 from nI_lt (b := 8) h (by omega))]
      · have e : k = 7 := by omega
        subst e
        rfl
    rw [e] at hC
    refine ⟨_, _, _, _, _, hC, by unfold fX12_keep; rw [if_neg (show ¬ nI k = 8 from fun e => h8 ((nI_eq (b := 8) (by omega) (by omega)).mp e))]; exact y1, k + 1, (l + 1) % 8, by omega, by omega, rfl, rfl, rfl, ?_⟩
    intro j hj
    by_cases h0 : j = 0
    · subst h0
      rw [show ((l + 1) % 8 + 8 - 0) % 8 = (l + 1) % 8 by omega, updE_s]
      exact newest k un2 (fun i hi => y2 i (by omega) hi)
    · rw [show ((l + 1) % 8 + 8 - j) % 8 = (l + 8 - (j - 1)) % 8 by omega, updE_n (by omega)]
      refine RFe_cs hG (hr (j - 1) (by omega)) (fun i h1 h2 => ?_)
      rw [y3 _ (by omega)]
      exact congrArg un (by omega)
theorem undo26 {un : A1} {k : Nat} (hk : k < 8) (th : Int32) : ∀ (m j n : Nat), j + m = 48 → m < n → ∀ s : A1, ∃ s', lX12_undo_26 un n th (nI k) s (nI j) = some (nI k, th, nI k, s') ∧ (∀ i, j ≤ i → i < 48 → s' (44 + i) = un (48 * k + i)) ∧ ∀ i, (i < 44 + j ∨ 92 ≤ i) → s' i = s i := by
  intro m
  induction m with
  | zero =>
    intro j n hj hn s
    obtain ⟨n, rfl⟩ := sn hn
    have e : j = 48 := by omega
    subst e
    refine ⟨s, ?_, fun i h1 h2 => absurd h1 (by omega), fun _ _ => rfl⟩
    rw [lX12_undo_26, if_pos (by decide)]
  | succ m ih =>
    intro j n hj hn s
    obtain ⟨n, rfl⟩ := sn hn
    obtain ⟨s', h1, h2, h3⟩ := ih (j + 1) n (by omega) (by omega) (upd s (44 + j) (un (48 * k + j)))
    have h48 : ¬ (48 : Int32) ≤ nI j := nI_ge (b := 48) (by omega) (by omega)
    have e48 : (48 : Int32) * nI k = nI (48 * k) := pk_mul 48 k
    refine ⟨s', ?_, ?_, ?_⟩
    · rw [lX12_undo_26, if_neg h48, e48, gI_oka (by omega) (by omega), ixa (by omega), nmv_eq, c44, gI_oka (by omega) (by omega), ixa (by omega), nmv_eq, nI_1]
      exact h1
    · intro i hi1 hi2
      by_cases e : i = j
      · subst e
        rw [h3 _ (by omega), pk_us]
      · exact h2 i (by omega) hi2
    · intro i hi
      rw [h3 i (by omega), pk_un (by omega)]
theorem backC (sit tak ser hid rnd ovr hst pia : Int32) (coins chairOf tired hosted owed paid : A1) {k : Nat} (hk : 1 ≤ k) (hk8 : k ≤ 8) (ah : Nat → E9) {l : Nat} (hl : l < 8) :
    fX0_takeBack ah (nI k) (nI l) sit tak ser hid rnd ovr hst pia coins chairOf tired hosted owed paid = some (nI (k - 1), nI (k - 1), nI ((l + 7) % 8), (ah l).1, (ah l).2.1, (ah l).2.2.1, (ah l).2.2.2.1, (ah l).2.2.2.2.1, (ah l).2.2.2.2.2.1, (ah l).2.2.2.2.2.2.1, (ah l).2.2.2.2.2.2.2.1, va_cpy (ah l).2.2.2.2.2.2.2.2.2.1 coins 0 0 7, va_cpy (ah l).2.2.2.2.2.2.2.2.2.2.1 chairOf 0 0 7, va_cpy (ah l).2.2.2.2.2.2.2.2.2.2.2.1 tired 0 0 7, va_cpy (ah l).2.2.2.2.2.2.2.2.2.2.2.2.1 hosted 0 0 7, va_cpy (ah l).2.2.2.2.2.2.2.2.2.2.2.2.2.1 owed 0 0 7, va_cpy (ah l).2.2.2.2.2.2.2.2.2.2.2.2.2.2 paid 0 0 7) := by
  have h : l = 0 ∨ l = 1 ∨ l = 2 ∨ l = 3 ∨ l = 4 ∨ l = 5 ∨ l = 6 ∨ l = 7 := by omega
  have e : nI k - 1 = nI (k - 1) := pk_sub (b := 1) (by omega)
  unfold fX0_takeBack
  rw [if_pos (show (1 : Int32) ≤ nI k from nI_le (a := 1) hk (by omega)), e]
  rcases h with rfl | rfl | rfl | rfl | rfl | rfl | rfl | rfl
  · rw [if_pos (by decide)]; rfl
  · rw [if_neg (by decide), if_pos (by decide)]; rfl
  · rw [if_neg (by decide), if_neg (by decide), if_pos (by decide)]; rfl
  · rw [if_neg (by decide), if_neg (by decide), if_neg (by decide), if_pos (by decide)]; rfl
  · rw [if_neg (by decide), if_neg (by decide), if_neg (by decide), if_neg (by decide), if_pos (by decide)]; rfl
  · rw [if_neg (by decide), if_neg (by decide), if_neg (by decide), if_neg (by decide), if_neg (by decide), if_pos (by decide)]; rfl
  · rw [if_neg (by decide), if_neg (by decide), if_neg (by decide), if_neg (by decide), if_neg (by decide), if_neg (by decide), if_pos (by decide)]; rfl
  · rw [if_neg (by decide), if_neg (by decide), if_neg (by decide), if_neg (by decide), if_neg (by decide), if_neg (by decide), if_neg (by decide), if_pos (by decide)]; rfl
/-- promise 15: undo -/
theorem T_undo {C G D : Nat} {sit tak ser hid rnd ovr hst pia : Int32} {coins chairOf tired hosted owed paid s : A1} (hG : G ≤ 7) (hF : RFp C G D sit tak ser hid rnd ovr hst pia coins chairOf tired hosted owed paid s) {kept last um : Int32} {ah : Nat → E9} {un : A1} (hA : RA C G D kept last um ah un) (th : Int32) :
    ∃ (r : Int32) (t1' t2' t3' t4' t5' t6' t7' t8' : Int32) (u1' u2' u3' u4' u5' u6' : A1) (kept' last' um' : Int32) (s' : A1), fX11_undo ah sit tak ser hid rnd ovr hst pia coins chairOf tired hosted owed paid kept last = some (r, t1', t2', t3', t4', t5', t6', t7', t8', u1', u2', u3', u4', u5', u6', kept', last') ∧ fX12_undo un th um s = some (r, 0, um', s') ∧ RFp C G D t1' t2' t3' t4' t5' t6' t7' t8' u1' u2' u3' u4' u5' u6' s' ∧ RA C G D kept' last' um' ah un ∧ ∀ i, (i < 44 ∨ 92 ≤ i) → s' i = s i := by
  obtain ⟨k, l, hk, hl, rfl, rfl, rfl, hr⟩ := id hA
  by_cases h0 : k = 0
  · subst h0
    refine ⟨-1, sit, tak, ser, hid, rnd, ovr, hst, pia, coins, chairOf, tired, hosted, owed, paid, _, _, _, s, ?_, ?_, hF, hA, fun _ _ => rfl⟩
    · unfold fX11_undo fX0_takeBack
      rw [if_neg (by decide), bind_eq]
    · unfold fX12_undo
      rw [if_pos (by rfl)]
  · obtain ⟨s', y1, y2, y3⟩ := undo26 (un := un) (k := k - 1) (by omega) 0 48 0 5000 (by omega) (by omega) s
    rw [show nI 0 = 0 from rfl] at y1
    have e : nI k - 1 = nI (k - 1) := pk_sub (b := 1) (by omega)
    have hE := hr 0 (by omega)
    rw [show (l + 8 - 0) % 8 = l by omega] at hE
    refine ⟨nI (k - 1), (ah l).1, (ah l).2.1, (ah l).2.2.1, (ah l).2.2.2.1, (ah l).2.2.2.2.1, (ah l).2.2.2.2.2.1, (ah l).2.2.2.2.2.2.1, (ah l).2.2.2.2.2.2.2.1, va_cpy (ah l).2.2.2.2.2.2.2.2.2.1 coins 0 0 7, va_cpy (ah l).2.2.2.2.2.2.2.2.2.2.1 chairOf 0 0 7, va_cpy (ah l).2.2.2.2.2.2.2.2.2.2.2.1 tired 0 0 7, va_cpy (ah l).2.2.2.2.2.2.2.2.2.2.2.2.1 hosted 0 0 7, va_cpy (ah l).2.2.2.2.2.2.2.2.2.2.2.2.2.1 owed 0 0 7, va_cpy (ah l).2.2.2.2.2.2.2.2.2.2.2.2.2.2 paid 0 0 7, nI (k - 1), nI ((l + 7) % 8), nI (k - 1), s', ?_, ?_, ⟨hE.1, hE.2.1, RF_copy hG (RF_cs hG hE.2.2 (fun i h1 h2 => ?_))⟩, ⟨k - 1, (l + 7) % 8, by omega, by omega, rfl, rfl, rfl, fun j hj => ?_⟩, fun i hi => y3 i (by omega)⟩
    · unfold fX11_undo
      rw [backC sit tak ser hid rnd ovr hst pia coins chairOf tired hosted owed paid (by omega) hk ah hl, bind_eq]
    · unfold fX12_undo
      rw [if_neg (nI_ne0 (by omega) (by omega)), e]
      exact y1
    · have := y2 (i - 44) (by omega) (by omega)
      rw [show 44 + (i - 44) = i by omega] at this
      rw [this]
      exact congrArg un (by omega)
    · have hE := hr (j + 1) (by omega)
      rw [show ((l + 7) % 8 + 8 - j) % 8 = (l + 8 - (j + 1)) % 8 by omega, show k - 1 - 1 - j = k - 1 - (j + 1) by omega]
      exact hE
