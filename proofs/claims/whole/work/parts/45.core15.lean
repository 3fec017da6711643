/-! ===== pure: the best of sets; trick ===== -/
/-- the set with fewest, of like ones the least -/
def BestP (Q : Nat → Prop) (w : Nat → Nat) (N : Nat) (ob : Option Nat) : Prop := match ob with
  | none => ∀ S, S < N → ¬ Q S
  | some B => B < N ∧ Q B ∧ ∀ S, S < N → Q S → w B < w S ∨ (w B = w S ∧ B ≤ S)
theorem BestP.uniq {Q : Nat → Prop} {w : Nat → Nat} {N : Nat} {a b : Option Nat} (h1 : BestP Q w N a) (h2 : BestP Q w N b) : a = b := by
  cases a with
  | none =>
    cases b with
    | none => rfl
    | some B => exact absurd h2.2.1 (h1 B h2.1)
  | some A =>
    cases b with
    | none => exact absurd h1.2.1 (h2 A h1.1)
    | some B =>
      have x := h1.2.2 B h2.1 h2.2.1
      have y := h2.2.2 A h1.1 h1.2.1
      exact congrArg some (by omega)
def encB (ob : Option Nat) : Int32 := match ob with
  | none => -1
  | some B => nI B
theorem two_pow_all : ∀ C, C ≤ 9 → (1 : Int32) <<< (nI C &&& 31) = nI (2 ^ C) ∧ 2 ^ C ≤ 512 := by decide +kernel
theorem popS {S C : Nat} (hC : C ≤ 9) (hS : S < 2 ^ C) : pop (nI S) = fa_cnt S.testBit C := by
  unfold pop
  rw [cnt_cut (c := C) (by omega) (fun i h1 h2 => sm_nI hS i h1 (by omega))]
  exact fa_cnt_cong (fun k hk => bt_nI (by omega))
theorem low_all {S C : Nat} (hS : S < 2 ^ C) : low S C = nI S := by
  unfold low
  rw [Nat.mod_eq_of_lt hS]
theorem and_0 {S C : Nat} (hC : C ≤ 9) (hS : S < 2 ^ C) {x : Int32} : nI S &&& x = 0 ↔ ∀ i, i < C → S.testBit i = true → bt x i = false := by
  constructor
  · intro h i hi hb
    have h2 := congrArg (fun y => bt y i) h
    rw [b_and, b_0, bt_nI (by omega), hb] at h2
    simpa using h2
  · intro h
    apply b_ext
    intro i hi
    rw [b_and, b_0]
    rcases Nat.lt_or_ge i C with h1 | h1
    · rw [bt_nI hi]
      cases hb : S.testBit i
      · rfl
      · rw [h i h1 hb]
        rfl
    · rw [sm_nI hS i h1 hi]
      rfl
/-- the host with other CHAIRS hidden, by the reference -/
def hostS (s : A1) (hid : Int32) (S : Nat) : Int32 := match fX12_hostNext 0 (upd s 47 (hid ||| nI S)) with
  | some (h, _, _) => h
  | none => 0
def okH (C G : Nat) (tak hid : Int32) (S : Nat) : Prop := (∀ i, i < C → S.testBit i = true → bt hid i = false ∧ bt tak i = false) ∧ G + pop hid + fa_cnt S.testBit C ≤ C
theorem hostS_eq {C G D : Nat} {pride speed payer cost s : A1} (hH : RH C G D pride speed payer cost s) {sit tak ser hid ovr hst pia : Int32} {ρ : Nat} (hρ : ρ ≤ 400) {coins chairOf tired hosted owed paid : A1} (hF : RF C G D sit tak ser hid (nI ρ) ovr hst pia coins chairOf tired hosted owed paid s) {S : Nat} (hS : S < 2 ^ C) (t1 t2 t3 t4 t5 t6 t7 t8 : Int32) (u1 u2 u3 u4 u5 u6 : A1) (hi : Int32) : ∃ (b1 b2 b3 b4 b5 b6 b7 : Int32) (b8 b9 b10 b11 b12 b13 : A1) (hi' : Int32) (s' : A1),
    fX9_hostOfTrial (nI C) (nI G) (nI D) pride speed payer cost (hid ||| nI S) sit tak ser (nI ρ) ovr hst pia (va_cpy coins u1 0 0 7) (va_cpy chairOf u2 0 0 7) (va_cpy tired u3 0 0 7) (va_cpy hosted u4 0 0 7) (va_cpy owed u5 0 0 7) (va_cpy paid u6 0 0 7) = some (hostS s hid S, b1, b2, b3, b4, b5, b6, b7, b8, b9, b10, b11, b12, b13) ∧
    fX12_hostNext hi (upd s 47 (hid ||| nI S)) = some (hostS s hid S, hi', s') ∧ (∀ i, (i < 44 ∨ 92 ≤ i) → s' i = s i) ∧ (hostS s hid S = -1 ∨ ∃ w, w < G ∧ hostS s hid S = nI w ∧ bt sit w = false) := by
  have hG := hH.1
  have hs4 := hF.2.1.2.2.2.1
  have hF2 := RF_hid (by omega) (RF_copy (o1 := u1) (o2 := u2) (o3 := u3) (o4 := u4) (o5 := u5) (o6 := u6) (show G ≤ 7 by omega) hF) (sm_or hs4 (sm_nI hS))
  have hH2 : RH C G D pride speed payer cost (upd s 47 (hid ||| nI S)) := hH.congr (fun i hi => pk_un (by omega))
  obtain ⟨h, b1, b2, b3, b4, b5, b6, b7, b8, b9, b10, b11, b12, b13, hi', s2, z1, z2, z3, z4⟩ := sim_hostNext hH2 (by omega) hF2 hi
  have e : hostS s hid S = h := by
    have e0 : fX12_hostNext 0 (upd s 47 (hid ||| nI S)) = some (h, hi', s2) := z2
    unfold hostS
    rw [e0]
  rw [e]
  refine ⟨b1, b2, b3, b4, b5, b6, b7, b8, b9, b10, b11, b12, b13, hi', s2, z1, z2, fun i hi => by rw [z3 i hi, pk_un (by omega)], ?_⟩
  rcases z4 with z4 | ⟨w, k', y1, y2, y3, -⟩
  · exact Or.inl z4
  · exact Or.inr ⟨w, y1, y2, y3⟩
theorem isTrick_eq {C G D : Nat} {pride speed payer cost s : A1} (hH : RH C G D pride speed payer cost s) {sit tak ser hid ovr hst pia : Int32} {ρ : Nat} (hρ : ρ ≤ 400) {coins chairOf tired hosted owed paid : A1} (hF : RF C G D sit tak ser hid (nI ρ) ovr hst pia coins chairOf tired hosted owed paid s) (hP : G + pop hid ≤ C) {bf : A1} (hbf : ∀ i, i < 48 → bf i = s (44 + i)) {S : Nat} (hS : S < 2 ^ C) (x hi : Int32) :
    ∃ hi', ((okH C G tak hid S ∧ hostS s hid S = x) → fX12_isTrick bf hi s x (nI S) = some (1, hi', s)) ∧ (¬ (okH C G tak hid S ∧ hostS s hid S = x) → fX12_isTrick bf hi s x (nI S) = some (0, hi', s)) := by
  have e47 : s 47 = hid := hF.1.1.2.2.2.1
  have hC := hH.1
  have e : upd s 47 (hid ||| low S 0) = s := fa_upd_same (by
    rw [e47]
    apply b_ext
    intro i hi
    rw [b_or, bt_low hi]
    simp)
  have h := trickM_loop (bf := bf) (S := S) (x := x) (hi := hi) hH hρ hF (bX12_isTrick_67 bf) C 0 5000 (by omega) (by omega) (fun i h => absurd h (by omega)) (Or.inl rfl)
  rw [e, low_all hS] at h
  have hdef : fX12_isTrick bf hi s x (nI S) = lX12_isTrick_5 bf (bX12_isTrick_67 bf) 5000 hi s x (nI S) 1 (nI 0) := rfl
  rw [hdef]
  rcases h with ⟨h1, h2, h3⟩ | ⟨y, h1, h2⟩
  · obtain ⟨b1, b2, b3, b4, b5, b6, b7, b8, b9, b10, b11, b12, b13, hi', s', z1, z2, z3, z4⟩ := hostS_eq hH hρ hF hS 0 0 0 0 0 0 0 0 (fun _ => 0) (fun _ => 0) (fun _ => 0) (fun _ => 0) (fun _ => 0) (fun _ => 0) hi
    have hok : okH C G tak hid S := ⟨h2, by omega⟩
    refine ⟨hi', fun hq => ?_, fun hq => ?_⟩
    · rw [h1]
      unfold bX12_isTrick_67
      rw [if_neg (by decide), z2, bind_eq]
      dsimp only
      rw [if_pos hq.2, back_eq hbf z3, bind_eq]
    · have hx : ¬ hostS s hid S = x := fun e => hq ⟨hok, e⟩
      rw [h1]
      unfold bX12_isTrick_67
      rw [if_neg (by decide), z2, bind_eq]
      dsimp only
      rw [if_neg hx, back_eq hbf z3, bind_eq]
  · refine ⟨hi, fun hq => absurd ⟨hq.1.1, Or.inr hq.1.2⟩ h2, fun _ => ?_⟩
    rw [h1]
    unfold bX12_isTrick_67
    rw [if_pos rfl, back_eq hbf (fun i hi => pk_un (by omega)), bind_eq]
theorem best_step {Q : Nat → Prop} {w : Nat → Nat} {j : Nat} {ob : Option Nat} (h : BestP Q w j ob) : ((Q j ∧ (ob = none ∨ ∃ B, ob = some B ∧ w j < w B)) → BestP Q w (j + 1) (some j)) ∧ (¬ (Q j ∧ (ob = none ∨ ∃ B, ob = some B ∧ w j < w B)) → BestP Q w (j + 1) ob) := by
  constructor
  · intro ⟨hq, h2⟩
    refine ⟨by omega, hq, fun S hS hQ => ?_⟩
    by_cases e : S = j
    · subst e
      exact Or.inr ⟨rfl, Nat.le_refl _⟩
    · rcases h2 with rfl | ⟨B, rfl, hB⟩
      · exact absurd hQ (h S (by omega))
      · have := h.2.2 S (by omega) hQ
        omega
  · intro hn
    cases ob with
    | none =>
      intro S hS hQ
      by_cases e : S = j
      · subst e
        exact hn ⟨hQ, Or.inl rfl⟩
      · exact h S (by omega) hQ
    | some B =>
      refine ⟨by have := h.1; omega, h.2.1, fun S hS hQ => ?_⟩
      by_cases e : S = j
      · subst e
        have h1 : ¬ w S < w B := fun h3 => hn ⟨hQ, Or.inr ⟨B, rfl, h3⟩⟩
        have := h.1
        omega
      · exact h.2.2 S (by omega) hQ
theorem trickM {C G D : Nat} {pride speed payer cost s : A1} (hH : RH C G D pride speed payer cost s) {sit tak ser hid ovr hst pia : Int32} {ρ : Nat} (hρ : ρ ≤ 400) {coins chairOf tired hosted owed paid : A1} (hF : RF C G D sit tak ser hid (nI ρ) ovr hst pia coins chairOf tired hosted owed paid s) (hP : G + pop hid ≤ C) {bf : A1} (hbf : ∀ i, i < 48 → bf i = s (44 + i)) (x ts ht : Int32) : ∀ (m j n : Nat), j + m = 2 ^ C → m < n → ∀ (hi : Int32) (ob : Option Nat), BestP (fun S => okH C G tak hid S ∧ hostS s hid S = x) (fun S => pop (nI S)) j ob →
    ∃ (ob' : Option Nat) (hi' : Int32), BestP (fun S => okH C G tak hid S ∧ hostS s hid S = x) (fun S => pop (nI S)) (2 ^ C) ob' ∧ lX12_trick_23 n 0 hi ts ht s bf x (encB ob) (nI j) = match ob' with
      | none => some (-1, 0, hi', ts, ht, s, bf)
      | some B => some (nI (pop (nI B)), 0, hi', nI B, 1, s, bf) := by
  obtain ⟨⟨hC2, hC9, hG, hGC, hD⟩, ⟨e0, e1, e2⟩, -, -⟩ := id hH
  obtain ⟨ep, hpw⟩ := two_pow_all C hC9
  intro m
  induction m with
  | zero =>
    intro j n hj hn hi ob hb
    obtain ⟨n, rfl⟩ : ∃ k, n = k + 1 := ⟨n - 1, by omega⟩
    have e : j = 2 ^ C := by omega
    subst e
    refine ⟨ob, hi, hb, ?_⟩
    rw [lX12_trick_23, e0, ep, if_pos (nI_le (Nat.le_refl _) (by omega))]
    cases ob with
    | none =>
      show (if (0 : Int32) ≤ -1 then _ else _) = _
      rw [if_neg (by decide)]
    | some B =>
      have hB := hb.1
      show (if (0 : Int32) ≤ nI B then _ else _) = _
      rw [if_pos (nI_pos' (by omega))]
      show (fX12_bits (nI B)).bind _ = _
      rw [bits_eq (sm_nI (n := 10) (by omega)), bind_eq]
      rfl
  | succ m ih =>
    intro j n hj hn hi ob hb
    obtain ⟨n, rfl⟩ : ∃ k, n = k + 1 := ⟨n - 1, by omega⟩
    have hjs : j < 2 ^ C := by omega
    obtain ⟨st1, st2⟩ := best_step hb
    obtain ⟨hi', t1, t2⟩ := isTrick_eq hH hρ hF hP hbf hjs x hi
    rw [lX12_trick_23, e0, ep, if_neg (nI_ge (by omega) (by omega))]
    have tryit : (∀ B, ob = some B → pop (nI j) < pop (nI B)) → ∃ (ob' : Option Nat) (hi' : Int32), BestP (fun S => okH C G tak hid S ∧ hostS s hid S = x) (fun S => pop (nI S)) (2 ^ C) ob' ∧ bX12_trick_50 (lX12_trick_23 n) 0 hi ts ht s bf x (encB ob) (nI j) = match ob' with
        | none => some (-1, 0, hi', ts, ht, s, bf)
        | some B => some (nI (pop (nI B)), 0, hi', nI B, 1, s, bf) := by
      intro hw
      have hw2 : ob = none ∨ ∃ B, ob = some B ∧ pop (nI j) < pop (nI B) := by
        cases ob with
        | none => exact Or.inl rfl
        | some B => exact Or.inr ⟨B, rfl, hw B rfl⟩
      unfold bX12_trick_50
      by_cases hq : okH C G tak hid j ∧ hostS s hid j = x
      · rw [t1 hq, bind_eq]
        dsimp only
        rw [if_neg (by decide), nI_1]
        exact ih (j + 1) n (by omega) (by omega) hi' (some j) (st1 ⟨hq, hw2⟩)
      · rw [t2 hq, bind_eq]
        dsimp only
        rw [if_pos rfl, nI_1]
        exact ih (j + 1) n (by omega) (by omega) hi' ob (st2 (fun h => hq h.1))
    cases hob : ob with
    | none =>
      rw [hob] at tryit
      show ∃ ob' hi', _ ∧ (if (-1 : Int32) < 0 then _ else _) = _
      rw [if_pos (by decide)]
      exact tryit (fun B h => by cases h)
    | some B =>
      have hB : B < j := by
        rw [hob] at hb
        exact hb.1
      rw [hob] at tryit hb st2
      show ∃ ob' hi', _ ∧ (if nI B < 0 then _ else _) = _
      rw [if_neg (nI_pos (by omega))]
      show ∃ ob' hi', _ ∧ (fX12_bits (nI j)).bind (fun r_3 => (fX12_bits (nI B)).bind _) = _
      rw [bits_eq (sm_nI (n := 10) (by omega)), bind_eq, bits_eq (sm_nI (n := 10) (by omega)), bind_eq]
      have hpj := pop_le (n := 10) (Nat.le_refl _) (sm_nI (n := 10) (show j < 2 ^ 10 by omega))
      have hpB := pop_le (n := 10) (Nat.le_refl _) (sm_nI (n := 10) (show B < 2 ^ 10 by omega))
      by_cases hle : pop (nI B) ≤ pop (nI j)
      · rw [if_pos (nI_le hle (by omega)), nI_1]
        exact ih (j + 1) n (by omega) (by omega) hi (some B) (st2 (fun h => by
          rcases h.2 with h3 | ⟨B', h3, h4⟩
          · cases h3
          · cases h3
            omega))
      · rw [if_neg (nI_ge (by omega) (by omega))]
        exact tryit (fun B' h => by cases h; omega)
