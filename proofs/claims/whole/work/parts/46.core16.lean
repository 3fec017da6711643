/-! ===== pure: trick in the class; promise 19 ===== -/
theorem isNextBehind_eq {C G D : Nat} {pride speed payer cost s : A1} (hH : RH C G D pride speed payer cost s) {sit tak ser hid ovr hst pia : Int32} {ρ : Nat} (hρ : ρ ≤ 400) {coins chairOf tired hosted owed paid : A1} (hF : RF C G D sit tak ser hid (nI ρ) ovr hst pia coins chairOf tired hosted owed paid s) {S : Nat} (hS : S < 2 ^ C) (t1 t2 t3 t4 t5 t6 t7 t8 : Int32) (u1 u2 u3 u4 u5 u6 : A1) (x : Int32) : ∃ (t1' t2' t3' t4' t5' t6' t7' t8' : Int32) (u1' u2' u3' u4' u5' u6' : A1), fX9_isNextBehind (nI C) (nI G) (nI D) pride speed payer cost sit tak ser hid (nI ρ) ovr hst pia coins chairOf tired hosted owed paid t1 t2 t3 t4 t5 t6 t7 t8 u1 u2 u3 u4 u5 u6 x (nI S) = some (if hostS s hid S = x then 1 else 0, t1', t2', t3', t4', t5', t6', t7', t8', u1', u2', u3', u4', u5', u6') := by
  obtain ⟨b1, b2, b3, b4, b5, b6, b7, b8, b9, b10, b11, b12, b13, hi', s', z1, -⟩ := hostS_eq hH hρ hF hS t1 t2 t3 t4 t5 t6 t7 t8 u1 u2 u3 u4 u5 u6 0
  refine ⟨b1, b2, b3, hid ||| nI S, b4, b5, b6, b7, b8, b9, b10, b11, b12, b13, ?_⟩
  simp only [fX9_isNextBehind, fX1_copyFrom, bind_eq, nmv_eq, z1]
  by_cases h : hostS s hid S = x
  · simp only [if_pos h]
  · simp only [if_neg h]
theorem okH_iff {C G : Nat} {tak hid : Int32} {S : Nat} (hC : C ≤ 9) (hS : S < 2 ^ C) : okH C G tak hid S ↔ (nI S &&& (hid ||| tak) = 0 ∧ G + pop hid + pop (nI S) ≤ C) := by
  unfold okH
  rw [and_0 hC hS, popS hC hS]
  constructor
  · intro ⟨h1, h2⟩
    refine ⟨fun i hi hb => ?_, h2⟩
    rw [b_or, (h1 i hi hb).1, (h1 i hi hb).2]
    rfl
  · intro ⟨h1, h2⟩
    refine ⟨fun i hi hb => ?_, h2⟩
    have h3 := h1 i hi hb
    rw [b_or, Bool.or_eq_false_iff] at h3
    exact h3
theorem trickC_in {C G D : Nat} {pride speed payer cost s : A1} (hH : RH C G D pride speed payer cost s) {sit tak ser hid ovr hst pia : Int32} {ρ : Nat} (hρ : ρ ≤ 400) {coins chairOf tired hosted owed paid : A1} (hF : RF C G D sit tak ser hid (nI ρ) ovr hst pia coins chairOf tired hosted owed paid s) (k27 : Int32 → Int32 → Int32 → Int32 → Int32 → Int32 → Int32 → Int32 → Int32 → A1 → A1 → A1 → A1 → A1 → A1 → Int32 → Int32 → Int32 → Int32 → Option (Int32 × Int32 × Int32 × Int32 × Int32 × Int32 × Int32 × Int32 × Int32 × Int32 × A1 × A1 × A1 × A1 × A1 × A1)) (tc x x3 : Int32) {lv : Nat} (hlv : G + pop hid + lv ≤ C) : ∀ (m j n : Nat), j + m = 2 ^ C → m < n → ∀ (t1 t2 t3 t4 t5 t6 t7 t8 : Int32) (u1 u2 u3 u4 u5 u6 : A1),
    (∃ (S : Nat) (t1' t2' t3' t4' t5' t6' t7' t8' : Int32) (u1' u2' u3' u4' u5' u6' : A1), j ≤ S ∧ S < 2 ^ C ∧ (okH C G tak hid S ∧ hostS s hid S = x) ∧ pop (nI S) = lv ∧ (∀ S', j ≤ S' → S' < S → (okH C G tak hid S' ∧ hostS s hid S' = x) → pop (nI S') ≠ lv) ∧ lX9_fewestHidden_36 (nI C) (nI G) (nI D) pride speed payer cost sit tak ser hid (nI ρ) ovr hst pia coins chairOf tired hosted owed paid k27 n tc t1 t2 t3 t4 t5 t6 t7 t8 u1 u2 u3 u4 u5 u6 x (hid ||| tak) x3 (nI lv) (nI j) = some (nI lv, nI S, t1', t2', t3', t4', t5', t6', t7', t8', u1', u2', u3', u4', u5', u6')) ∨
    (∃ (t1' t2' t3' t4' t5' t6' t7' t8' : Int32) (u1' u2' u3' u4' u5' u6' : A1), (∀ S', j ≤ S' → S' < 2 ^ C → (okH C G tak hid S' ∧ hostS s hid S' = x) → pop (nI S') ≠ lv) ∧ lX9_fewestHidden_36 (nI C) (nI G) (nI D) pride speed payer cost sit tak ser hid (nI ρ) ovr hst pia coins chairOf tired hosted owed paid k27 n tc t1 t2 t3 t4 t5 t6 t7 t8 u1 u2 u3 u4 u5 u6 x (hid ||| tak) x3 (nI lv) (nI j) = k27 tc t1' t2' t3' t4' t5' t6' t7' t8' u1' u2' u3' u4' u5' u6' x (hid ||| tak) x3 (nI lv + 1)) := by
  obtain ⟨⟨hC2, hC9, hG, hGC, hD⟩, ⟨e0, e1, e2⟩, -, -⟩ := id hH
  obtain ⟨ep, hpw⟩ := two_pow_all C hC9
  intro m
  induction m with
  | zero =>
    intro j n hj hn t1 t2 t3 t4 t5 t6 t7 t8 u1 u2 u3 u4 u5 u6
    obtain ⟨n, rfl⟩ : ∃ k, n = k + 1 := ⟨n - 1, by omega⟩
    right
    refine ⟨t1, t2, t3, t4, t5, t6, t7, t8, u1, u2, u3, u4, u5, u6, fun S' h1 h2 => absurd h2 (by omega), ?_⟩
    rw [lX9_fewestHidden_36, ep, if_pos (nI_le (by omega) (by omega))]
  | succ m ih =>
    intro j n hj hn t1 t2 t3 t4 t5 t6 t7 t8 u1 u2 u3 u4 u5 u6
    obtain ⟨n, rfl⟩ : ∃ k, n = k + 1 := ⟨n - 1, by omega⟩
    have hjs : j < 2 ^ C := by omega
    have hpj := pop_le (n := 10) (Nat.le_refl _) (sm_nI (n := 10) (show j < 2 ^ 10 by omega))
    have go : ∀ (t1 t2 t3 t4 t5 t6 t7 t8 : Int32) (u1 u2 u3 u4 u5 u6 : A1), ((okH C G tak hid j ∧ hostS s hid j = x) → pop (nI j) ≠ lv) →
        (∃ (S : Nat) (t1' t2' t3' t4' t5' t6' t7' t8' : Int32) (u1' u2' u3' u4' u5' u6' : A1), j ≤ S ∧ S < 2 ^ C ∧ (okH C G tak hid S ∧ hostS s hid S = x) ∧ pop (nI S) = lv ∧ (∀ S', j ≤ S' → S' < S → (okH C G tak hid S' ∧ hostS s hid S' = x) → pop (nI S') ≠ lv) ∧ lX9_fewestHidden_36 (nI C) (nI G) (nI D) pride speed payer cost sit tak ser hid (nI ρ) ovr hst pia coins chairOf tired hosted owed paid k27 n tc t1 t2 t3 t4 t5 t6 t7 t8 u1 u2 u3 u4 u5 u6 x (hid ||| tak) x3 (nI lv) (nI j + 1) = some (nI lv, nI S, t1', t2', t3', t4', t5', t6', t7', t8', u1', u2', u3', u4', u5', u6')) ∨
        (∃ (t1' t2' t3' t4' t5' t6' t7' t8' : Int32) (u1' u2' u3' u4' u5' u6' : A1), (∀ S', j ≤ S' → S' < 2 ^ C → (okH C G tak hid S' ∧ hostS s hid S' = x) → pop (nI S') ≠ lv) ∧ lX9_fewestHidden_36 (nI C) (nI G) (nI D) pride speed payer cost sit tak ser hid (nI ρ) ovr hst pia coins chairOf tired hosted owed paid k27 n tc t1 t2 t3 t4 t5 t6 t7 t8 u1 u2 u3 u4 u5 u6 x (hid ||| tak) x3 (nI lv) (nI j + 1) = k27 tc t1' t2' t3' t4' t5' t6' t7' t8' u1' u2' u3' u4' u5' u6' x (hid ||| tak) x3 (nI lv + 1)) := by
      intro t1 t2 t3 t4 t5 t6 t7 t8 u1 u2 u3 u4 u5 u6 hno
      rw [nI_1]
      rcases ih (j + 1) n (by omega) (by omega) t1 t2 t3 t4 t5 t6 t7 t8 u1 u2 u3 u4 u5 u6 with ⟨S, t1', t2', t3', t4', t5', t6', t7', t8', u1', u2', u3', u4', u5', u6', h1, h2, h3, h4, h5, h6⟩ | ⟨t1', t2', t3', t4', t5', t6', t7', t8', u1', u2', u3', u4', u5', u6', h1, h2⟩
      · left
        refine ⟨S, t1', t2', t3', t4', t5', t6', t7', t8', u1', u2', u3', u4', u5', u6', by omega, h2, h3, h4, fun S' a b => ?_, h6⟩
        by_cases e : S' = j
        · subst e
          exact hno
        · exact h5 S' (by omega) b
      · right
        refine ⟨t1', t2', t3', t4', t5', t6', t7', t8', u1', u2', u3', u4', u5', u6', fun S' a b => ?_, h2⟩
        by_cases e : S' = j
        · subst e
          exact hno
        · exact h1 S' (by omega) b
    have hok := okH_iff (G := G) (tak := tak) (hid := hid) hC9 hjs
    rw [lX9_fewestHidden_36, ep, if_neg (nI_ge (by omega) (by omega))]
    by_cases h1 : nI j &&& (hid ||| tak) = 0
    · rw [if_pos h1, bitCount_eq (sm_nI (n := 10) (by omega)), bind_eq]
      have hpe : nI (pop (nI j)) = nI lv ↔ pop (nI j) = lv := nI_eq (by omega) (by omega)
      by_cases h2 : pop (nI j) = lv
      · rw [if_pos (hpe.mpr h2)]
        obtain ⟨t1', t2', t3', t4', t5', t6', t7', t8', u1', u2', u3', u4', u5', u6', z⟩ := isNextBehind_eq hH hρ hF hjs t1 t2 t3 t4 t5 t6 t7 t8 u1 u2 u3 u4 u5 u6 x
        rw [z, bind_eq]
        dsimp only
        by_cases h3 : hostS s hid j = x
        · rw [if_pos h3, if_neg (by decide)]
          left
          exact ⟨j, t1', t2', t3', t4', t5', t6', t7', t8', u1', u2', u3', u4', u5', u6', Nat.le_refl _, hjs, ⟨hok.mpr ⟨h1, by omega⟩, h3⟩, h2, fun S' a b => absurd b (by omega), rfl⟩
        · rw [if_neg h3, if_pos rfl]
          exact go t1' t2' t3' t4' t5' t6' t7' t8' u1' u2' u3' u4' u5' u6' (fun h => absurd h.2 h3)
      · rw [if_neg (fun e => h2 (hpe.mp e))]
        exact go t1 t2 t3 t4 t5 t6 t7 t8 u1 u2 u3 u4 u5 u6 (fun _ => h2)
    · rw [if_neg h1]
      exact go t1 t2 t3 t4 t5 t6 t7 t8 u1 u2 u3 u4 u5 u6 (fun h => absurd (hok.mp h.1).1 h1)
theorem trickC_out {C G D : Nat} {pride speed payer cost s : A1} (hH : RH C G D pride speed payer cost s) {sit tak ser hid ovr hst pia : Int32} {ρ : Nat} (hρ : ρ ≤ 400) {coins chairOf tired hosted owed paid : A1} (hF : RF C G D sit tak ser hid (nI ρ) ovr hst pia coins chairOf tired hosted owed paid s) (hP : G + pop hid ≤ C) (tc x : Int32) : ∀ (m lv n : Nat), lv + m = C - pop hid - G + 1 → m < n → (∀ S, S < 2 ^ C → (okH C G tak hid S ∧ hostS s hid S = x) → lv ≤ pop (nI S)) → ∀ (t1 t2 t3 t4 t5 t6 t7 t8 : Int32) (u1 u2 u3 u4 u5 u6 : A1),
    ∃ (ob : Option Nat) (t1' t2' t3' t4' t5' t6' t7' t8' : Int32) (u1' u2' u3' u4' u5' u6' : A1), BestP (fun S => okH C G tak hid S ∧ hostS s hid S = x) (fun S => pop (nI S)) (2 ^ C) ob ∧ lX9_fewestHidden_27 (nI C) (nI G) (nI D) pride speed payer cost sit tak ser hid (nI ρ) ovr hst pia coins chairOf tired hosted owed paid n tc t1 t2 t3 t4 t5 t6 t7 t8 u1 u2 u3 u4 u5 u6 x (hid ||| tak) (nI (C - pop hid - G)) (nI lv) = match ob with
      | none => some (-1, tc, t1', t2', t3', t4', t5', t6', t7', t8', u1', u2', u3', u4', u5', u6')
      | some B => some (nI (pop (nI B)), nI B, t1', t2', t3', t4', t5', t6', t7', t8', u1', u2', u3', u4', u5', u6') := by
  obtain ⟨⟨hC2, hC9, hG, hGC, hD⟩, ⟨e0, e1, e2⟩, -, -⟩ := id hH
  obtain ⟨ep, hpw⟩ := two_pow_all C hC9
  intro m
  induction m with
  | zero =>
    intro lv n hlv hn hmin t1 t2 t3 t4 t5 t6 t7 t8 u1 u2 u3 u4 u5 u6
    obtain ⟨n, rfl⟩ : ∃ k, n = k + 1 := ⟨n - 1, by omega⟩
    refine ⟨none, t1, t2, t3, t4, t5, t6, t7, t8, u1, u2, u3, u4, u5, u6, fun S hS hQ => ?_, ?_⟩
    · have h1 := hmin S hS hQ
      have h2 := ((okH_iff (G := G) (tak := tak) (hid := hid) hC9 hS).mp hQ.1).2
      omega
    · rw [lX9_fewestHidden_27, if_pos (nI_lt (by omega) (by omega))]
  | succ m ih =>
    intro lv n hlv hn hmin t1 t2 t3 t4 t5 t6 t7 t8 u1 u2 u3 u4 u5 u6
    obtain ⟨n, rfl⟩ : ∃ k, n = k + 1 := ⟨n - 1, by omega⟩
    rw [lX9_fewestHidden_27, if_neg (nI_nlt (by omega) (by omega))]
    rcases trickC_in hH hρ hF (lX9_fewestHidden_27 (nI C) (nI G) (nI D) pride speed payer cost sit tak ser hid (nI ρ) ovr hst pia coins chairOf tired hosted owed paid n) tc x (nI (C - pop hid - G)) (show G + pop hid + lv ≤ C by omega) (2 ^ C) 0 5000 (by omega) (by omega) t1 t2 t3 t4 t5 t6 t7 t8 u1 u2 u3 u4 u5 u6 with ⟨S, t1', t2', t3', t4', t5', t6', t7', t8', u1', u2', u3', u4', u5', u6', h1, h2, h3, h4, h5, h6⟩ | ⟨t1', t2', t3', t4', t5', t6', t7', t8', u1', u2', u3', u4', u5', u6', h1, h2⟩
    · refine ⟨some S, t1', t2', t3', t4', t5', t6', t7', t8', u1', u2', u3', u4', u5', u6', ⟨h2, h3, fun S' a b => ?_⟩, ?_⟩
      · have x1 := hmin S' a b
        have x2 := h5 S' (Nat.zero_le _)
        by_cases e : S' < S
        · have := x2 e b
          dsimp only
          omega
        · dsimp only
          omega
      · rw [show (0 : Int32) = nI 0 from rfl, h6]
        show _ = some (nI (pop (nI S)), nI S, _)
        rw [h4]
    · rw [show (0 : Int32) = nI 0 from rfl, h2, nI_1]
      exact ih (lv + 1) n (by omega) (by omega) (fun S hS hQ => by have x1 := hmin S hS hQ; have x2 := h1 S (Nat.zero_le _) hS hQ; omega) t1' t2' t3' t4' t5' t6' t7' t8' u1' u2' u3' u4' u5' u6'
/-- what trick() and push() told last, in the reference -/
def lastT (tc ts ht : Int32) : Prop := (ht = 0 ∧ tc = -1) ∨ (ht = 1 ∧ tc = ts)
/-- promise 19: trick -/
theorem T_trick {C G D : Nat} {pride speed payer cost s : A1} (hH : RH C G D pride speed payer cost s) {sit tak ser hid ovr hst pia : Int32} {ρ : Nat} (hρ : ρ ≤ 400) {coins chairOf tired hosted owed paid : A1} (hF : RF C G D sit tak ser hid (nI ρ) ovr hst pia coins chairOf tired hosted owed paid s) (hP : G + pop hid ≤ C) {tc ts ht : Int32} (hL : lastT tc ts ht) (t1 t2 t3 t4 t5 t6 t7 t8 : Int32) (u1 u2 u3 u4 u5 u6 : A1) (th hi : Int32) (bf : A1) (x : Int32) :
    ∃ (r tc' : Int32) (t1' t2' t3' t4' t5' t6' t7' t8' : Int32) (u1' u2' u3' u4' u5' u6' : A1) (hi' ts' ht' : Int32) (bf' : A1), fX11_trick (nI C) (nI G) (nI D) pride speed payer cost sit tak ser hid (nI ρ) ovr hst pia coins chairOf tired hosted owed paid tc t1 t2 t3 t4 t5 t6 t7 t8 u1 u2 u3 u4 u5 u6 x = some (r, tc', t1', t2', t3', t4', t5', t6', t7', t8', u1', u2', u3', u4', u5', u6') ∧ fX12_trick th hi ts ht s bf x = some (r, 0, hi', ts', ht', s, bf') ∧ lastT tc' ts' ht' := by
  obtain ⟨⟨hC2, hC9, hG, hGC, hD⟩, ⟨e0, e1, e2⟩, -, -⟩ := id hH
  have hs4 := hF.2.1.2.2.2.1
  rcases guest_is hH x with ⟨g, hg, rfl, h1, h2⟩ | ⟨h1, h2⟩
  · obtain ⟨bf', b1, b2⟩ := tries_eq s bf
    obtain ⟨ob, hi', z1, z2⟩ := trickM hH hρ hF hP b2 (nI g) ts ht (2 ^ C) 0 5000 (by omega) (by have := (two_pow_all C hC9).2; omega) hi none (fun S h => absurd h (by omega))
    have z2' : lX12_trick_23 5000 0 hi ts ht s bf' (nI g) (-1) 0 = _ := z2
    by_cases hb : bt sit g = true
    · have hn : ob = none := by
        refine z1.uniq (b := none) (fun S hS hQ => ?_)
        obtain ⟨c1, c2, c3, c4, c5, c6, c7, c8, c9, c10, c11, c12, c13, hi2, s', y1, y2, y3, y4⟩ := hostS_eq hH hρ hF hS 0 0 0 0 0 0 0 0 (fun _ => 0) (fun _ => 0) (fun _ => 0) (fun _ => 0) (fun _ => 0) (fun _ => 0) hi
        rcases y4 with y4 | ⟨w, hw, y5, y6⟩
        · exact nI_neg g (by omega) (hQ.2.symm.trans y4)
        · have y7 : g = w := (nI_eq (by omega) (by omega)).mp (hQ.2.symm.trans y5)
          subst y7
          rw [hb] at y6
          cases y6
      subst hn
      refine ⟨-1, tc, t1, t2, t3, t4, t5, t6, t7, t8, u1, u2, u3, u4, u5, u6, hi', ts, ht, bf', ?_, ?_, hL⟩
      · simp only [fX11_trick, h1, bind_eq, if_neg (show ¬ (1 : Int32) = 0 by decide), seated_eq (show g < 31 by omega), if_pos hb]
      · simp only [fX12_trick, h2, bind_eq, if_neg (show ¬ (1 : Int32) = 0 by decide), b1, z2']
    · obtain ⟨ob2, t1', t2', t3', t4', t5', t6', t7', t8', u1', u2', u3', u4', u5', u6', y1, y2⟩ := trickC_out hH hρ hF hP tc (nI g) (C - pop hid - G + 1) 0 5000 (by omega) (by omega) (fun _ _ _ => Nat.zero_le _) t1 t2 t3 t4 t5 t6 t7 t8 u1 u2 u3 u4 u5 u6
      have eo : ob2 = ob := y1.uniq z1
      subst eo
      have y2' : lX9_fewestHidden_27 (nI C) (nI G) (nI D) pride speed payer cost sit tak ser hid (nI ρ) ovr hst pia coins chairOf tired hosted owed paid 5000 tc t1 t2 t3 t4 t5 t6 t7 t8 u1 u2 u3 u4 u5 u6 (nI g) (hid ||| tak) (nI (C - pop hid - G)) 0 = _ := y2
      have hcan : fX1_canStillBeHidden hid (nI C) (nI G) = some (nI (C - pop hid - G)) := by
        unfold fX1_canStillBeHidden
        rw [bitCount_eq (sm_up hs4 (by omega)), bind_eq, pk_sub (by omega), pk_sub (by omega)]
      cases ob2 with
      | none =>
        refine ⟨-1, tc, t1', t2', t3', t4', t5', t6', t7', t8', u1', u2', u3', u4', u5', u6', hi', ts, ht, bf', ?_, ?_, hL⟩
        · simp only [fX11_trick, h1, bind_eq, if_neg (show ¬ (1 : Int32) = 0 by decide), seated_eq (show g < 31 by omega), if_neg hb, if_true, fX9_fewestHidden, nmv_eq, hcan, y2']
        · simp only [fX12_trick, h2, bind_eq, if_neg (show ¬ (1 : Int32) = 0 by decide), b1, z2']
      | some B =>
        refine ⟨nI (pop (nI B)), nI B, t1', t2', t3', t4', t5', t6', t7', t8', u1', u2', u3', u4', u5', u6', hi', nI B, 1, bf', ?_, ?_, Or.inr ⟨rfl, rfl⟩⟩
        · simp only [fX11_trick, h1, bind_eq, if_neg (show ¬ (1 : Int32) = 0 by decide), seated_eq (show g < 31 by omega), if_neg hb, if_true, fX9_fewestHidden, nmv_eq, hcan, y2']
        · simp only [fX12_trick, h2, bind_eq, if_neg (show ¬ (1 : Int32) = 0 by decide), b1, z2']
  · refine ⟨-1, tc, t1, t2, t3, t4, t5, t6, t7, t8, u1, u2, u3, u4, u5, u6, hi, ts, ht, bf, ?_, ?_, hL⟩
    · simp only [fX11_trick, h1, bind_eq, if_true]
    · simp only [fX12_trick, h2, bind_eq, if_true]
