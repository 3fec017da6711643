/-! ===== pure: promise 21, push ===== -/
def pushS (bf s : A1) (x : Int32) (S : Nat) : Int32 := match fX12_isPush bf 0 s x (nI S) with
  | some (r, _, _) => r
  | none => 0
theorem push_eq {C G D : Nat} {pride speed payer cost s : A1} (hH : RH C G D pride speed payer cost s) {sit tak ser hid ovr hst pia : Int32} {ρ : Nat} (hρ : ρ ≤ 400) {coins chairOf tired hosted owed paid : A1} (hF : RF C G D sit tak ser hid (nI ρ) ovr hst pia coins chairOf tired hosted owed paid s) {g : Nat} (hg : g < G) (hb : bt sit g = false) {bf : A1} (hbf : ∀ i, i < 48 → bf i = s (44 + i)) {S : Nat} (hS : S < 2 ^ G) (hSg : S.testBit g = false) :
    ((∀ i, i < G → S.testBit i = true → bt sit i = false) → (∀ (t1 t2 t3 t4 t5 t6 t7 t8 : Int32) (u1 u2 u3 u4 u5 u6 : A1), ∃ (t1' t2' t3' t4' t5' t6' t7' t8' : Int32) (u1' u2' u3' u4' u5' u6' : A1), fX9_isHostBy (nI C) (nI G) (nI D) pride speed payer cost sit tak ser hid (nI ρ) ovr hst pia coins chairOf tired hosted owed paid t1 t2 t3 t4 t5 t6 t7 t8 u1 u2 u3 u4 u5 u6 (nI g) (nI S) = some (pushS bf s (nI g) S, t1', t2', t3', t4', t5', t6', t7', t8', u1', u2', u3', u4', u5', u6')) ∧ (∀ hi, ∃ hi', fX12_isPush bf hi s (nI g) (nI S) = some (pushS bf s (nI g) S, hi', s)) ∧ (pushS bf s (nI g) S = 0 ∨ pushS bf s (nI g) S = 1)) ∧
    (¬ (∀ i, i < G → S.testBit i = true → bt sit i = false) → ∀ hi, ∃ hi', fX12_isPush bf hi s (nI g) (nI S) = some (0, hi', s)) := by
  have hG := hH.1
  constructor
  · intro hd
    have all : ∀ (t1 t2 t3 t4 t5 t6 t7 t8 : Int32) (u1 u2 u3 u4 u5 u6 : A1), ∃ (r : Int32) (t1' t2' t3' t4' t5' t6' t7' t8' : Int32) (u1' u2' u3' u4' u5' u6' : A1), fX9_isHostBy (nI C) (nI G) (nI D) pride speed payer cost sit tak ser hid (nI ρ) ovr hst pia coins chairOf tired hosted owed paid t1 t2 t3 t4 t5 t6 t7 t8 u1 u2 u3 u4 u5 u6 (nI g) (nI S) = some (r, t1', t2', t3', t4', t5', t6', t7', t8', u1', u2', u3', u4', u5', u6') ∧ (∀ hi, ∃ hi', fX12_isPush bf hi s (nI g) (nI S) = some (r, hi', s)) ∧ (r = 0 ∨ r = 1) := by
      intro t1 t2 t3 t4 t5 t6 t7 t8 u1 u2 u3 u4 u5 u6
      obtain ⟨r, t1', t2', t3', t4', t5', t6', t7', t8', u1', u2', u3', u4', u5', u6', z1, z2, z3⟩ := push_loop (D := D) (C := C) (pride := pride) (speed := speed) (payer := payer) (cost := cost) (hid := hid) hg hbf hρ sit tak ser hid (nI ρ) ovr hst pia coins chairOf tired hosted owed paid hS hSg G 0 5000 5000 (by omega) (by omega) (by omega) sit tak ser hst pia _ _ _ _ _ _ s (nI S) hH (RF_copy (o1 := u1) (o2 := u2) (o3 := u3) (o4 := u4) (o5 := u5) (o6 := u6) (by omega) hF) (fun _ _ => rfl) hb (fun i _ h2 h3 => hd i h2 h3) (fun i hi => by rw [bt_nI hi]; simp)
      refine ⟨r, t1', t2', t3', t4', t5', t6', t7', t8', u1', u2', u3', u4', u5', u6', ?_, z2, z3⟩
      unfold fX9_isHostBy fX1_copyFrom
      rw [bind_eq]
      exact z1
    obtain ⟨r, t1', t2', t3', t4', t5', t6', t7', t8', u1', u2', u3', u4', u5', u6', z1, z2, z3⟩ := all 0 0 0 0 0 0 0 0 (fun _ => 0) (fun _ => 0) (fun _ => 0) (fun _ => 0) (fun _ => 0) (fun _ => 0)
    have e : pushS bf s (nI g) S = r := by
      obtain ⟨hi', h⟩ := z2 0
      unfold pushS
      rw [h]
    refine ⟨fun t1 t2 t3 t4 t5 t6 t7 t8 u1 u2 u3 u4 u5 u6 => ?_, fun hi => ?_, by rw [e]; exact z3⟩
    · obtain ⟨r2, t1', t2', t3', t4', t5', t6', t7', t8', u1', u2', u3', u4', u5', u6', y1, y2, y3⟩ := all t1 t2 t3 t4 t5 t6 t7 t8 u1 u2 u3 u4 u5 u6
      refine ⟨t1', t2', t3', t4', t5', t6', t7', t8', u1', u2', u3', u4', u5', u6', ?_⟩
      obtain ⟨hi', h⟩ := y2 0
      have e2 : pushS bf s (nI g) S = r2 := by
        unfold pushS
        rw [h]
      rw [e2]
      exact y1
    · rw [e]
      exact z2 hi
  · intro hn hi
    obtain ⟨h, hh, h1, h2⟩ : ∃ h, h < G ∧ S.testBit h = true ∧ bt sit h = true := by
      apply Classical.byContradiction
      intro hc
      apply hn
      intro i hi1 hi2
      cases hb2 : bt sit i with
      | false => rfl
      | true => exact absurd ⟨i, hi1, hi2, hb2⟩ hc
    exact push_bad (D := D) (C := C) (pride := pride) (speed := speed) (payer := payer) (cost := cost) (hid := hid) hg hh hbf h1 G 0 5000 (by omega) (by omega) (by omega) sit tak ser ovr hst pia coins chairOf tired hosted owed paid s (nI S) hH hF (fun _ _ => rfl) h2 (by rw [bt_nI (by omega)]; exact h1) hi
def QP (G : Nat) (sit : Int32) (bf s : A1) (g : Nat) (S : Nat) : Prop := S.testBit g = false ∧ (∀ i, i < G → S.testBit i = true → bt sit i = false) ∧ pushS bf s (nI g) S = 1
theorem pushM {C G D : Nat} {pride speed payer cost s : A1} (hH : RH C G D pride speed payer cost s) {sit tak ser hid ovr hst pia : Int32} {ρ : Nat} (hρ : ρ ≤ 400) {coins chairOf tired hosted owed paid : A1} (hF : RF C G D sit tak ser hid (nI ρ) ovr hst pia coins chairOf tired hosted owed paid s) {g : Nat} (hg : g < G) (hb : bt sit g = false) {bf : A1} (hbf : ∀ i, i < 48 → bf i = s (44 + i)) (ts ht : Int32) : ∀ (m j n : Nat), j + m = 2 ^ G → m < n → ∀ (hi : Int32) (ob : Option Nat), BestP (QP G sit bf s g) (fun S => pop (nI S)) j ob →
    ∃ (ob' : Option Nat) (hi' : Int32), BestP (QP G sit bf s g) (fun S => pop (nI S)) (2 ^ G) ob' ∧ lX12_push_31 n 0 hi ts ht s bf (nI g) (encB ob) (nI j) = match ob' with
      | none => some (-1, 0, hi', ts, ht, s, bf)
      | some B => some (nI (pop (nI B)), 0, hi', nI B, 1, s, bf) := by
  obtain ⟨⟨hC2, hC9, hG, hGC, hD⟩, ⟨e0, e1, e2⟩, -, -⟩ := id hH
  obtain ⟨ep, hpw⟩ := two_pow_all G (by omega)
  intro m
  induction m with
  | zero =>
    intro j n hj hn hi ob hbst
    obtain ⟨n, rfl⟩ : ∃ k, n = k + 1 := ⟨n - 1, by omega⟩
    have e : j = 2 ^ G := by omega
    subst e
    refine ⟨ob, hi, hbst, ?_⟩
    rw [lX12_push_31, e1, ep, if_pos (nI_le (Nat.le_refl _) (by omega))]
    cases ob with
    | none =>
      show (if (0 : Int32) ≤ -1 then _ else _) = _
      rw [if_neg (by decide)]
    | some B =>
      have hB := hbst.1
      show (if (0 : Int32) ≤ nI B then _ else _) = _
      rw [if_pos (nI_pos' (by omega))]
      show (fX12_bits (nI B)).bind _ = _
      rw [bits_eq (sm_nI (n := 10) (by omega)), bind_eq]
      rfl
  | succ m ih =>
    intro j n hj hn hi ob hbst
    obtain ⟨n, rfl⟩ : ∃ k, n = k + 1 := ⟨n - 1, by omega⟩
    have hjs : j < 2 ^ G := by omega
    obtain ⟨st1, st2⟩ := best_step hbst
    rw [lX12_push_31, e1, ep, if_neg (nI_ge (by omega) (by omega)), bitOf_eq (by omega), bind_eq, bt_nI (by omega)]
    cases hjg : j.testBit g with
    | true =>
      rw [if_pos rfl, if_neg (by decide), nI_1]
      exact ih (j + 1) n (by omega) (by omega) hi ob (st2 (fun h => by have h3 := h.1.1; rw [hjg] at h3; cases h3))
    | false =>
      rw [if_neg (show ¬ false = true by decide), if_pos rfl]
      obtain ⟨p1, p2⟩ := push_eq hH hρ hF hg hb hbf hjs hjg
      have res : ∃ hi', (QP G sit bf s g j → fX12_isPush bf hi s (nI g) (nI j) = some (1, hi', s)) ∧ (¬ QP G sit bf s g j → fX12_isPush bf hi s (nI g) (nI j) = some (0, hi', s)) := by
        by_cases hd : ∀ i, i < G → j.testBit i = true → bt sit i = false
        · obtain ⟨-, y2, y3⟩ := p1 hd
          obtain ⟨hi', y4⟩ := y2 hi
          refine ⟨hi', fun h => by rw [y4, h.2.2], fun h => ?_⟩
          rcases y3 with y3 | y3
          · rw [y4, y3]
          · exact absurd ⟨hjg, hd, y3⟩ h
        · obtain ⟨hi', y4⟩ := p2 hd hi
          exact ⟨hi', fun h => absurd h.2.1 hd, fun _ => y4⟩
      obtain ⟨hi', t1, t2⟩ := res
      have tryit : (∀ B, ob = some B → pop (nI j) < pop (nI B)) → ∃ (ob' : Option Nat) (hi' : Int32), BestP (QP G sit bf s g) (fun S => pop (nI S)) (2 ^ G) ob' ∧ bX12_push_66 (lX12_push_31 n) 0 hi ts ht s bf (nI g) (encB ob) (nI j) = match ob' with
          | none => some (-1, 0, hi', ts, ht, s, bf)
          | some B => some (nI (pop (nI B)), 0, hi', nI B, 1, s, bf) := by
        intro hw
        have hw2 : ob = none ∨ ∃ B, ob = some B ∧ pop (nI j) < pop (nI B) := by
          cases ob with
          | none => exact Or.inl rfl
          | some B => exact Or.inr ⟨B, rfl, hw B rfl⟩
        unfold bX12_push_66
        by_cases hq : QP G sit bf s g j
        · rw [t1 hq, bind_eq]
          dsimp only
          rw [if_neg (by decide), nI_1]
          exact ih (j + 1) n (by omega) (by omega) hi' (some j) (st1 ⟨hq, hw2⟩)
        · rw [t2 hq, bind_eq]
          dsimp only
          rw [if_pos rfl, nI_1]
          exact ih (j + 1) n (by omega) (by omega) hi' ob (st2 (fun h => hq h.1))
      cases hob : ob with
      | none =>
        rw [hob] at tryit
        show ∃ ob' hi', _ ∧ (if (-1 : Int32) < 0 then _ else _) = _
        rw [if_pos (by decide)]
        exact tryit (fun B h => by cases h)
      | some B =>
        have hB : B < j := by
          rw [hob] at hbst
          exact hbst.1
        rw [hob] at tryit hbst st2
        show ∃ ob' hi', _ ∧ (if nI B < 0 then _ else _) = _
        rw [if_neg (nI_pos (by omega))]
        show ∃ ob' hi', _ ∧ (fX12_bits (nI j)).bind (fun r_3 => (fX12_bits (nI B)).bind _) = _
        rw [bits_eq (sm_nI (n := 10) (by omega)), bind_eq, bits_eq (sm_nI (n := 10) (by omega)), bind_eq]
        have hpj := pop_le (n := 10) (Nat.le_refl _) (sm_nI (n := 10) (show j < 2 ^ 10 by omega))
        have hpB := pop_le (n := 10) (Nat.le_refl _) (sm_nI (n := 10) (show B < 2 ^ 10 by omega))
        by_cases hle : pop (nI B) ≤ pop (nI j)
        · rw [if_pos (nI_le hle (by omega)), nI_1]
          exact ih (j + 1) n (by omega) (by omega) hi (some B) (st2 (fun h => by
            rcases h.2 with h3 | ⟨B', h3, h4⟩
            · cases h3
            · cases h3
              omega))
        · rw [if_neg (nI_ge (by omega) (by omega))]
          exact tryit (fun B' h => by cases h; omega)
theorem guard_iff {S G g : Nat} {sit : Int32} (hG : G ≤ 7) (hg : g < G) (hS : S < 2 ^ G) : nI S &&& (sit ||| (1 <<< (nI g &&& 31))) = 0 ↔ (S.testBit g = false ∧ ∀ i, i < G → S.testBit i = true → bt sit i = false) := by
  rw [and_0 (by omega) hS]
  constructor
  · intro h
    refine ⟨?_, fun i hi hb => ?_⟩
    · cases hb : S.testBit g with
      | false => rfl
      | true =>
        have h2 := h g hg hb
        rw [bt_set (by omega) (by omega)] at h2
        simp at h2
    · have h2 := h i hi hb
      rw [bt_set (by omega) (by omega), Bool.or_eq_false_iff] at h2
      exact h2.1
  · intro ⟨h1, h2⟩ i hi hb
    rw [bt_set (by omega) (by omega), h2 i hi hb]
    have : ¬ i = g := fun e => by rw [e, h1] at hb; cases hb
    simp [this]
theorem pop_less : ∀ G, G ≤ 7 → ∀ S, S < 2 ^ G → ∀ g, g < G → S.testBit g = false → pop (nI S) + 1 ≤ G := by decide +kernel
theorem pushC_in {C G D : Nat} {pride speed payer cost s : A1} (hH : RH C G D pride speed payer cost s) {sit tak ser hid ovr hst pia : Int32} {ρ : Nat} (hρ : ρ ≤ 400) {coins chairOf tired hosted owed paid : A1} (hF : RF C G D sit tak ser hid (nI ρ) ovr hst pia coins chairOf tired hosted owed paid s) {g : Nat} (hg : g < G) (hb : bt sit g = false) {bf : A1} (hbf : ∀ i, i < 48 → bf i = s (44 + i)) (k14 : Int32 → Int32 → Int32 → Int32 → Int32 → Int32 → Int32 → Int32 → Int32 → A1 → A1 → A1 → A1 → A1 → A1 → Int32 → Int32 → Int32 → Option (Int32 × Int32 × Int32 × Int32 × Int32 × Int32 × Int32 × Int32 × Int32 × Int32 × A1 × A1 × A1 × A1 × A1 × A1)) (tc : Int32) {lv : Nat} (hlv : lv ≤ 7) : ∀ (m j n : Nat), j + m = 2 ^ G → m < n → ∀ (t1 t2 t3 t4 t5 t6 t7 t8 : Int32) (u1 u2 u3 u4 u5 u6 : A1),
    (∃ (S : Nat) (t1' t2' t3' t4' t5' t6' t7' t8' : Int32) (u1' u2' u3' u4' u5' u6' : A1), j ≤ S ∧ S < 2 ^ G ∧ QP G sit bf s g S ∧ pop (nI S) = lv ∧ (∀ S', j ≤ S' → S' < S → QP G sit bf s g S' → pop (nI S') ≠ lv) ∧ lX9_fewestPushed_28 (nI C) (nI G) (nI D) pride speed payer cost sit tak ser hid (nI ρ) ovr hst pia coins chairOf tired hosted owed paid k14 n tc t1 t2 t3 t4 t5 t6 t7 t8 u1 u2 u3 u4 u5 u6 (nI g) (sit ||| (1 <<< (nI g &&& 31))) (nI lv) (nI j) = some (nI lv, nI S, t1', t2', t3', t4', t5', t6', t7', t8', u1', u2', u3', u4', u5', u6')) ∨
    (∃ (t1' t2' t3' t4' t5' t6' t7' t8' : Int32) (u1' u2' u3' u4' u5' u6' : A1), (∀ S', j ≤ S' → S' < 2 ^ G → QP G sit bf s g S' → pop (nI S') ≠ lv) ∧ lX9_fewestPushed_28 (nI C) (nI G) (nI D) pride speed payer cost sit tak ser hid (nI ρ) ovr hst pia coins chairOf tired hosted owed paid k14 n tc t1 t2 t3 t4 t5 t6 t7 t8 u1 u2 u3 u4 u5 u6 (nI g) (sit ||| (1 <<< (nI g &&& 31))) (nI lv) (nI j) = k14 tc t1' t2' t3' t4' t5' t6' t7' t8' u1' u2' u3' u4' u5' u6' (nI g) (sit ||| (1 <<< (nI g &&& 31))) (nI lv + 1)) := by
  obtain ⟨⟨hC2, hC9, hG, hGC, hD⟩, ⟨e0, e1, e2⟩, -, -⟩ := id hH
  obtain ⟨ep, hpw⟩ := two_pow_all G (by omega)
  intro m
  induction m with
  | zero =>
    intro j n hj hn t1 t2 t3 t4 t5 t6 t7 t8 u1 u2 u3 u4 u5 u6
    obtain ⟨n, rfl⟩ : ∃ k, n = k + 1 := ⟨n - 1, by omega⟩
    right
    refine ⟨t1, t2, t3, t4, t5, t6, t7, t8, u1, u2, u3, u4, u5, u6, fun S' h1 h2 => absurd h2 (by omega), ?_⟩
    rw [lX9_fewestPushed_28, ep, if_pos (nI_le (by omega) (by omega))]
  | succ m ih =>
    intro j n hj hn t1 t2 t3 t4 t5 t6 t7 t8 u1 u2 u3 u4 u5 u6
    obtain ⟨n, rfl⟩ : ∃ k, n = k + 1 := ⟨n - 1, by omega⟩
    have hjs : j < 2 ^ G := by omega
    have hpj := pop_le (n := 10) (Nat.le_refl _) (sm_nI (n := 10) (show j < 2 ^ 10 by omega))
    have go : ∀ (t1 t2 t3 t4 t5 t6 t7 t8 : Int32) (u1 u2 u3 u4 u5 u6 : A1), (QP G sit bf s g j → pop (nI j) ≠ lv) →
        (∃ (S : Nat) (t1' t2' t3' t4' t5' t6' t7' t8' : Int32) (u1' u2' u3' u4' u5' u6' : A1), j ≤ S ∧ S < 2 ^ G ∧ QP G sit bf s g S ∧ pop (nI S) = lv ∧ (∀ S', j ≤ S' → S' < S → QP G sit bf s g S' → pop (nI S') ≠ lv) ∧ lX9_fewestPushed_28 (nI C) (nI G) (nI D) pride speed payer cost sit tak ser hid (nI ρ) ovr hst pia coins chairOf tired hosted owed paid k14 n tc t1 t2 t3 t4 t5 t6 t7 t8 u1 u2 u3 u4 u5 u6 (nI g) (sit ||| (1 <<< (nI g &&& 31))) (nI lv) (nI j + 1) = some (nI lv, nI S, t1', t2', t3', t4', t5', t6', t7', t8', u1', u2', u3', u4', u5', u6')) ∨
        (∃ (t1' t2' t3' t4' t5' t6' t7' t8' : Int32) (u1' u2' u3' u4' u5' u6' : A1), (∀ S', j ≤ S' → S' < 2 ^ G → QP G sit bf s g S' → pop (nI S') ≠ lv) ∧ lX9_fewestPushed_28 (nI C) (nI G) (nI D) pride speed payer cost sit tak ser hid (nI ρ) ovr hst pia coins chairOf tired hosted owed paid k14 n tc t1 t2 t3 t4 t5 t6 t7 t8 u1 u2 u3 u4 u5 u6 (nI g) (sit ||| (1 <<< (nI g &&& 31))) (nI lv) (nI j + 1) = k14 tc t1' t2' t3' t4' t5' t6' t7' t8' u1' u2' u3' u4' u5' u6' (nI g) (sit ||| (1 <<< (nI g &&& 31))) (nI lv + 1)) := by
      intro t1 t2 t3 t4 t5 t6 t7 t8 u1 u2 u3 u4 u5 u6 hno
      rw [nI_1]
      rcases ih (j + 1) n (by omega) (by omega) t1 t2 t3 t4 t5 t6 t7 t8 u1 u2 u3 u4 u5 u6 with ⟨S, t1', t2', t3', t4', t5', t6', t7', t8', u1', u2', u3', u4', u5', u6', h1, h2, h3, h4, h5, h6⟩ | ⟨t1', t2', t3', t4', t5', t6', t7', t8', u1', u2', u3', u4', u5', u6', h1, h2⟩
      · left
        refine ⟨S, t1', t2', t3', t4', t5', t6', t7', t8', u1', u2', u3', u4', u5', u6', by omega, h2, h3, h4, fun S' a b => ?_, h6⟩
        by_cases e : S' = j
        · subst e
          exact hno
        · exact h5 S' (by omega) b
      · right
        refine ⟨t1', t2', t3', t4', t5', t6', t7', t8', u1', u2', u3', u4', u5', u6', fun S' a b => ?_, h2⟩
        by_cases e : S' = j
        · subst e
          exact hno
        · exact h1 S' (by omega) b
    have hgd := guard_iff (sit := sit) hG hg hjs
    rw [lX9_fewestPushed_28, ep, if_neg (nI_ge (by omega) (by omega))]
    by_cases h1 : nI j &&& (sit ||| (1 <<< (nI g &&& 31))) = 0
    · obtain ⟨g1, g2⟩ := hgd.mp h1
      rw [if_pos h1, bitCount_eq (sm_nI (n := 10) (by omega)), bind_eq]
      have hpe : nI (pop (nI j)) = nI lv ↔ pop (nI j) = lv := nI_eq (by omega) (by omega)
      by_cases h2 : pop (nI j) = lv
      · rw [if_pos (hpe.mpr h2)]
        obtain ⟨y1, -, y3⟩ := (push_eq hH hρ hF hg hb hbf hjs g1).1 g2
        obtain ⟨t1', t2', t3', t4', t5', t6', t7', t8', u1', u2', u3', u4', u5', u6', z⟩ := y1 t1 t2 t3 t4 t5 t6 t7 t8 u1 u2 u3 u4 u5 u6
        rw [z, bind_eq]
        dsimp only
        rcases y3 with y3 | y3
        · rw [if_pos y3]
          exact go t1' t2' t3' t4' t5' t6' t7' t8' u1' u2' u3' u4' u5' u6' (fun h => absurd (y3.symm.trans h.2.2) (by decide))
        · rw [if_neg (by rw [y3]; decide)]
          left
          exact ⟨j, t1', t2', t3', t4', t5', t6', t7', t8', u1', u2', u3', u4', u5', u6', Nat.le_refl _, hjs, ⟨g1, g2, y3⟩, h2, fun S' a b => absurd b (by omega), rfl⟩
      · rw [if_neg (fun e => h2 (hpe.mp e))]
        exact go t1 t2 t3 t4 t5 t6 t7 t8 u1 u2 u3 u4 u5 u6 (fun _ => h2)
    · rw [if_neg h1]
      exact go t1 t2 t3 t4 t5 t6 t7 t8 u1 u2 u3 u4 u5 u6 (fun h => absurd (hgd.mpr ⟨h.1, h.2.1⟩) h1)
theorem pushC_out {C G D : Nat} {pride speed payer cost s : A1} (hH : RH C G D pride speed payer cost s) {sit tak ser hid ovr hst pia : Int32} {ρ : Nat} (hρ : ρ ≤ 400) {coins chairOf tired hosted owed paid : A1} (hF : RF C G D sit tak ser hid (nI ρ) ovr hst pia coins chairOf tired hosted owed paid s) {g : Nat} (hg : g < G) (hb : bt sit g = false) {bf : A1} (hbf : ∀ i, i < 48 → bf i = s (44 + i)) (tc : Int32) : ∀ (m lv n : Nat), lv + m = G → m < n → (∀ S, S < 2 ^ G → QP G sit bf s g S → lv ≤ pop (nI S)) → ∀ (t1 t2 t3 t4 t5 t6 t7 t8 : Int32) (u1 u2 u3 u4 u5 u6 : A1),
    ∃ (ob : Option Nat) (t1' t2' t3' t4' t5' t6' t7' t8' : Int32) (u1' u2' u3' u4' u5' u6' : A1), BestP (QP G sit bf s g) (fun S => pop (nI S)) (2 ^ G) ob ∧ lX9_fewestPushed_14 (nI C) (nI G) (nI D) pride speed payer cost sit tak ser hid (nI ρ) ovr hst pia coins chairOf tired hosted owed paid n tc t1 t2 t3 t4 t5 t6 t7 t8 u1 u2 u3 u4 u5 u6 (nI g) (sit ||| (1 <<< (nI g &&& 31))) (nI lv) = match ob with
      | none => some (-1, tc, t1', t2', t3', t4', t5', t6', t7', t8', u1', u2', u3', u4', u5', u6')
      | some B => some (nI (pop (nI B)), nI B, t1', t2', t3', t4', t5', t6', t7', t8', u1', u2', u3', u4', u5', u6') := by
  obtain ⟨⟨hC2, hC9, hG, hGC, hD⟩, ⟨e0, e1, e2⟩, -, -⟩ := id hH
  obtain ⟨ep, hpw⟩ := two_pow_all G (by omega)
  intro m
  induction m with
  | zero =>
    intro lv n hlv hn hmin t1 t2 t3 t4 t5 t6 t7 t8 u1 u2 u3 u4 u5 u6
    obtain ⟨n, rfl⟩ : ∃ k, n = k + 1 := ⟨n - 1, by omega⟩
    refine ⟨none, t1, t2, t3, t4, t5, t6, t7, t8, u1, u2, u3, u4, u5, u6, fun S hS hQ => ?_, ?_⟩
    · have h1 := hmin S hS hQ
      have h2 := pop_less G hG S hS g hg hQ.1
      omega
    · rw [lX9_fewestPushed_14, if_pos (nI_le (by omega) (by omega))]
  | succ m ih =>
    intro lv n hlv hn hmin t1 t2 t3 t4 t5 t6 t7 t8 u1 u2 u3 u4 u5 u6
    obtain ⟨n, rfl⟩ : ∃ k, n = k + 1 := ⟨n - 1, by omega⟩
    rw [lX9_fewestPushed_14, if_neg (nI_ge (by omega) (by omega))]
    rcases pushC_in hH hρ hF hg hb hbf (lX9_fewestPushed_14 (nI C) (nI G) (nI D) pride speed payer cost sit tak ser hid (nI ρ) ovr hst pia coins chairOf tired hosted owed paid n) tc (show lv ≤ 7 by omega) (2 ^ G) 0 5000 (by omega) (by omega) t1 t2 t3 t4 t5 t6 t7 t8 u1 u2 u3 u4 u5 u6 with ⟨S, t1', t2', t3', t4', t5', t6', t7', t8', u1', u2', u3', u4', u5', u6', h1, h2, h3, h4, h5, h6⟩ | ⟨t1', t2', t3', t4', t5', t6', t7', t8', u1', u2', u3', u4', u5', u6', h1, h2⟩
    · refine ⟨some S, t1', t2', t3', t4', t5', t6', t7', t8', u1', u2', u3', u4', u5', u6', ⟨h2, h3, fun S' a b => ?_⟩, ?_⟩
      · have x1 := hmin S' a b
        have x2 := h5 S' (Nat.zero_le _)
        by_cases e : S' < S
        · have := x2 e b
          dsimp only
          omega
        · dsimp only
          omega
      · rw [show (0 : Int32) = nI 0 from rfl, h6]
        show _ = some (nI (pop (nI S)), nI S, _)
        rw [h4]
    · rw [show (0 : Int32) = nI 0 from rfl, h2, nI_1]
      exact ih (lv + 1) n (by omega) (by omega) (fun S hS hQ => by have x1 := hmin S hS hQ; have x2 := h1 S (Nat.zero_le _) hS hQ; omega) t1' t2' t3' t4' t5' t6' t7' t8' u1' u2' u3' u4' u5' u6'
/-- promise 21: push -/
theorem T_push {C G D : Nat} {pride speed payer cost s : A1} (hH : RH C G D pride speed payer cost s) {sit tak ser hid ovr hst pia : Int32} {ρ : Nat} (hρ : ρ ≤ 400) {coins chairOf tired hosted owed paid : A1} (hF : RF C G D sit tak ser hid (nI ρ) ovr hst pia coins chairOf tired hosted owed paid s) {tc ts ht : Int32} (hL : lastT tc ts ht) (t1 t2 t3 t4 t5 t6 t7 t8 : Int32) (u1 u2 u3 u4 u5 u6 : A1) (th hi : Int32) (bf : A1) (x : Int32) :
    ∃ (r tc' : Int32) (t1' t2' t3' t4' t5' t6' t7' t8' : Int32) (u1' u2' u3' u4' u5' u6' : A1) (hi' ts' ht' : Int32) (bf' : A1), fX11_push (nI C) (nI G) (nI D) pride speed payer cost sit tak ser hid (nI ρ) ovr hst pia coins chairOf tired hosted owed paid tc t1 t2 t3 t4 t5 t6 t7 t8 u1 u2 u3 u4 u5 u6 x = some (r, tc', t1', t2', t3', t4', t5', t6', t7', t8', u1', u2', u3', u4', u5', u6') ∧ fX12_push th hi ts ht s bf x = some (r, 0, hi', ts', ht', s, bf') ∧ lastT tc' ts' ht' := by
  obtain ⟨⟨hC2, hC9, hG, hGC, hD⟩, ⟨e0, e1, e2⟩, -, -⟩ := id hH
  have e63 : s 63 = sit := hF.1.1.2.2.2.2.2
  rcases guest_is hH x with ⟨g, hg, rfl, h1, h2⟩ | ⟨h1, h2⟩
  · by_cases hb : bt sit g = true
    · refine ⟨-1, tc, t1, t2, t3, t4, t5, t6, t7, t8, u1, u2, u3, u4, u5, u6, hi, ts, ht, bf, ?_, ?_, hL⟩
      · simp only [fX11_push, h1, bind_eq, if_neg (show ¬ (1 : Int32) = 0 by decide), seated_eq (show g < 31 by omega), if_pos hb]
      · simp only [fX12_push, h2, bind_eq, if_neg (show ¬ (1 : Int32) = 0 by decide), doesSit_eq (show g < 31 by omega), e63, if_pos hb]
    · have hb' := Bool.eq_false_iff.mpr hb
      obtain ⟨bf', b1, b2⟩ := tries_eq s bf
      obtain ⟨ob, hi', z1, z2⟩ := pushM hH hρ hF hg hb' b2 ts ht (2 ^ G) 0 5000 (by omega) (by have := (two_pow_all G (by omega)).2; omega) hi none (fun S h => absurd h (by omega))
      have z2' : lX12_push_31 5000 0 hi ts ht s bf' (nI g) (-1) 0 = _ := z2
      obtain ⟨ob2, t1', t2', t3', t4', t5', t6', t7', t8', u1', u2', u3', u4', u5', u6', y1, y2⟩ := pushC_out hH hρ hF hg hb' b2 tc G 0 5000 (by omega) (by omega) (fun _ _ _ => Nat.zero_le _) t1 t2 t3 t4 t5 t6 t7 t8 u1 u2 u3 u4 u5 u6
      have eo : ob2 = ob := y1.uniq z1
      subst eo
      have y2' : lX9_fewestPushed_14 (nI C) (nI G) (nI D) pride speed payer cost sit tak ser hid (nI ρ) ovr hst pia coins chairOf tired hosted owed paid 5000 tc t1 t2 t3 t4 t5 t6 t7 t8 u1 u2 u3 u4 u5 u6 (nI g) (sit ||| (1 <<< (nI g &&& 31))) 0 = _ := y2
      cases ob2 with
      | none =>
        refine ⟨-1, tc, t1', t2', t3', t4', t5', t6', t7', t8', u1', u2', u3', u4', u5', u6', hi', ts, ht, bf', ?_, ?_, hL⟩
        · simp only [fX11_push, h1, bind_eq, if_neg (show ¬ (1 : Int32) = 0 by decide), seated_eq (show g < 31 by omega), if_neg hb, if_true, fX9_fewestPushed, nmv_eq, y2']
        · simp only [fX12_push, h2, bind_eq, if_neg (show ¬ (1 : Int32) = 0 by decide), doesSit_eq (show g < 31 by omega), e63, if_neg hb, if_true, b1, z2']
      | some B =>
        refine ⟨nI (pop (nI B)), nI B, t1', t2', t3', t4', t5', t6', t7', t8', u1', u2', u3', u4', u5', u6', hi', nI B, 1, bf', ?_, ?_, Or.inr ⟨rfl, rfl⟩⟩
        · simp only [fX11_push, h1, bind_eq, if_neg (show ¬ (1 : Int32) = 0 by decide), seated_eq (show g < 31 by omega), if_neg hb, if_true, fX9_fewestPushed, nmv_eq, y2']
        · simp only [fX12_push, h2, bind_eq, if_neg (show ¬ (1 : Int32) = 0 by decide), doesSit_eq (show g < 31 by omega), e63, if_neg hb, if_true, b1, z2']
  · refine ⟨-1, tc, t1, t2, t3, t4, t5, t6, t7, t8, u1, u2, u3, u4, u5, u6, hi, ts, ht, bf, ?_, ?_, hL⟩
    · simp only [fX11_push, h1, bind_eq, if_true]
    · simp only [fX12_push, h2, bind_eq, if_true]
