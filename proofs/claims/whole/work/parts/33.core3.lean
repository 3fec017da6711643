/-! ===== pure: costs, paying, the end of a feast ===== -/
def csum (x : Int32) (f : A1) : Nat → Int32
  | 0 => 0
  | n + 1 => csum x f n + if bt x n = true then f n else 0
theorem csum_congr {x : Int32} {f g : A1} : ∀ {n : Nat}, (∀ i, i < n → f i = g i) → csum x f n = csum x g n
  | 0, _ => rfl
  | n + 1, h => by
    unfold csum
    rw [csum_congr (fun i hi => h i (by omega)), h n (by omega)]
theorem csum_nat {x : Int32} {f : A1} : ∀ {n : Nat}, (∀ i, i < n → ∃ k, 1 ≤ k ∧ k ≤ 99 ∧ f i = nI k) → ∃ k, k ≤ 99 * n ∧ csum x f n = nI k
  | 0, _ => ⟨0, by omega, rfl⟩
  | n + 1, h => by
    obtain ⟨k, hk, e⟩ := csum_nat (n := n) (x := x) (fun i hi => h i (by omega))
    obtain ⟨c, -, hc, e2⟩ := h n (by omega)
    unfold csum
    by_cases hb : bt x n = true
    · exact ⟨k + c, by omega, by rw [if_pos hb, e, e2, nI_add]⟩
    · exact ⟨k, by omega, by rw [if_neg hb, e]; exact Int32.add_zero _⟩
theorem costC_loop {D : Nat} (hD : D ≤ 6) (cost : A1) (x : Int32) : ∀ m j n, j + m = D → m < n → lX2_costOf_4 (nI D) cost n x (csum x cost j) (nI j) = some (csum x cost D) := by
  intro m
  induction m with
  | zero =>
    intro j n hj hn
    obtain ⟨n, rfl⟩ : ∃ k, n = k + 1 := ⟨n - 1, by omega⟩
    have e : j = D := by omega
    subst e
    rw [lX2_costOf_4, if_pos (nI_le (Nat.le_refl _) (by omega))]
  | succ m ih =>
    intro j n hj hn
    obtain ⟨n, rfl⟩ : ∃ k, n = k + 1 := ⟨n - 1, by omega⟩
    have h := ih (j + 1) n (by omega) (by omega)
    rw [csum] at h
    rw [lX2_costOf_4, if_neg (nI_ge (by omega) (by omega))]
    by_cases hb : bt x j = true
    · rw [if_pos ((bit_iff (by omega)).mpr hb), gI_ok (by omega) (by omega), ix0 (by omega), nmv_eq, nI_1]
      rw [if_pos hb] at h
      exact h
    · rw [if_neg (fun e => hb ((bit_iff (by omega)).mp e)), nI_1]
      rw [if_neg hb, Int32.add_zero] at h
      exact h
theorem costC {D : Nat} (hD : D ≤ 6) (cost : A1) (x : Int32) : fX2_costOf (nI D) cost x = some (csum x cost D) := by
  unfold fX2_costOf
  exact costC_loop hD cost x D 0 5000 (by omega) (by omega)
theorem costM_loop {D : Nat} (hD : D ≤ 6) {s : A1} (h2 : s 2 = nI D) (x : Int32) : ∀ m j n, j + m = D → m < n → lX12_costOf_4 s n x (csum x (fun d => s (31 + d)) j) (nI j) = some (csum x (fun d => s (31 + d)) D) := by
  intro m
  induction m with
  | zero =>
    intro j n hj hn
    obtain ⟨n, rfl⟩ : ∃ k, n = k + 1 := ⟨n - 1, by omega⟩
    have e : j = D := by omega
    subst e
    rw [lX12_costOf_4, if_pos (by rw [h2]; exact nI_le (Nat.le_refl _) (by omega))]
  | succ m ih =>
    intro j n hj hn
    obtain ⟨n, rfl⟩ : ∃ k, n = k + 1 := ⟨n - 1, by omega⟩
    have h := ih (j + 1) n (by omega) (by omega)
    rw [csum] at h
    rw [lX12_costOf_4, if_neg (by rw [h2]; exact nI_ge (by omega) (by omega)), bitOf_eq (by omega), bind_eq]
    by_cases hb : bt x j = true
    · rw [if_pos hb, if_neg (by decide), c31, gI_oka (by omega) (by omega), ixa (by omega), nmv_eq, nI_1]
      rw [if_pos hb] at h
      exact h
    · rw [if_neg hb, if_pos rfl, nI_1]
      rw [if_neg hb] at h
      exact h
theorem costM {D : Nat} (hD : D ≤ 6) {s : A1} (h2 : s 2 = nI D) (x : Int32) : fX12_costOf s x = some (csum x (fun d => s (31 + d)) D) := by
  unfold fX12_costOf
  exact costM_loop hD h2 x D 0 5000 (by omega) (by omega)
theorem payerM {C G D : Nat} {pride speed payer cost s : A1} (h : RH C G D pride speed payer cost s) {g : Nat} (hg : g < G) : fX12_payerOf s (nI g) = some (payer g) := by
  obtain ⟨⟨-, -, hG, -, -⟩, -, h3, -⟩ := h
  obtain ⟨-, -, -, -, q, hq, e, h4⟩ := h3 g hg
  unfold fX12_payerOf
  rw [c37, gI_oka (by omega) (by omega), ixa (by omega)]
  rcases h4 with ⟨h4, rfl⟩ | h4
  · rw [h4, if_pos (by decide), e]
  · rw [h4, if_neg (nI_nle (by omega) (by omega)), gI_oka (by omega) (by omega), nI_pred, e]
/-- what is paid of a cost -/
def part (a c : Int32) : Int32 := if a < c then a else c
def owes (o c p : Int32) : Int32 := if o + c - p < 99999 then o + c - p else 99999
theorem lesser_eq (a b : Int32) : fX12_lesser a b = some (if b < a then b else a) := by
  unfold fX12_lesser
  by_cases h : b < a
  · rw [if_pos (fa_of_lt h).1, if_pos h]
  · by_cases h2 : b ≤ a
    · have e : a = b := by
        rw [fa_eq]
        rw [fa_lt] at h
        rw [fa_le] at h2
        omega
      rw [if_pos h2, if_neg h, e]
    · rw [if_neg h2, if_neg h]
theorem settleB_eq {pia : Int32} {coins owed paid : A1} {q : Nat} (hq : q < 7) (c y : Int32) : bX1_settle_20 pia coins owed paid (nI q) c y = some (pia + y, upd coins q (coins q - y), upd owed q (owes (owed q) c y), upd paid q (paid q + y)) := by
  unfold bX1_settle_20
  simp only [gI_ok (show q < 7 from hq) (show 7 ≤ 1000 by omega), ix0 (show q < 1000 by omega), nmv_eq]
  unfold owes
  by_cases h : owed q + c - y < 99999
  · rw [if_pos h, if_neg (fun h2 => by rw [fa_lt] at h; rw [fa_le] at h2; omega)]
  · rw [if_neg h, if_pos (by rw [fa_lt] at h; rw [fa_le]; omega)]
theorem settle_eq {pia : Int32} {coins owed paid : A1} {q : Nat} (hq : q < 7) (c : Int32) : fX1_settle pia coins owed paid (nI q) c = some (pia + part (coins q) c, upd coins q (coins q - part (coins q) c), upd owed q (owes (owed q) c (part (coins q) c)), upd paid q (paid q + part (coins q) c)) := by
  unfold fX1_settle
  simp only [gI_ok (show q < 7 from hq) (show 7 ≤ 1000 by omega), ix0 (show q < 1000 by omega), settleB_eq hq]
  unfold part
  by_cases h : coins q ≤ c
  · rw [if_pos h]
    by_cases h2 : coins q < c
    · rw [if_pos h2]
    · have e : coins q = c := by
        rw [fa_eq]
        rw [fa_lt] at h2
        rw [fa_le] at h
        omega
      rw [if_neg h2, e]
  · rw [if_neg h, if_neg (fun h2 => h (fa_of_lt h2).1)]
/-- rows [j, G) at 0 -/
def zf (f : A1) (j G : Nat) : A1 := fun i => if j ≤ i ∧ i < G then 0 else f i
theorem zf_step {f : A1} {j G : Nat} (h : j < G) : zf (upd f j 0) (j + 1) G = zf f j G := by
  funext i
  unfold zf
  by_cases e : i = j
  · subst e
    rw [if_neg (by omega), pk_us, if_pos (by omega)]
  · rw [pk_un e]
    by_cases h1 : j ≤ i ∧ i < G
    · rw [if_pos h1, if_pos (by omega)]
    · rw [if_neg h1, if_neg (by omega)]
theorem endF2 {G : Nat} (hG : G ≤ 7) (ds : Int32) (payer cost : A1) (sit tak ser ovr hst pia : Int32) (coins hosted owed paid : A1) (c : Int32) : ∀ m j n (tired : A1), j + m = G → m < n → (∀ g, j ≤ g → g < G → bt sit g = true) → lX1_endFeast_14 (nI G) ds payer cost n sit tak ser ovr hst pia coins tired hosted owed paid c (nI j) = some (0, 0, 0, ovr + 1, hst, pia, coins, zf tired j G, hosted, owed, paid) := by
  intro m
  induction m with
  | zero =>
    intro j n tired hj hn h0
    obtain ⟨n, rfl⟩ : ∃ k, n = k + 1 := ⟨n - 1, by omega⟩
    have e : j = G := by omega
    subst e
    rw [lX1_endFeast_14, if_pos (nI_le (Nat.le_refl _) (by omega))]
    have e2 : zf tired j j = tired := funext fun i => by unfold zf; rw [if_neg (by omega)]
    rw [e2]
  | succ m ih =>
    intro j n tired hj hn h0
    obtain ⟨n, rfl⟩ : ∃ k, n = k + 1 := ⟨n - 1, by omega⟩
    rw [lX1_endFeast_14, if_neg (nI_ge (by omega) (by omega)), seated_eq (by omega), bind_eq, if_pos (h0 j (by omega) (by omega)), if_neg (by decide), gI_ok (by omega) (by omega), ix0 (by omega), nmv_eq, nI_1, ih (j + 1) n _ (by omega) (by omega) (fun g h1 h2 => h0 g (by omega) h2), zf_step (by omega)]
theorem endF1 {G w q : Nat} (hG : G ≤ 7) (hw : w < G) (hq : q < 7) (ds : Int32) (payer cost : A1) (hp : payer w = nI q) (sit tak ser ovr hst pia : Int32) (coins hosted owed paid : A1) (c : Int32) : ∀ m j n (tired : A1), j + m = w → m + 10 < n → (∀ g, j ≤ g → g < G → bt sit g = !decide (g = w)) → lX1_endFeast_14 (nI G) ds payer cost n sit tak ser ovr hst pia coins tired hosted owed paid c (nI j) = some (0, 0, 0, ovr + 1, nI w, pia + part (coins q) c, upd coins q (coins q - part (coins q) c), zf tired j G, upd hosted w (hosted w + 1), upd owed q (owes (owed q) c (part (coins q) c)), upd paid q (paid q + part (coins q) c)) := by
  intro m
  induction m with
  | zero =>
    intro j n tired hj hn h0
    obtain ⟨n, rfl⟩ : ∃ k, n = k + 1 := ⟨n - 1, by omega⟩
    have e : j = w := by omega
    subst e
    have hb : ¬ bt sit j = true := by rw [h0 j (Nat.le_refl j) hw]; simp
    rw [lX1_endFeast_14, if_neg (nI_ge (by omega) (by omega)), seated_eq (by omega), bind_eq, if_neg hb, if_pos rfl]
    simp only [gI_ok (show j < 7 by omega) (show 7 ≤ 1000 by omega), ix0 (show j < 1000 by omega), nmv_eq, hp, settle_eq hq, bind_eq, nI_1]
    rw [endF2 hG ds payer cost sit tak ser ovr (nI j) _ _ _ _ _ c (G - (j + 1)) (j + 1) n _ (by omega) (by omega) (fun g h1 h2 => by rw [h0 g (by omega) h2]; simp; omega), zf_step (by omega)]
  | succ m ih =>
    intro j n tired hj hn h0
    obtain ⟨n, rfl⟩ : ∃ k, n = k + 1 := ⟨n - 1, by omega⟩
    have hb : bt sit j = true := by rw [h0 j (Nat.le_refl j) (by omega)]; simp; omega
    rw [lX1_endFeast_14, if_neg (nI_ge (by omega) (by omega)), seated_eq (by omega), bind_eq, if_pos hb, if_neg (by decide), gI_ok (by omega) (by omega), ix0 (by omega), nmv_eq, nI_1, ih (j + 1) n _ (by omega) (by omega) (fun g h1 h2 => h0 g (by omega) h2), zf_step (by omega)]
theorem sitDown_eq {C G D : Nat} {pride speed payer cost s : A1} (hH : RH C G D pride speed payer cost s) {sit tak ser ovr hst pia : Int32} {coins chairOf tired hosted owed paid : A1} {g c : Nat} (hg : g < G) (hs : sm G sit) (hc : chairOf g = nI c) :
    let sit1 := sit ||| (1 <<< (nI g &&& 31))
    let tak1 := tak ||| (1 <<< (nI c &&& 31))
    (pop sit1 + 1 ≠ G ∧ fX1_sitDown (nI G) (nI D) payer cost chairOf sit tak ser ovr hst pia coins tired hosted owed paid (nI g) = some (sit1, tak1, ser, ovr, hst, pia, coins, tired, hosted, owed, paid)) ∨
    (pop sit1 + 1 = G ∧ ∃ w q, w < G ∧ q < G ∧ payer w = nI q ∧ (∀ i, i < G → bt sit1 i = !decide (i = w)) ∧ fX1_sitDown (nI G) (nI D) payer cost chairOf sit tak ser ovr hst pia coins tired hosted owed paid (nI g) = some (0, 0, 0, ovr + 1, nI w, pia + part (coins q) (csum ser cost D), upd coins q (coins q - part (coins q) (csum ser cost D)), zf tired 0 G, upd hosted w (hosted w + 1), upd owed q (owes (owed q) (csum ser cost D) (part (coins q) (csum ser cost D))), upd paid q (paid q + part (coins q) (csum ser cost D)))) := by
  intro sit1 tak1
  obtain ⟨⟨-, -, hG, -, hD⟩, -, h3, -⟩ := hH
  have hs1 : sm G sit1 := sm_set hs hg (by omega)
  obtain ⟨S, hS, eS⟩ := sm_nat (by omega) hs1
  have hl := (left_all G hG S hS).1
  have hsub : nI G - nI (pop sit1) = 1 ↔ pop sit1 + 1 = G := by
    rw [eS]
    have h5 : pop (nI S) ≤ G := by omega
    rw [pk_sub h5, show (1 : Int32) = nI 1 from rfl, nI_eq (by omega) (by omega)]
    omega
  have hdef : fX1_sitDown (nI G) (nI D) payer cost chairOf sit tak ser ovr hst pia coins tired hosted owed paid (nI g) = if nI G - nI (pop sit1) = 1 then (fX1_endFeast (nI G) (nI D) payer cost sit1 tak1 ser ovr hst pia coins tired hosted owed paid) else some (sit1, tak1, ser, ovr, hst, pia, coins, tired, hosted, owed, paid) := by
    unfold fX1_sitDown
    simp only [nmv_eq, gI_ok (show g < 7 by omega) (show 7 ≤ 1000 by omega), ix0 (show g < 1000 by omega), hc]
    rw [bitCount_eq (sm_up hs1 (by omega)), bind_eq]
    by_cases h : nI G - nI (pop sit1) = 1
    · rw [if_pos h, if_pos h]
      cases fX1_endFeast (nI G) (nI D) payer cost sit1 tak1 ser ovr hst pia coins tired hosted owed paid <;> rfl
    · rw [if_neg h, if_neg h]
  by_cases h : pop sit1 + 1 = G
  · right
    have h6 : pop (nI S) + 1 = G := by rw [← eS]; exact h
    obtain ⟨hw, hb⟩ := one_all G hG S hS h6
    rw [← eS] at hw hb
    generalize fa_first (fun g => !bt sit1 g) G = w at hw hb
    obtain ⟨-, -, -, -, q, hq, ep, -⟩ := h3 w hw
    refine ⟨h, w, q, hw, hq, ep, hb, ?_⟩
    rw [hdef, if_pos (hsub.mpr h)]
    unfold fX1_endFeast
    rw [costC hD, bind_eq]
    exact endF1 hG hw (by omega) (nI D) payer cost ep sit1 tak1 ser ovr hst pia coins hosted owed paid _ w 0 5000 tired (by omega) (by omega) (fun i _ hi => hb i hi)
  · left
    refine ⟨h, ?_⟩
    rw [hdef, if_neg (fun e => h (hsub.mp e))]
