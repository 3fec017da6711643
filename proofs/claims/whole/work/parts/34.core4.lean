/-! ===== pure: one sits, in the reference; both side by side ===== -/
def sOv (s : A1) (w q : Nat) (c : Int32) : A1 := upd (upd (upd (upd (upd (upd (upd (upd s (49 + q) (s (49 + q) - part (s (49 + q)) c)) (85 + q) (s (85 + q) + part (s (49 + q)) c)) (78 + q) (owes (s (78 + q)) c (part (s (49 + q)) c))) (71 + w) (s (71 + w) + 1)) 48 (nI w + 1)) 46 (s 46 + 1)) 45 0) 63 0
theorem sits212 : ∀ m j n (s : A1), j + m = 7 → m < n → lX12_sits_212 n s (nI j) = some (1, zf s (64 + j) 71) := by
  intro m
  induction m with
  | zero =>
    intro j n s hj hn
    obtain ⟨n, rfl⟩ : ∃ k, n = k + 1 := ⟨n - 1, by omega⟩
    have e : j = 7 := by omega
    subst e
    rw [lX12_sits_212, if_pos (by decide)]
    have e2 : zf s (64 + 7) 71 = s := funext fun i => by unfold zf; rw [if_neg (by omega)]
    rw [e2]
  | succ m ih =>
    intro j n s hj hn
    obtain ⟨n, rfl⟩ : ∃ k, n = k + 1 := ⟨n - 1, by omega⟩
    rw [lX12_sits_212, if_neg (show ¬ (7 : Int32) ≤ nI j from nI_ge (b := 7) (by omega) (by omega)), c64, gI_oka (by omega) (by omega), ixa (by omega), nmv_eq, nI_1, ih (j + 1) n _ (by omega) (by omega)]
    rw [show 64 + (j + 1) = (64 + j) + 1 by omega, zf_step (by omega)]
theorem sits46_go {k : A1 → Int32 → Option (Int32 × A1)} {s : A1} {x : Int32} {w : Nat} (hw : w < 31) (h0 : ∀ i, i < w → bt x i = false) (h1 : bt x w = true) : ∀ m j n, j + m = w → m < n → lX12_sits_46 k n s x (nI j) = lX12_sits_46 k 1 s x (nI w) := by
  intro m
  induction m with
  | zero =>
    intro j n hj hn
    obtain ⟨n, rfl⟩ : ∃ k, n = k + 1 := ⟨n - 1, by omega⟩
    have e : j = w := by omega
    subst e
    rw [lX12_sits_46, lX12_sits_46, bitOf_eq hw, bind_eq, bind_eq, if_pos h1, if_neg (by decide), if_neg (by decide)]
  | succ m ih =>
    intro j n hj hn
    obtain ⟨n, rfl⟩ : ∃ k, n = k + 1 := ⟨n - 1, by omega⟩
    have hb : ¬ bt x j = true := by rw [h0 j (by omega)]; decide
    rw [← ih (j + 1) n (by omega) (by omega), lX12_sits_46, bitOf_eq (by omega), bind_eq, if_neg hb, if_pos rfl, nI_1]
theorem sits46_at {k : A1 → Int32 → Option (Int32 × A1)} {s : A1} {x : Int32} {w q : Nat} {c : Int32} (hw : w < 7) (hq : q < 7) (h1 : bt x w = true) (hp : fX12_payerOf s (nI w) = some (nI q)) (hc : fX12_costOf s (s 45) = some c) : lX12_sits_46 k 1 s x (nI w) = k (sOv s w q c) 0 := by
  rw [lX12_sits_46, bitOf_eq (by omega), bind_eq, if_pos h1, if_neg (by decide)]
  simp only [hp, hc, bind_eq, c49, c85, c78, c71, gI_oka (show 49 + q < 273 by omega) (show 273 ≤ 1000 by omega), gI_oka (show 85 + q < 273 by omega) (show 273 ≤ 1000 by omega), gI_oka (show 78 + q < 273 by omega) (show 273 ≤ 1000 by omega), gI_oka (show 71 + w < 273 by omega) (show 273 ≤ 1000 by omega), ixa (show 49 + q < 1000 by omega), ixa (show 85 + q < 1000 by omega), ixa (show 78 + q < 1000 by omega), ixa (show 71 + w < 1000 by omega), nmv_eq, lesser_eq]
  simp only [pk_un (show 85 + q ≠ 49 + q by omega), pk_un (show 78 + q ≠ 85 + q by omega), pk_un (show 78 + q ≠ 49 + q by omega), pk_un (show 71 + w ≠ 78 + q by omega), pk_un (show 71 + w ≠ 85 + q by omega), pk_un (show 71 + w ≠ 49 + q by omega), pk_un (show (46 : Nat) ≠ 48 by omega), pk_un (show 46 ≠ 71 + w by omega), pk_un (show 46 ≠ 78 + q by omega), pk_un (show 46 ≠ 85 + q by omega), pk_un (show 46 ≠ 49 + q by omega)]
  rfl
/-- the reference's row when one has sat down by whom no feast is over -/
theorem sits_eq {C G D : Nat} {pride speed payer cost s : A1} (hH : RH C G D pride speed payer cost s) {g : Nat} (hg : g < G) (hs : sm G (s 63)) :
    let sit1 := s 63 ||| (1 <<< (nI g &&& 31))
    (pop sit1 + 1 ≠ G → fX12_sits s (nI g) = some (0, upd s 63 sit1)) ∧
    (∀ w q, pop sit1 + 1 = G → w < G → q < G → payer w = nI q → (∀ i, i < G → bt sit1 i = !decide (i = w)) → fX12_sits s (nI g) = some (1, zf (sOv (upd s 63 sit1) w q (csum (s 45) cost D)) 64 71)) := by
  intro sit1
  have hH1 : RH C G D pride speed payer cost (upd s 63 sit1) := hH.congr (fun i hi => pk_un (by omega))
  obtain ⟨⟨-, -, hG, -, hD⟩, ⟨-, e1, -⟩, -, -⟩ := id hH
  have hs1 : sm G sit1 := sm_set hs hg (by omega)
  obtain ⟨S, hS, eS⟩ := sm_nat (by omega) hs1
  obtain ⟨hl, hl2, hl3⟩ := left_all G hG S hS
  rw [← eS] at hl hl2 hl3
  have hsml : sm 10 (lefts G sit1) := by
    rw [hl3]
    have : 2 ^ G ≤ 2 ^ 10 := Nat.pow_le_pow_right (by decide) (by omega)
    exact sm_nI (by omega)
  have hdef : fX12_sits s (nI g) = if nI (pop (lefts G sit1)) = 1 then lX12_sits_46 (lX12_sits_212 5000) 5000 (upd s 63 sit1) (lefts G sit1) 0 else some (0, upd s 63 sit1) := by
    unfold fX12_sits
    simp only [nmv_eq]
    rw [show (upd s 63 (s 63 ||| (1 <<< (nI g &&& 31)))) 1 = nI G by rw [pk_un (by omega), e1], pk_us]
    show (fX12_bits (lefts G sit1)).bind _ = _
    rw [bits_eq hsml, bind_eq]
    rfl
  have hone : nI (pop (lefts G sit1)) = 1 ↔ pop sit1 + 1 = G := by
    rw [show (1 : Int32) = nI 1 from rfl, nI_eq (by omega) (by omega)]
    omega
  refine ⟨fun h => ?_, fun w q h hw hq hp hb => ?_⟩
  · rw [hdef, if_neg (fun e => h (hone.mp e))]
  · rw [hdef, if_pos (hone.mpr h)]
    have h0 : ∀ i, i < w → bt (lefts G sit1) i = false := by
      intro i hi
      rw [hl2 i (by omega), hb i (by omega)]
      have : ¬ i = w := by omega
      simp [this]
    have h1 : bt (lefts G sit1) w = true := by
      rw [hl2 w (by omega), hb w hw]
      simp [hw]
    have h4 := sits46_go (k := lX12_sits_212 5000) (s := upd s 63 sit1) (show w < 31 by omega) h0 h1 w 0 5000 (by omega) (by omega)
    rw [show (0 : Int32) = nI 0 from rfl, h4]
    have hc : fX12_costOf (upd s 63 sit1) ((upd s 63 sit1) 45) = some (csum (s 45) cost D) := by
      rw [costM hD hH1.2.1.2.2, pk_un (show (45 : Nat) ≠ 63 by omega)]
      exact congrArg some (csum_congr (fun i hi => (hH1.2.2.2 i hi).1))
    rw [sits46_at (q := q) (by omega) (by omega) h1 (by rw [payerM hH1 hw, hp]) hc]
    exact sits212 7 0 5000 _ (by omega) (by omega)
