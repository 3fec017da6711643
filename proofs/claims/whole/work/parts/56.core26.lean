/-! ===== pure: a run of letters and digits ===== -/
theorem byte_all : ∀ x, x < 256 → ((Int8.ofNat x).toInt32 &&& 255) = nI x ∧ (x < 128 → (Int8.ofNat x).toInt32 = nI x) ∧ (128 ≤ x → (Int8.ofNat x).toInt32 < 0) := by decide +kernel
theorem int8_nat (b : Int8) : ∃ x, x < 256 ∧ b = Int8.ofNat x := ⟨b.toBitVec.toNat, b.toBitVec.isLt, Int8.toBitVec_inj.mp (by show _ = BitVec.ofNat 8 _; simp)⟩
theorem byte_eq {B : A1} {i : Nat} (h : ∃ b : Int8, B i = b.toInt32) : (oc B i < 128 ∧ B i = nI (oc B i)) ∨ (128 ≤ oc B i ∧ B i < 0) := by
  obtain ⟨b, hb⟩ := h
  obtain ⟨x, hx, rfl⟩ := int8_nat b
  obtain ⟨h1, h2, h3⟩ := byte_all x hx
  have e := (oc_eq B i).1
  rw [hb, h1] at e
  have e2 : x = oc B i := (nI_eq (by omega) (by have := (oc_eq B i).2; omega)).mp e
  rw [← e2, hb]
  by_cases h : x < 128
  · exact Or.inl ⟨h, h2 h⟩
  · exact Or.inr ⟨by omega, h3 (by omega)⟩
theorem peek_in {n b : Nat} {B tp : A1} (hb : b < n) (hn : n ≤ 940) (h : ∀ i, i < 940 → tp i = B i) : fX12_peek (nI n) (nI b) tp = some (nI (oc B b)) := by
  unfold fX12_peek
  rw [if_neg (nI_ge hb (by omega)), gI_ok (by omega) (by omega), ix0 (by omega), h b (by omega), (oc_eq B b).1]
theorem peek_out {n b : Nat} {tp : A1} (hb : n ≤ b) (hn : b ≤ 940) : fX12_peek (nI n) (nI b) tp = some (-1) := by
  unfold fX12_peek
  rw [if_pos (nI_le hb (by omega))]
theorem small_eq {c : Nat} (hc : c < 256) : fX12_isSmall (nI c) = some (if 97 ≤ c ∧ c ≤ 122 then 1 else 0) := by
  unfold fX12_isSmall
  by_cases h : c < 97
  · rw [if_pos (show nI c < 97 from nI_lt (b := 97) h (by omega)), if_neg (by omega)]
  · rw [if_neg (show ¬ nI c < 97 from nI_nlt (b := 97) (by omega) (by omega))]
    by_cases h2 : 122 < c
    · rw [if_pos (show (122 : Int32) < nI c from nI_lt (a := 122) h2 (by omega)), if_neg (by omega)]
    · rw [if_neg (show ¬ (122 : Int32) < nI c from nI_nlt (a := 122) (by omega) (by omega)), if_pos (by omega)]
theorem digit_eq {c : Nat} (hc : c < 256) : fX12_isDigit (nI c) = some (if 48 ≤ c ∧ c ≤ 57 then 1 else 0) := by
  unfold fX12_isDigit
  by_cases h : c < 48
  · rw [if_pos (show nI c < 48 from nI_lt (b := 48) h (by omega)), if_neg (by omega)]
  · rw [if_neg (show ¬ nI c < 48 from nI_nlt (b := 48) (by omega) (by omega))]
    by_cases h2 : 57 < c
    · rw [if_pos (show (57 : Int32) < nI c from nI_lt (a := 57) h2 (by omega)), if_neg (by omega)]
    · rw [if_neg (show ¬ (57 : Int32) < nI c from nI_nlt (a := 57) (by omega) (by omega)), if_pos (by omega)]
def isAl (c : Nat) : Prop := 97 ≤ c ∧ c ≤ 122
def isDg (c : Nat) : Prop := 48 ≤ c ∧ c ≤ 57
abbrev K22 : Type := Int32 → Int32 → Int32 → Int64 → Int32 → Int32 → Option (Int32 × Int32 × Int32 × Int64)
/-- the class: a letter -/
theorem runC_al {n b f : Nat} {B : A1} (hb : b < n) (hn : n ≤ 940) (h8 : ∃ x : Int8, B b = x.toInt32) (hc : isAl (oc B b)) (kk : K22) (kd nb : Int32) (wd : Int64) (L Dg : Int32) :
    lX6_readRun_22 940 (nI n) B kk (f + 1) (nI b) kd nb wd L Dg = lX6_readRun_22 940 (nI n) B kk f (nI (b + 1)) kd nb (wd * 32 + Int32.toInt64 (nI (oc B b) - 96)) (L + 1) Dg := by
  unfold isAl at hc
  rcases byte_eq h8 with ⟨h1, h2⟩ | ⟨h1, -⟩
  · rw [lX6_readRun_22, if_neg (nI_ge hb (by omega)), if_neg (show ¬ Int32.ofNat 940 ≤ nI b from nI_ge (b := 940) (by omega) (by omega)), gI_ok (by omega) (by omega), ix0 (by omega), nmv_eq, h2, if_neg (show ¬ nI (oc B b) < 97 from nI_nlt (b := 97) (by omega) (by omega)), if_neg (show ¬ (122 : Int32) < nI (oc B b) from nI_nlt (a := 122) (by omega) (by omega)), nmv_eq, nI_1]
  · omega
/-- the class: a digit -/
theorem runC_dg {n b f : Nat} {B : A1} (hb : b < n) (hn : n ≤ 940) (h8 : ∃ x : Int8, B b = x.toInt32) (hc : isDg (oc B b)) (kk : K22) (kd nb : Int32) (wd : Int64) (L Dg : Int32) :
    lX6_readRun_22 940 (nI n) B kk (f + 1) (nI b) kd nb wd L Dg = lX6_readRun_22 940 (nI n) B kk f (nI (b + 1)) kd (nb * 10 + (nI (oc B b) - 48)) wd L (Dg + 1) := by
  unfold isDg at hc
  rcases byte_eq h8 with ⟨h1, h2⟩ | ⟨h1, -⟩
  · rw [lX6_readRun_22, if_neg (nI_ge hb (by omega)), if_neg (show ¬ Int32.ofNat 940 ≤ nI b from nI_ge (b := 940) (by omega) (by omega)), gI_ok (by omega) (by omega), ix0 (by omega), nmv_eq, h2, if_pos (show nI (oc B b) < 97 from nI_lt (b := 97) (by omega) (by omega))]
    unfold bX6_readRun_92
    rw [if_neg (show ¬ nI (oc B b) < 48 from nI_nlt (b := 48) (by omega) (by omega)), if_neg (show ¬ (57 : Int32) < nI (oc B b) from nI_nlt (a := 57) (by omega) (by omega)), nmv_eq, nI_1]
  · omega
/-- the class: the run's end -/
theorem runC_end {n b f : Nat} {B : A1} (hn : n ≤ 940) (hbn : b ≤ n) (h8 : ∀ i, i < 940 → ∃ x : Int8, B i = x.toInt32) (hc : b = n ∨ (¬ isAl (oc B b) ∧ ¬ isDg (oc B b))) (kk : K22) (kd nb : Int32) (wd : Int64) (L Dg : Int32) :
    lX6_readRun_22 940 (nI n) B kk (f + 1) (nI b) kd nb wd L Dg = kk (nI b) kd nb wd L Dg := by
  by_cases e : b = n
  · subst e
    rw [lX6_readRun_22, if_pos (nI_le (Nat.le_refl _) (by omega))]
  · have hc2 : ¬ isAl (oc B b) ∧ ¬ isDg (oc B b) := by
      rcases hc with h | h
      · exact absurd h e
      · exact h
    unfold isAl isDg at hc2
    rw [lX6_readRun_22, if_neg (nI_ge (by omega) (by omega)), if_neg (show ¬ Int32.ofNat 940 ≤ nI b from nI_ge (b := 940) (by omega) (by omega)), gI_ok (by omega) (by omega), ix0 (by omega), nmv_eq]
    unfold bX6_readRun_92
    rcases byte_eq (h8 b (by omega)) with ⟨h1, h2⟩ | ⟨h1, h2⟩
    · rw [h2]
      by_cases h3 : oc B b < 97
      · rw [if_pos (show nI (oc B b) < 97 from nI_lt (b := 97) h3 (by omega))]
        by_cases h4 : oc B b < 48
        · rw [if_pos (show nI (oc B b) < 48 from nI_lt (b := 48) h4 (by omega))]
        · rw [if_neg (show ¬ nI (oc B b) < 48 from nI_nlt (b := 48) (by omega) (by omega)), if_pos (show (57 : Int32) < nI (oc B b) from nI_lt (a := 57) (by omega) (by omega))]
      · rw [if_neg (show ¬ nI (oc B b) < 97 from nI_nlt (b := 97) (by omega) (by omega)), if_pos (show (122 : Int32) < nI (oc B b) from nI_lt (a := 122) (by omega) (by omega)), if_neg (show ¬ nI (oc B b) < 48 from nI_nlt (b := 48) (by omega) (by omega)), if_pos (show (57 : Int32) < nI (oc B b) from nI_lt (a := 57) (by omega) (by omega))]
    · rw [if_pos (fa_trans h2 (by decide)), if_pos (fa_trans h2 (by decide))]
abbrev K317 : Type := Int32 → Int32 → Int32 → Int32 → Int32 → Int64 → Int32 → Int32 → Int32 → Option (Int32 × Int32 × Int32 × Int32 × Int32 × Int64)
def sml (c : Nat) : Int32 := if 97 ≤ c ∧ c ≤ 122 then 1 else 0
/-- the reference: a letter or a digit -/
theorem runM_in {n b f : Nat} {B tp : A1} (hb : b < n) (hn : n ≤ 940) (h : ∀ i, i < 940 → tp i = B i) (hc : isAl (oc B b) ∨ isDg (oc B b)) (lim : Int32) (kk : K317) (tk at_ sp nb : Int32) (wd : Int64) (x2 x3 : Int32) :
    lX12_step_181 (nI n) lim tp kk (f + 1) (nI b) tk at_ sp nb wd x2 x3 = lX12_step_181 (nI n) lim tp kk f (nI (b + 1)) tk at_ (sp + 1) (if 3 ≤ sp then nb else 10 * nb + nI (oc B b) - 48) (if 7 ≤ sp then wd else (wd <<< (Int32.toInt64 8 &&& 63)) ||| Int32.toInt64 (nI (oc B b))) x2 (if x3 = 0 then 0 else if sml (oc B b) = x2 then 1 else 0) := by
  have h256 := (oc_eq B b).2
  have hp := peek_in hb hn h
  have go : bX12_step_201 (nI n) lim tp (lX12_step_181 (nI n) lim tp kk f) (nI b) tk at_ sp nb wd x2 x3 = lX12_step_181 (nI n) lim tp kk f (nI (b + 1)) tk at_ (sp + 1) (if 3 ≤ sp then nb else 10 * nb + nI (oc B b) - 48) (if 7 ≤ sp then wd else (wd <<< (Int32.toInt64 8 &&& 63)) ||| Int32.toInt64 (nI (oc B b))) x2 (if x3 = 0 then 0 else if sml (oc B b) = x2 then 1 else 0) := by
    have go2 : ∀ y0 : Int32, bX12_step_221 (nI n) lim tp (lX12_step_181 (nI n) lim tp kk f) (nI b) tk at_ sp nb wd x2 y0 = lX12_step_181 (nI n) lim tp kk f (nI (b + 1)) tk at_ (sp + 1) (if 3 ≤ sp then nb else 10 * nb + nI (oc B b) - 48) (if 7 ≤ sp then wd else (wd <<< (Int32.toInt64 8 &&& 63)) ||| Int32.toInt64 (nI (oc B b))) x2 y0 := by
      intro y0
      unfold bX12_step_221 bX12_step_248 bX12_step_275
      simp only [hp, bind_eq, nmv_eq, nI_1]
      by_cases h7 : 7 ≤ sp
      · rw [if_pos h7, if_pos h7]
        by_cases h3 : 3 ≤ sp
        · rw [if_pos h3, if_pos h3]
        · rw [if_neg h3, if_neg h3]
      · rw [if_neg h7, if_neg h7]
        by_cases h3 : 3 ≤ sp
        · rw [if_pos h3, if_pos h3]
        · rw [if_neg h3, if_neg h3]
    unfold bX12_step_201
    rw [hp, bind_eq, small_eq h256, bind_eq]
    by_cases h0 : x3 = 0
    · rw [if_pos h0, if_pos h0]
      exact go2 0
    · rw [if_neg h0, if_neg h0]
      show (if sml (oc B b) = x2 then _ else _) = _
      by_cases h1 : sml (oc B b) = x2
      · rw [if_pos h1, if_pos h1]
        exact go2 1
      · rw [if_neg h1, if_neg h1]
        exact go2 0
  rw [lX12_step_181, hp, bind_eq, small_eq h256, bind_eq, bind_eq, digit_eq h256, bind_eq]
  by_cases h1 : 97 ≤ oc B b ∧ oc B b ≤ 122
  · rw [if_pos h1, if_neg nn1]
    exact go
  · have h2 : 48 ≤ oc B b ∧ oc B b ≤ 57 := by
      rcases hc with hc | hc
      · exact absurd hc h1
      · exact hc
    rw [if_neg h1, if_pos rfl, if_pos h2, if_neg nn1]
    exact go
/-- the reference: the run's end -/
theorem runM_end {n b f : Nat} {B tp : A1} (hn : n ≤ 940) (hbn : b ≤ n) (h : ∀ i, i < 940 → tp i = B i) (hc : b = n ∨ (¬ isAl (oc B b) ∧ ¬ isDg (oc B b))) (lim : Int32) (kk : K317) (tk at_ sp nb : Int32) (wd : Int64) (x2 x3 : Int32) :
    lX12_step_181 (nI n) lim tp kk (f + 1) (nI b) tk at_ sp nb wd x2 x3 = if x3 = 0 then some (nI b, 4, at_, sp, nb, wd) else if x2 = 0 then kk (nI b) tk at_ sp nb wd x2 sp 3 else kk (nI b) tk at_ sp nb wd x2 sp 7 := by
  by_cases e : b = n
  · subst e
    rw [lX12_step_181, peek_out (Nat.le_refl _) hn, bind_eq, show fX12_isSmall (-1) = some 0 from rfl, bind_eq, if_pos rfl, bind_eq, show fX12_isDigit (-1) = some 0 from rfl, bind_eq, if_pos rfl]
  · have hc2 : ¬ isAl (oc B b) ∧ ¬ isDg (oc B b) := by
      rcases hc with h | h
      · exact absurd h e
      · exact h
    unfold isAl isDg at hc2
    rw [lX12_step_181, peek_in (by omega) hn h, bind_eq, small_eq (oc_eq B b).2, bind_eq, if_neg hc2.1, if_pos rfl, bind_eq, digit_eq (oc_eq B b).2, bind_eq, if_neg hc2.2, if_pos rfl]
/-- what a run has come to -/
def RunI (j : Nat) (nb : Int32) (wd : Int64) (L Dg sp nb2 : Int32) (wd2 : Int64) (x2 x3 : Int32) : Prop :=
  sp = nI j ∧ ((x2 = 1 ∧ x3 = 1 ∧ L = nI j ∧ Dg = 0 ∧ (j ≤ 7 → ∃ r, r.length = j ∧ LT r ∧ wd = w5 r ∧ wd2 = w8 r)) ∨
    (x2 = 0 ∧ x3 = 1 ∧ L = 0 ∧ Dg = nI j ∧ (j ≤ 3 → ∃ v, v < 10 ^ j ∧ nb = nI v ∧ nb2 = nI v)) ∨
    (x3 = 0 ∧ ∃ a d, a + d + 2 = j ∧ L = nI (a + 1) ∧ Dg = nI (d + 1)))
/-- a token of letters and digits -/
def TokW (kd nb : Int32) (wd : Int64) (tk nb2 : Int32) (wd2 : Int64) : Prop :=
  (kd = 1 ∧ tk = 4) ∨ (kd = 48 ∧ tk = 2 ∧ ∃ v, v ≤ 999 ∧ nb = nI v ∧ nb2 = nI v) ∨ (kd = 97 ∧ tk = 1 ∧ ∃ r, WL r ∧ wd = w5 r ∧ wd2 = w8 r)
theorem run_end {n b j : Nat} {B tp : A1} (lim : Int32) (hb : b ≤ n) (hn : n ≤ 940) (hj : 0 < j) (hj2 : j ≤ 940) (kd nb : Int32) (wd : Int64) (L Dg tk at_ sp nb2 : Int32) (wd2 : Int64) (x2 x3 : Int32) (hI : RunI j nb wd L Dg sp nb2 wd2 x2 x3) :
    ∃ kd' tk', bX6_readRun_139 940 (nI n) B (nI b) kd nb wd L Dg = some (nI b, kd', nb, wd) ∧ (if x3 = 0 then some (nI b, 4, at_, sp, nb2, wd2) else if x2 = 0 then bX12_step_317 (nI n) lim tp (nI b) tk at_ sp nb2 wd2 x2 sp 3 else bX12_step_317 (nI n) lim tp (nI b) tk at_ sp nb2 wd2 x2 sp 7) = some (nI b, tk', at_, sp, nb2, wd2) ∧ TokW kd' nb wd tk' nb2 wd2 := by
  unfold bX6_readRun_139 bX6_readRun_158 bX12_step_317
  obtain ⟨rfl, ⟨rfl, rfl, rfl, rfl, hw⟩ | ⟨rfl, rfl, rfl, rfl, hw⟩ | ⟨rfl, a, d, had, rfl, rfl⟩⟩ := hI
  · rw [if_pos rfl, if_neg nn1, if_neg nn1]
    by_cases h7 : j ≤ 7
    · obtain ⟨r, h1, h2, h3, h4⟩ := hw h7
      rw [if_neg (show ¬ (7 : Int32) < nI j from nI_nlt (a := 7) h7 (by omega)), if_pos (show nI j ≤ 7 from nI_le (b := 7) h7 (by omega))]
      exact ⟨97, 1, rfl, rfl, Or.inr (Or.inr ⟨rfl, rfl, r, ⟨by omega, h2⟩, h3, h4⟩)⟩
    · rw [if_pos (show (7 : Int32) < nI j from nI_lt (a := 7) (by omega) (by omega)), if_neg (nI_ne0 (by omega) (by omega)), if_neg (show ¬ nI j ≤ 7 from nI_ge (a := 7) (by omega) (by omega))]
      exact ⟨1, 4, rfl, rfl, Or.inl ⟨rfl, rfl⟩⟩
  · rw [if_neg (nI_ne0 (by omega) (by omega)), if_pos rfl, if_neg nn1, if_pos rfl]
    by_cases h3 : j ≤ 3
    · obtain ⟨v, h1, h2, h4⟩ := hw h3
      have h10 : 10 ^ j ≤ 1000 := Nat.le_trans (Nat.pow_le_pow_right (by omega) h3) (by decide)
      rw [if_neg (show ¬ (3 : Int32) < nI j from nI_nlt (a := 3) h3 (by omega)), if_pos (show nI j ≤ 3 from nI_le (b := 3) h3 (by omega)), if_pos rfl]
      exact ⟨48, 2, rfl, rfl, Or.inr (Or.inl ⟨rfl, rfl, v, by omega, h2, h4⟩)⟩
    · rw [if_pos (show (3 : Int32) < nI j from nI_lt (a := 3) (by omega) (by omega)), if_neg (show ¬ nI j ≤ 3 from nI_ge (a := 3) (by omega) (by omega))]
      exact ⟨1, 4, rfl, rfl, Or.inl ⟨rfl, rfl⟩⟩
  · rw [if_neg (nI_ne0 (by omega) (by omega)), if_neg (nI_ne0 (by omega) (by omega)), if_pos rfl]
    exact ⟨1, 4, rfl, rfl, Or.inl ⟨rfl, rfl⟩⟩
theorem run_loop {n : Nat} {B tp : A1} (hn : n ≤ 940) (hO : OneT B tp) (lim kd tk at_ : Int32) : ∀ (m b f1 f2 j : Nat), b + m = n → m < f1 → m < f2 → j ≤ b → ∀ (nb : Int32) (wd : Int64) (L Dg sp nb2 : Int32) (wd2 : Int64) (x2 x3 : Int32), RunI j nb wd L Dg sp nb2 wd2 x2 x3 → (j = 0 → b < n ∧ x2 = sml (oc B b) ∧ (isAl (oc B b) ∨ isDg (oc B b))) →
    ∃ (b' : Nat) (kd' nb' : Int32) (wd' : Int64) (tk' sp' nb2' : Int32) (wd2' : Int64), b ≤ b' ∧ b' ≤ n ∧ (j = 0 → b < b') ∧ lX6_readRun_22 940 (nI n) B (bX6_readRun_139 940 (nI n) B) f1 (nI b) kd nb wd L Dg = some (nI b', kd', nb', wd') ∧ lX12_step_181 (nI n) lim tp (bX12_step_317 (nI n) lim tp) f2 (nI b) tk at_ sp nb2 wd2 x2 x3 = some (nI b', tk', at_, sp', nb2', wd2') ∧ TokW kd' nb' wd' tk' nb2' wd2' := by
  intro m
  induction m with
  | zero =>
    intro b f1 f2 j hb hf1 hf2 hjb nb wd L Dg sp nb2 wd2 x2 x3 hI hj0
    obtain ⟨f1, rfl⟩ := sn hf1
    obtain ⟨f2, rfl⟩ := sn hf2
    have e : b = n := by omega
    have hj : 0 < j := by
      apply Nat.pos_of_ne_zero
      intro h
      have := (hj0 h).1
      omega
    obtain ⟨kd', tk', z1, z2, z3⟩ := run_end (B := B) (tp := tp) lim (show b ≤ n by omega) hn hj (by omega) kd nb wd L Dg tk at_ sp nb2 wd2 x2 x3 hI
    exact ⟨b, kd', nb, wd, tk', sp, nb2, wd2, Nat.le_refl _, by omega, fun h => absurd h (by omega), by rw [runC_end hn (by omega) hO.2 (Or.inl e)]; exact z1, by rw [runM_end hn (by omega) hO.1 (Or.inl e)]; exact z2, z3⟩
  | succ m ih =>
    intro b f1 f2 j hb hf1 hf2 hjb nb wd L Dg sp nb2 wd2 x2 x3 hI hj0
    obtain ⟨f1, rfl⟩ := sn hf1
    obtain ⟨f2, rfl⟩ := sn hf2
    have h256 := (oc_eq B b).2
    have weak : ∀ {P : Prop} {b' : Nat}, b + 1 ≤ b' → (j = 0 → b < b') := fun h _ => by omega
    by_cases hal : isAl (oc B b)
    · obtain ⟨l, hl, hl1, hl2⟩ : ∃ l, oc B b = 96 + l ∧ 1 ≤ l ∧ l ≤ 26 := ⟨oc B b - 96, by unfold isAl at hal; omega, by unfold isAl at hal; omega, by unfold isAl at hal; omega⟩
      have esm : sml (oc B b) = 1 := if_pos hal
      rw [runC_al (by omega) hn (hO.2 b (by omega)) hal, runM_in (by omega) hn hO.1 (Or.inl hal), esm]
      have go : ∀ (nb' : Int32) (wd' : Int64) (L' Dg' sp' nb2' : Int32) (wd2' : Int64) (x3' : Int32), RunI (j + 1) nb' wd' L' Dg' sp' nb2' wd2' x2 x3' → _ := fun nb' wd' L' Dg' sp' nb2' wd2' x3' h => ih (b + 1) f1 f2 (j + 1) (by omega) (by omega) (by omega) (by omega) nb' wd' L' Dg' sp' nb2' wd2' x2 x3' h (fun h => absurd h (by omega))
      have fin : RunI (j + 1) nb (wd * 32 + Int32.toInt64 (nI (oc B b) - 96)) (L + 1) Dg (sp + 1) (if 3 ≤ sp then nb2 else 10 * nb2 + nI (oc B b) - 48) (if 7 ≤ sp then wd2 else (wd2 <<< (Int32.toInt64 8 &&& 63)) ||| Int32.toInt64 (nI (oc B b))) x2 (if x3 = 0 then 0 else if 1 = x2 then 1 else 0) := by
        obtain ⟨rfl, ⟨rfl, rfl, rfl, rfl, hw⟩ | ⟨rfl, rfl, rfl, rfl, hw⟩ | ⟨rfl, a, d, had, rfl, rfl⟩⟩ := hI
        · refine ⟨nI_1 j, Or.inl ⟨rfl, rfl, nI_1 j, rfl, fun h7 => ?_⟩⟩
          obtain ⟨r, h1, h2, h3, h4⟩ := hw (by omega)
          refine ⟨l :: r, by rw [List.length_cons, h1], LT_add hl1 hl2 h2, ?_, ?_⟩
          · rw [hl, h3, w5_cons r hl2]
          · rw [if_neg (show ¬ (7 : Int32) ≤ nI j from nI_ge (b := 7) (by omega) (by omega)), hl, h4, w8_cons (by omega) h2 hl2]
        · have hj : 0 < j := by
            apply Nat.pos_of_ne_zero
            intro h
            have := (hj0 h).2.1
            rw [esm] at this
            exact absurd this (by decide)
          refine ⟨nI_1 j, Or.inr (Or.inr ⟨rfl, 0, j - 1, by omega, rfl, ?_⟩)⟩
          rw [show j - 1 + 1 = j by omega]
        · exact ⟨nI_1 j, Or.inr (Or.inr ⟨rfl, a + 1, d, by omega, nI_1 (a + 1), rfl⟩)⟩
      obtain ⟨b', kd', nb', wd', tk', sp', nb2', wd2', y1, y2, y3, y4, y5, y6⟩ := go _ _ _ _ _ _ _ _ fin
      exact ⟨b', kd', nb', wd', tk', sp', nb2', wd2', by omega, y2, fun _ => by omega, y4, y5, y6⟩
    · by_cases hdg : isDg (oc B b)
      · obtain ⟨v, hv, hv9⟩ : ∃ v, oc B b = 48 + v ∧ v ≤ 9 := ⟨oc B b - 48, by unfold isDg at hdg; omega, by unfold isDg at hdg; omega⟩
        have esm : sml (oc B b) = 0 := if_neg hal
        rw [runC_dg (by omega) hn (hO.2 b (by omega)) hdg, runM_in (by omega) hn hO.1 (Or.inr hdg), esm]
        have go : ∀ (nb' : Int32) (wd' : Int64) (L' Dg' sp' nb2' : Int32) (wd2' : Int64) (x3' : Int32), RunI (j + 1) nb' wd' L' Dg' sp' nb2' wd2' x2 x3' → _ := fun nb' wd' L' Dg' sp' nb2' wd2' x3' h => ih (b + 1) f1 f2 (j + 1) (by omega) (by omega) (by omega) (by omega) nb' wd' L' Dg' sp' nb2' wd2' x2 x3' h (fun h => absurd h (by omega))
        have fin : RunI (j + 1) (nb * 10 + (nI (oc B b) - 48)) wd L (Dg + 1) (sp + 1) (if 3 ≤ sp then nb2 else 10 * nb2 + nI (oc B b) - 48) (if 7 ≤ sp then wd2 else (wd2 <<< (Int32.toInt64 8 &&& 63)) ||| Int32.toInt64 (nI (oc B b))) x2 (if x3 = 0 then 0 else if 0 = x2 then 1 else 0) := by
          obtain ⟨rfl, ⟨rfl, rfl, rfl, rfl, hw⟩ | ⟨rfl, rfl, rfl, rfl, hw⟩ | ⟨rfl, a, d, had, rfl, rfl⟩⟩ := hI
          · have hj : 0 < j := by
              apply Nat.pos_of_ne_zero
              intro h
              have := (hj0 h).2.1
              rw [esm] at this
              exact absurd this (by decide)
            refine ⟨nI_1 j, Or.inr (Or.inr ⟨rfl, j - 1, 0, by omega, ?_, rfl⟩)⟩
            rw [show j - 1 + 1 = j by omega]
          · refine ⟨nI_1 j, Or.inr (Or.inl ⟨rfl, rfl, rfl, nI_1 j, fun h3 => ?_⟩)⟩
            obtain ⟨u, h1, h2, h4⟩ := hw (by omega)
            refine ⟨10 * u + v, by rw [Nat.pow_succ]; omega, ?_, ?_⟩
            · rw [hv, h2, show (48 : Int32) = nI 48 from rfl, pk_sub (by omega), show 48 + v - 48 = v by omega, show (10 : Int32) = nI 10 from rfl, pk_mul, nI_add]
              exact congrArg nI (by omega)
            · rw [if_neg (show ¬ (3 : Int32) ≤ nI j from nI_ge (b := 3) (by omega) (by omega)), hv, h4, show (10 : Int32) = nI 10 from rfl, pk_mul, nI_add, show (48 : Int32) = nI 48 from rfl, pk_sub (by omega)]
              exact congrArg nI (by omega)
          · exact ⟨nI_1 j, Or.inr (Or.inr ⟨rfl, a, d + 1, by omega, rfl, nI_1 (d + 1)⟩)⟩
        obtain ⟨b', kd', nb', wd', tk', sp', nb2', wd2', y1, y2, y3, y4, y5, y6⟩ := go _ _ _ _ _ _ _ _ fin
        exact ⟨b', kd', nb', wd', tk', sp', nb2', wd2', by omega, y2, fun _ => by omega, y4, y5, y6⟩
      · have hj : 0 < j := by
          apply Nat.pos_of_ne_zero
          intro h
          rcases (hj0 h).2.2 with h | h
          · exact hal h
          · exact hdg h
        obtain ⟨kd', tk', z1, z2, z3⟩ := run_end (B := B) (tp := tp) lim (show b ≤ n by omega) hn hj (by omega) kd nb wd L Dg tk at_ sp nb2 wd2 x2 x3 hI
        exact ⟨b, kd', nb, wd, tk', sp, nb2, wd2, Nat.le_refl _, by omega, fun h => absurd h (by omega), by rw [runC_end hn (by omega) hO.2 (Or.inr ⟨hal, hdg⟩)]; exact z1, by rw [runM_end hn (by omega) hO.1 (Or.inr ⟨hal, hdg⟩)]; exact z2, z3⟩
