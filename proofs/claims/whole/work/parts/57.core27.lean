/-! ===== pure: a token ===== -/
def isSg (c : Nat) : Prop := c = 59 ∨ c = 60 ∨ c = 61 ∨ c = 62 ∨ c = 40 ∨ c = 41
/-- one token, both -/
def TokK (kd nb : Int32) (wd : Int64) (ky tk nb2 : Int32) (wd2 : Int64) : Prop :=
  (kd = 0 ∧ tk = 0 ∧ ky = -1) ∨ (kd = 1 ∧ tk = 4 ∧ ky = -1) ∨ (kd = 48 ∧ tk = 2 ∧ ky = -1 ∧ ∃ v, v ≤ 999 ∧ nb = nI v ∧ nb2 = nI v) ∨ (kd = 97 ∧ tk = 1 ∧ ∃ r, WL r ∧ wd = w5 r ∧ wd2 = w8 r ∧ ky = kix r) ∨ (∃ c, isSg c ∧ kd = nI c ∧ tk = 3 ∧ nb2 = nI c ∧ ky = -1)
abbrev K63 : Type := Int32 → Int32 → Int32 → Int32 → Int64 → Int32 → Int32 → Option (Int32 × Int32 × Int32 × Int32 × Int64 × Int32)
abbrev K80 : Type := Int32 → Int32 → Int32 → Int32 → Int32 → Int64 → Option (Int32 × Int32 × Int32 × Int32 × Int32 × Int64)
/-- the byte at a place, or none -/
def atV (n : Nat) (B : A1) (b : Nat) : Int32 := if b < n then nI (oc B b) else -1
theorem at_V {n b : Nat} {B : A1} (hn : n ≤ 940) (hb : b ≤ 941) : fX10_at 940 (nI n) B (nI b) = some (atV n B b) := by
  unfold atV
  by_cases h : b < n
  · rw [if_pos h, at_in h hn]
  · rw [if_neg h, at_out (by omega) (by omega)]
theorem peek_V {n b : Nat} {B tp : A1} (hn : n ≤ 940) (hb : b ≤ 940) (h : ∀ i, i < 940 → tp i = B i) : fX12_peek (nI n) (nI b) tp = some (atV n B b) := by
  unfold atV
  by_cases h2 : b < n
  · rw [if_pos h2, peek_in h2 hn h]
  · rw [if_neg h2, peek_out (by omega) hb]
/-- spaces are gone over -/
theorem skip_loop {n lim : Nat} {B tp : A1} (hn : n ≤ 940) (hO : OneT B tp) (keys : Nat → Int64) (kC : K63) (kM : K80) (at1 kd nb : Int32) (wd : Int64) (ky tk at2 sp nb2 : Int32) (wd2 : Int64) : ∀ (m b f1 f2 : Nat), b + m = n → m < f1 → m < f2 →
    ∃ b', b ≤ b' ∧ b' ≤ n ∧ lX6_step_12 940 (nI lim) (nI n) B keys kC f1 (nI b) at1 kd nb wd ky (atV n B b) = kC (nI b') at1 kd nb wd ky (atV n B b') ∧ lX12_step_0 (nI n) (nI lim) tp kM f2 (nI b) tk at2 sp nb2 wd2 = (if nI n ≤ nI lim then kM (nI b') tk (nI b') 0 nb2 wd2 else if nI b' < nI lim then kM (nI b') tk (nI b') 0 nb2 wd2 else some (nI b', 4, nI lim, 0, nb2, wd2)) := by
  intro m
  induction m with
  | zero =>
    intro b f1 f2 hb hf1 hf2
    obtain ⟨f1, rfl⟩ := sn hf1
    obtain ⟨f2, rfl⟩ := sn hf2
    have e : b = n := by omega
    subst e
    refine ⟨b, Nat.le_refl _, Nat.le_refl _, ?_, ?_⟩
    · rw [lX6_step_12, if_pos (nI_le (Nat.le_refl _) (by omega))]
    · rw [lX12_step_0, peek_out (Nat.le_refl _) hn, bind_eq, if_neg (by decide), bind_eq, if_neg (by decide)]
  | succ m ih =>
    intro b f1 f2 hb hf1 hf2
    obtain ⟨f1, rfl⟩ := sn hf1
    obtain ⟨f2, rfl⟩ := sn hf2
    obtain ⟨b', h1, h2, h3, h4⟩ := ih (b + 1) f1 f2 (by omega) (by omega) (by omega)
    rw [lX6_step_12, if_neg (nI_ge (by omega) (by omega)), lX12_step_0, peek_V hn (by omega) hO.1, bind_eq, bind_eq]
    unfold bX6_step_38
    rw [nI_1, at_V hn (by omega), bind_eq]
    by_cases h32 : atV n B b = 32
    · rw [if_pos h32, if_pos h32]
      exact ⟨b', by omega, h2, h3, h4⟩
    · rw [if_neg h32, if_neg h32]
      by_cases h10 : atV n B b = 10
      · rw [if_pos h10, if_pos h10]
        exact ⟨b', by omega, h2, h3, h4⟩
      · rw [if_neg h10, if_neg h10]
        exact ⟨b, Nat.le_refl _, by omega, rfl, rfl⟩
theorem sign_no {c : Nat} (hc : c < 256) {k : Nat} (hk : k < 256) (h : c ≠ k) : ¬ nI c = nI k := fun e => h ((nI_eq (by omega) (by omega)).mp e)
/-- the token that stands at a place -/
theorem tok_at {n lim b : Nat} {B tp : A1} {keys res : Nat → Int64} (hK : RKy keys res) (hn : n ≤ 940) (hO : OneT B tp) (hb : b ≤ n) (at_ kd nb : Int32) (wd : Int64) (tk sp nb2 : Int32) (wd2 : Int64) :
    ∃ (b' : Nat) (kd' nb' : Int32) (wd' : Int64) (ky' tk' sp' nb2' : Int32) (wd2' : Int64), b ≤ b' ∧ b' ≤ n ∧ (kd' = 0 ∨ b < b') ∧ bX6_step_116 940 (nI lim) (nI n) B keys (nI b) at_ kd nb wd (-1) (atV n B b) = some (nI b', at_, kd', nb', wd', ky') ∧ bX12_step_80 (nI n) (nI lim) tp (nI b) tk at_ 0 nb2 wd2 = some (nI b', tk', at_, sp', nb2', wd2') ∧ TokK kd' nb' wd' ky' tk' nb2' wd2' := by
  unfold bX6_step_116 bX12_step_80
  rw [peek_V hn (by omega) hO.1, bind_eq]
  by_cases hbn : b < n
  · have h256 := (oc_eq B b).2
    have eV : atV n B b = nI (oc B b) := if_pos hbn
    rw [eV, if_pos (nI_lt hbn (by omega)), if_pos (show (0 : Int32) ≤ nI (oc B b) from nI_le (a := 0) (by omega) (by omega)), small_eq h256, bind_eq, digit_eq h256, bind_eq]
    -- a run
    have run : (isAl (oc B b) ∨ isDg (oc B b)) → ∃ (b' : Nat) (kd' nb' : Int32) (wd' : Int64) (ky' tk' sp' nb2' : Int32) (wd2' : Int64), b ≤ b' ∧ b' ≤ n ∧ (kd' = 0 ∨ b < b') ∧ bX6_step_162 940 (nI lim) (nI n) B keys (nI b) at_ kd nb wd (-1) = some (nI b', at_, kd', nb', wd', ky') ∧ bX12_step_164 (nI n) (nI lim) tp (nI b) tk at_ 0 nb2 wd2 (nI (oc B b)) = some (nI b', tk', at_, sp', nb2', wd2') ∧ TokK kd' nb' wd' ky' tk' nb2' wd2' := by
      intro hc
      unfold bX6_step_162 bX12_step_164 fX6_readRun
      rw [small_eq h256, bind_eq]
      have h0 : RunI 0 0 0 0 0 0 0 0 (sml (oc B b)) 1 := by
        refine ⟨rfl, ?_⟩
        by_cases h : isAl (oc B b)
        · have e : sml (oc B b) = 1 := if_pos h
          rw [e]
          exact Or.inl ⟨rfl, rfl, rfl, rfl, fun _ => ⟨[], rfl, (fun l hl => by cases hl), rfl, rfl⟩⟩
        · have e : sml (oc B b) = 0 := if_neg h
          rw [e]
          exact Or.inr (Or.inl ⟨rfl, rfl, rfl, rfl, fun _ => ⟨0, by decide, rfl, rfl⟩⟩)
      obtain ⟨b', kd', nb', wd', tk', sp', nb2', wd2', y1, y2, y3, y4, y5, y6⟩ := run_loop hn hO (nI lim) kd tk at_ (n - b) b 5000 5000 0 (by omega) (by omega) (by omega) (by omega) 0 0 0 0 0 0 0 (sml (oc B b)) 1 h0 (fun _ => ⟨hbn, rfl, hc⟩)
      rw [y4, bind_eq]
      have e : (if 97 ≤ oc B b ∧ oc B b ≤ 122 then (1 : Int32) else 0) = sml (oc B b) := rfl
      rw [e, y5]
      dsimp only
      rcases y6 with ⟨rfl, rfl⟩ | ⟨rfl, rfl, v, hv, e1, e2⟩ | ⟨rfl, rfl, r, hr, e1, e2⟩
      · rw [if_neg (by decide)]
        exact ⟨b', 1, nb', wd', -1, 4, sp', nb2', wd2', y1, y2, Or.inr (y3 rfl), rfl, rfl, Or.inr (Or.inl ⟨rfl, rfl, rfl⟩)⟩
      · rw [if_neg (by decide)]
        exact ⟨b', 48, nb', wd', -1, 2, sp', nb2', wd2', y1, y2, Or.inr (y3 rfl), rfl, rfl, Or.inr (Or.inr (Or.inl ⟨rfl, rfl, rfl, v, hv, e1, e2⟩))⟩
      · rw [if_pos rfl, e1, keyOf_eq hK hr, bind_eq]
        exact ⟨b', 97, nb', w5 r, kix r, 1, sp', nb2', wd2', y1, y2, Or.inr (y3 rfl), rfl, rfl, Or.inr (Or.inr (Or.inr (Or.inl ⟨rfl, rfl, r, hr, rfl, e2, rfl⟩)))⟩
    -- a sign, or no token
    have sgn : ¬ isAl (oc B b) → ¬ isDg (oc B b) → ∃ (b' : Nat) (kd' nb' : Int32) (wd' : Int64) (ky' tk' sp' nb2' : Int32) (wd2' : Int64), b ≤ b' ∧ b' ≤ n ∧ (kd' = 0 ∨ b < b') ∧ bX6_step_194 940 (nI lim) (nI n) B keys (nI b) at_ kd nb wd (-1) (nI (oc B b)) = some (nI b', at_, kd', nb', wd', ky') ∧ (if nI (oc B b) = 59 then bX12_step_145 (nI n) (nI lim) tp (nI b) tk at_ 0 nb2 wd2 (nI (oc B b)) 3 else if nI (oc B b) = 40 then bX12_step_145 (nI n) (nI lim) tp (nI b) tk at_ 0 nb2 wd2 (nI (oc B b)) 3 else if nI (oc B b) = 41 then bX12_step_145 (nI n) (nI lim) tp (nI b) tk at_ 0 nb2 wd2 (nI (oc B b)) 3 else if nI (oc B b) < 60 then bX12_step_145 (nI n) (nI lim) tp (nI b) tk at_ 0 nb2 wd2 (nI (oc B b)) 4 else if 62 < nI (oc B b) then bX12_step_145 (nI n) (nI lim) tp (nI b) tk at_ 0 nb2 wd2 (nI (oc B b)) 4 else bX12_step_145 (nI n) (nI lim) tp (nI b) tk at_ 0 nb2 wd2 (nI (oc B b)) 3) = some (nI b', tk', at_, sp', nb2', wd2') ∧ TokK kd' nb' wd' ky' tk' nb2' wd2' := by
      intro _ _
      unfold bX6_step_194 bX6_step_235 bX12_step_145
      rw [nI_1]
      generalize oc B b = c at h256
      have yes : ∀ k, isSg k → c = k → TokK (nI c) nb wd (-1) 3 (nI c) wd2 := fun k hk e => Or.inr (Or.inr (Or.inr (Or.inr ⟨c, by rw [e]; exact hk, rfl, rfl, rfl, rfl⟩)))
      by_cases a1 : c = 59
      · have y := yes 59 (Or.inl rfl) a1
        subst a1
        exact ⟨b + 1, nI 59, nb, wd, -1, 3, 0, nI 59, wd2, by omega, by omega, Or.inr (by omega), rfl, rfl, y⟩
      · rw [if_neg (show ¬ nI c = 59 from sign_no (k := 59) h256 (by omega) a1), if_neg (show ¬ nI c = 59 from sign_no (k := 59) h256 (by omega) a1)]
        by_cases a5 : c = 40
        · have y := yes 40 (Or.inr (Or.inr (Or.inr (Or.inr (Or.inl rfl))))) a5
          subst a5
          exact ⟨b + 1, nI 40, nb, wd, -1, 3, 0, nI 40, wd2, by omega, by omega, Or.inr (by omega), rfl, rfl, y⟩
        · rw [if_neg (show ¬ nI c = 40 from sign_no (k := 40) h256 (by omega) a5), if_neg (show ¬ nI c = 40 from sign_no (k := 40) h256 (by omega) a5)]
          by_cases a6 : c = 41
          · have y := yes 41 (Or.inr (Or.inr (Or.inr (Or.inr (Or.inr rfl))))) a6
            subst a6
            exact ⟨b + 1, nI 41, nb, wd, -1, 3, 0, nI 41, wd2, by omega, by omega, Or.inr (by omega), rfl, rfl, y⟩
          · rw [if_neg (show ¬ nI c = 41 from sign_no (k := 41) h256 (by omega) a6), if_neg (show ¬ nI c = 41 from sign_no (k := 41) h256 (by omega) a6)]
            by_cases a2 : c = 60
            · have y := yes 60 (Or.inr (Or.inl rfl)) a2
              subst a2
              exact ⟨b + 1, nI 60, nb, wd, -1, 3, 0, nI 60, wd2, by omega, by omega, Or.inr (by omega), rfl, rfl, y⟩
            · rw [if_neg (show ¬ nI c = 60 from sign_no (k := 60) h256 (by omega) a2)]
              by_cases a3 : c = 61
              · have y := yes 61 (Or.inr (Or.inr (Or.inl rfl))) a3
                subst a3
                exact ⟨b + 1, nI 61, nb, wd, -1, 3, 0, nI 61, wd2, by omega, by omega, Or.inr (by omega), rfl, rfl, y⟩
              · rw [if_neg (show ¬ nI c = 61 from sign_no (k := 61) h256 (by omega) a3)]
                by_cases a4 : c = 62
                · have y := yes 62 (Or.inr (Or.inr (Or.inr (Or.inl rfl)))) a4
                  subst a4
                  exact ⟨b + 1, nI 62, nb, wd, -1, 3, 0, nI 62, wd2, by omega, by omega, Or.inr (by omega), rfl, rfl, y⟩
                · rw [if_neg (show ¬ nI c = 62 from sign_no (k := 62) h256 (by omega) a4), if_pos rfl]
                  refine ⟨b + 1, 1, nb, wd, -1, 4, 0, nI c, wd2, by omega, by omega, Or.inr (by omega), rfl, ?_, Or.inr (Or.inl ⟨rfl, rfl, rfl⟩)⟩
                  by_cases a7 : c < 60
                  · rw [if_pos (show nI c < 60 from nI_lt (b := 60) a7 (by omega))]
                  · rw [if_neg (show ¬ nI c < 60 from nI_nlt (b := 60) (by omega) (by omega)), if_pos (show (62 : Int32) < nI c from nI_lt (a := 62) (by omega) (by omega))]
    by_cases hal : isAl (oc B b)
    · have hal2 := hal
      unfold isAl at hal2
      rw [if_neg (show ¬ nI (oc B b) < 97 from nI_nlt (b := 97) (by omega) (by omega)), if_pos (show nI (oc B b) ≤ 122 from nI_le (b := 122) (by omega) (by omega)), if_pos hal2, if_neg nn1]
      exact run (Or.inl hal)
    · have hal2 := hal
      unfold isAl at hal2
      rw [if_neg hal2, if_pos rfl]
      by_cases hdg : isDg (oc B b)
      · have hdg2 := hdg
        unfold isDg at hdg2
        rw [if_pos (show nI (oc B b) < 97 from nI_lt (b := 97) (by omega) (by omega)), if_neg (show ¬ nI (oc B b) < 48 from nI_nlt (b := 48) (by omega) (by omega)), if_neg (show ¬ (57 : Int32) < nI (oc B b) from nI_nlt (a := 57) (by omega) (by omega)), if_pos hdg2, if_neg nn1]
        exact run (Or.inr hdg)
      · have hdg2 := hdg
        unfold isDg at hdg2
        rw [if_neg hdg2, if_pos rfl]
        by_cases h97 : oc B b < 97
        · rw [if_pos (show nI (oc B b) < 97 from nI_lt (b := 97) h97 (by omega))]
          by_cases h48 : oc B b < 48
          · rw [if_pos (show nI (oc B b) < 48 from nI_lt (b := 48) h48 (by omega))]
            exact sgn hal hdg
          · rw [if_neg (show ¬ nI (oc B b) < 48 from nI_nlt (b := 48) (by omega) (by omega)), if_pos (show (57 : Int32) < nI (oc B b) from nI_lt (a := 57) (by omega) (by omega))]
            exact sgn hal hdg
        · rw [if_neg (show ¬ nI (oc B b) < 97 from nI_nlt (b := 97) (by omega) (by omega)), if_neg (show ¬ nI (oc B b) ≤ 122 from nI_ge (a := 122) (by omega) (by omega)), if_neg (show ¬ nI (oc B b) < 48 from nI_nlt (b := 48) (by omega) (by omega)), if_pos (show (57 : Int32) < nI (oc B b) from nI_lt (a := 57) (by omega) (by omega))]
          exact sgn hal hdg
  · have eV : atV n B b = -1 := if_neg hbn
    rw [eV, if_neg (nI_nlt (by omega) (by omega)), if_neg (by decide)]
    exact ⟨b, 0, nb, wd, -1, 0, 0, nb2, wd2, Nat.le_refl _, hb, Or.inl rfl, rfl, rfl, Or.inl ⟨rfl, rfl, rfl⟩⟩
/-- how far a reader is: one more where no token stands -/
def phi (b : Nat) (kd : Int32) : Nat := b + if kd = 0 ∨ kd = 1 then 1 else 0
/-- where a reader is, both -/
def RTok (n b : Nat) (bh at1 kd nb : Int32) (wd : Int64) (ky p tk at2 nb2 : Int32) (wd2 : Int64) : Prop :=
  b ≤ n ∧ bh = nI b ∧ p = nI b ∧ (∃ a, a ≤ 940 ∧ at1 = nI a ∧ at2 = nI a) ∧ TokK kd nb wd ky tk nb2 wd2
/-- the next token, both -/
theorem sim_step {n lim b : Nat} {B tp : A1} {keys res : Nat → Int64} (hK : RKy keys res) (hn : n ≤ 940) (hl : lim ≤ 940) (hO : OneT B tp) (hb : b ≤ n) (at1 kd nb : Int32) (wd : Int64) (ky tk at2 sp nb2 : Int32) (wd2 : Int64) :
    ∃ (b' : Nat) (bh' at1' kd' nb' : Int32) (wd' : Int64) (ky' p' tk' at2' sp' nb2' : Int32) (wd2' : Int64), fX6_step 940 (nI lim) (nI n) B keys (nI b) at1 kd nb wd ky = some (bh', at1', kd', nb', wd', ky') ∧ fX12_step (nI n) (nI lim) tp (nI b) tk at2 sp nb2 wd2 = some (p', tk', at2', sp', nb2', wd2') ∧ RTok n b' bh' at1' kd' nb' wd' ky' p' tk' at2' nb2' wd2' ∧ b + 1 ≤ phi b' kd' := by
  unfold fX6_step fX12_step
  obtain ⟨b1, h1, h2, h3, h4⟩ := skip_loop (lim := lim) hn hO keys (bX6_step_63 940 (nI lim) (nI n) B keys) (bX12_step_80 (nI n) (nI lim) tp) at1 kd nb wd ky tk at2 sp nb2 wd2 (n - b) b 5000 5000 (by omega) (by omega) (by omega)
  rw [at_V hn (by omega), bind_eq, h3, h4]
  unfold bX6_step_63
  rw [nmv_eq]
  have stands : ∀ w1 : Int32, w1 = nI b1 → ∃ (b' : Nat) (bh' at1' kd' nb' : Int32) (wd' : Int64) (ky' p' tk' at2' sp' nb2' : Int32) (wd2' : Int64), bX6_step_116 940 (nI lim) (nI n) B keys (nI b1) w1 kd nb wd (-1) (atV n B b1) = some (bh', at1', kd', nb', wd', ky') ∧ bX12_step_80 (nI n) (nI lim) tp (nI b1) tk (nI b1) 0 nb2 wd2 = some (p', tk', at2', sp', nb2', wd2') ∧ RTok n b' bh' at1' kd' nb' wd' ky' p' tk' at2' nb2' wd2' ∧ b + 1 ≤ phi b' kd' := by
    intro w1 e
    subst e
    obtain ⟨b', kd', nb', wd', ky', tk', sp', nb2', wd2', y1, y2, y3, y4, y5, y6⟩ := tok_at (lim := lim) hK hn hO h2 (nI b1) kd nb wd tk sp nb2 wd2
    refine ⟨b', nI b', nI b1, kd', nb', wd', ky', nI b', tk', nI b1, sp', nb2', wd2', y4, y5, ⟨y2, rfl, rfl, ⟨b1, by omega, rfl, rfl⟩, y6⟩, ?_⟩
    unfold phi
    rcases y3 with y3 | y3
    · rw [if_pos (Or.inl y3)]
      omega
    · omega
  by_cases hnl : n ≤ lim
  · rw [if_pos (nI_le hnl (by omega)), if_pos (nI_le hnl (by omega)), if_neg (show ¬ nI lim < nI b1 from nI_nlt (by omega) (by omega))]
    by_cases hb1 : b1 < lim
    · rw [if_pos (nI_lt hb1 (by omega))]
      exact stands _ rfl
    · rw [if_neg (nI_nlt (by omega) (by omega))]
      exact stands _ rfl
  · rw [if_neg (nI_ge (by omega) (by omega)), if_neg (nI_ge (by omega) (by omega))]
    by_cases hb1 : b1 < lim
    · rw [if_pos (nI_lt hb1 (by omega)), if_pos (nI_lt hb1 (by omega)), if_neg (show ¬ nI lim < nI b1 from nI_nlt (by omega) (by omega))]
      exact stands _ rfl
    · rw [if_neg (show ¬ nI b1 < nI lim from nI_nlt (by omega) (by omega)), if_neg (show ¬ nI b1 < nI lim from nI_nlt (by omega) (by omega))]
      have e : (if nI lim < nI b1 then nI lim else nI b1) = nI lim := by
        by_cases h : lim < b1
        · rw [if_pos (nI_lt h (by omega))]
        · have e : b1 = lim := by omega
          subst e
          rw [if_neg (nI_nlt (Nat.le_refl _) (by omega))]
      rw [e]
      refine ⟨b1, nI b1, nI lim, 1, nb, wd, -1, nI b1, 4, nI lim, 0, nb2, wd2, rfl, rfl, ⟨h2, rfl, rfl, ⟨lim, hl, rfl, rfl⟩, Or.inr (Or.inl ⟨rfl, rfl, rfl⟩)⟩, ?_⟩
      unfold phi
      rw [if_pos (Or.inr rfl)]
      omega
