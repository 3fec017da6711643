/-! ===== pure: hiding; trick ===== -/
theorem cnt_cut {p : Nat → Bool} {c : Nat} : ∀ {n : Nat}, c ≤ n → (∀ i, c ≤ i → i < n → p i = false) → fa_cnt p n = fa_cnt p c
  | 0, h, _ => by
    have e : c = 0 := by omega
    subst e
    rfl
  | n + 1, h, h2 => by
    by_cases e : c = n + 1
    · subst e
      rfl
    · rw [fa_cnt_no (h2 n (by omega) (by omega))]
      exact cnt_cut (by omega) (fun i h3 h4 => h2 i h3 (by omega))
theorem cnt_mono {p : Nat → Bool} {a : Nat} : ∀ d, fa_cnt p a ≤ fa_cnt p (a + d)
  | 0 => Nat.le_refl _
  | d + 1 => by
    have ih := cnt_mono (p := p) (a := a) d
    rw [← Nat.add_assoc]
    show _ ≤ fa_cnt p (a + d) + _
    omega
theorem cnt_or {p q : Nat → Bool} : ∀ {n : Nat}, (∀ i, i < n → (p i && q i) = false) → fa_cnt (fun i => p i || q i) n = fa_cnt p n + fa_cnt q n
  | 0, _ => rfl
  | n + 1, h => by
    have ih := cnt_or (p := p) (q := q) (n := n) (fun i hi => h i (by omega))
    have h2 := h n (by omega)
    cases hp : p n <;> cases hq : q n
    · rw [fa_cnt_no (by simp [hp, hq]), fa_cnt_no hp, fa_cnt_no hq, ih]
    · rw [fa_cnt_yes (by simp [hp, hq]), fa_cnt_no hp, fa_cnt_yes hq, ih]
      omega
    · rw [fa_cnt_yes (by simp [hp, hq]), fa_cnt_yes hp, fa_cnt_no hq, ih]
      omega
    · rw [hp, hq] at h2
      cases h2
theorem pop_le {n : Nat} {x : Int32} (hn : n ≤ 10) (h : sm n x) : pop x ≤ n := by
  unfold pop
  rw [cnt_cut hn (fun i h1 h2 => h i h1 (by omega))]
  exact fa_cnt_le _ _
theorem sub_all : ∀ C, C ≤ 9 → ∀ P, P ≤ 9 → ∀ G, G ≤ 9 → ((nI G ≤ nI C - nI P - 1 ↔ G + P + 1 ≤ C) ∧ (1 ≤ nI C - nI P - nI G ↔ G + P + 1 ≤ C)) := by decide +kernel
/-- why a CHAIR can't be hidden -/
def whyH (C G : Nat) (tak hid : Int32) (c : Nat) : Int32 := if bt hid c = true then 2 else if bt tak c = true then 3 else if G + pop hid + 1 ≤ C then 0 else 4
theorem whyHC {C G : Nat} {tak hid : Int32} {c : Nat} (hC : C ≤ 9) (hG : G ≤ 7) (hc : c < C) (hh : sm C hid) : fX1_whyNotHide tak hid (nI C) (nI G) (nI c) = some (whyH C G tak hid c) := by
  have hp := pop_le (by omega) hh
  unfold fX1_whyNotHide whyH fX1_canStillBeHidden fX2_hasChair
  rw [if_neg (nI_pos (by omega)), if_neg (nI_ge hc (by omega)), bind_eq, if_neg (by decide), bitCount_eq (sm_up hh (by omega)), bind_eq, bind_eq]
  by_cases h1 : bt hid c = true
  · rw [if_pos ((bit_iff (by omega)).mpr h1), if_pos h1]
  · rw [if_neg (fun e => h1 ((bit_iff (by omega)).mp e)), if_neg h1]
    by_cases h2 : bt tak c = true
    · rw [if_pos ((bit_iff (by omega)).mpr h2), if_pos h2]
    · rw [if_neg (fun e => h2 ((bit_iff (by omega)).mp e)), if_neg h2]
      have h3 := (sub_all C hC (pop hid) (by omega) G (by omega)).2
      by_cases h4 : G + pop hid + 1 ≤ C
      · rw [if_pos (h3.mpr h4), if_pos h4]
      · rw [if_neg (fun e => h4 (h3.mp e)), if_neg h4]
theorem whyHM {C G : Nat} {s : A1} {tak : Int32} {c : Nat} (hC : C ≤ 9) (hG : G ≤ 7) (hc : c < C) (e0 : s 0 = nI C) (e1 : s 1 = nI G) (hh : sm C (s 47)) (hT : TK C G (s 63) tak (fun i => s (56 + i))) : fX12_whyHide s (nI c) = some (whyH C G tak (s 47) c) := by
  have hp := pop_le (by omega) hh
  have hch : fX12_isChair s (nI c) = some 1 := by
    unfold fX12_isChair
    rw [e0]
    rcases in_eq hC (nI c) with ⟨g, -, -, h3, -⟩ | ⟨-, h4⟩
    · rw [h3]
      rfl
    · rcases h4 with h4 | h4
      · exact absurd h4 (nI_pos (by omega))
      · exact absurd h4 (nI_ge hc (by omega))
  unfold fX12_whyHide whyH
  rw [hch, bind_eq, if_neg (by decide), bitOf_eq (by omega), bind_eq]
  by_cases h1 : bt (s 47) c = true
  · rw [if_pos h1, if_neg (by decide), if_pos h1]
  · rw [if_neg h1, if_pos rfl, if_neg h1, sitter_eq hG e1, bind_eq]
    have h3 := whoF_neg (c := c) hG hT hc
    by_cases h2 : bt tak c = true
    · rw [if_neg (fun e => h3.mp e h2), if_pos h2]
    · rw [if_pos (h3.mpr h2), if_neg h2, bits_eq (sm_up hh (by omega)), bind_eq, e0, e1]
      have h5 := (sub_all C hC (pop (s 47)) (by omega) G (by omega)).1
      by_cases h4 : G + pop (s 47) + 1 ≤ C
      · rw [if_pos (h5.mpr h4), if_pos h4]
      · rw [if_neg (fun e => h4 (h5.mp e)), if_neg h4]
theorem sm_or {n : Nat} {x y : Int32} (h1 : sm n x) (h2 : sm n y) : sm n (x ||| y) := by
  intro i a b
  rw [b_or, h1 i a b, h2 i a b]
  rfl
/-- CHAIRS below c of a set -/
def low (S c : Nat) : Int32 := nI (S % 2 ^ c)
theorem bt_low {S c i : Nat} (hi : i < 32) : bt (low S c) i = (decide (i < c) && S.testBit i) := by
  unfold low
  rw [bt_nI hi, Nat.testBit_mod_two_pow]
theorem low_step {S c : Nat} (hc : c < 31) (x : Int32) : x ||| low S (c + 1) = if S.testBit c = true then (x ||| low S c) ||| (1 <<< (nI c &&& 31)) else x ||| low S c := by
  apply b_ext
  intro i hi
  by_cases h : S.testBit c = true
  · rw [if_pos h, bt_set hc hi, b_or, b_or, bt_low hi, bt_low hi]
    by_cases e : i = c
    · subst e
      rw [h]
      simp
    · have e2 : (i < c + 1) ↔ (i < c) := by omega
      simp [e, e2]
  · rw [if_neg h, b_or, b_or, bt_low hi, bt_low hi]
    by_cases e : i = c
    · subst e
      simp [h]
    · have e2 : (i < c + 1) ↔ (i < c) := by omega
      simp [e2]
theorem pop_low {hid : Int32} {S c : Nat} (hc : c ≤ 9) (hd : ∀ i, i < c → S.testBit i = true → bt hid i = false) : pop (hid ||| low S c) = pop hid + fa_cnt S.testBit c := by
  unfold pop
  have e1 : fa_cnt (bt (hid ||| low S c)) 10 = fa_cnt (fun i => bt hid i || bt (low S c) i) 10 := fa_cnt_cong (fun k hk => b_or _ _ _)
  rw [e1, cnt_or (fun i hi => by
    rw [bt_low (by omega)]
    by_cases h : i < c
    · cases h2 : S.testBit i
      · simp
      · rw [hd i h h2]
        rfl
    · simp [h])]
  congr 1
  rw [cnt_cut (c := c) (by omega) (fun i h1 h2 => by rw [bt_low (by omega)]; simp; omega)]
  exact fa_cnt_cong (fun k hk => by rw [bt_low (by omega)]; simp [hk])
/-- may these CHAIRS be hidden one behind the other -/
def mayH (C G : Nat) (tak hid : Int32) (S : Nat) : Prop := (∀ i, i < C → S.testBit i = true → bt hid i = false ∧ bt tak i = false) ∧ (S = 0 ∨ G + pop hid + fa_cnt S.testBit C ≤ C)
theorem trickM_loop {C G D : Nat} {pride speed payer cost s : A1} (hH : RH C G D pride speed payer cost s) {sit tak ser hid ovr hst pia : Int32} {ρ : Nat} (hρ : ρ ≤ 400) {coins chairOf tired hosted owed paid : A1} (hF : RF C G D sit tak ser hid (nI ρ) ovr hst pia coins chairOf tired hosted owed paid s) {bf : A1} {S : Nat} {x hi : Int32} (k67 : Int32 → A1 → Int32 → Int32 → Option (Int32 × Int32 × A1)) : ∀ (m c n : Nat), c + m = C → m < n → (∀ i, i < c → S.testBit i = true → bt hid i = false ∧ bt tak i = false) → (fa_cnt S.testBit c = 0 ∨ G + pop hid + fa_cnt S.testBit c ≤ C) →
    (lX12_isTrick_5 bf k67 n hi (upd s 47 (hid ||| low S c)) x (nI S) 1 (nI c) = k67 hi (upd s 47 (hid ||| low S C)) x 1 ∧ (∀ i, i < C → S.testBit i = true → bt hid i = false ∧ bt tak i = false) ∧ (fa_cnt S.testBit C = 0 ∨ G + pop hid + fa_cnt S.testBit C ≤ C)) ∨
    (∃ y, lX12_isTrick_5 bf k67 n hi (upd s 47 (hid ||| low S c)) x (nI S) 1 (nI c) = k67 hi (upd s 47 y) x 0 ∧ ¬ ((∀ i, i < C → S.testBit i = true → bt hid i = false ∧ bt tak i = false) ∧ (fa_cnt S.testBit C = 0 ∨ G + pop hid + fa_cnt S.testBit C ≤ C))) := by
  obtain ⟨⟨hC2, hC9, hG, hGC, hD⟩, ⟨e0, e1, e2⟩, -, -⟩ := id hH
  obtain ⟨⟨⟨e44, e45, e46, e47, e48, e63⟩, eg⟩, ⟨s1, s2, s3, s4, s5, hT⟩, m1, m2⟩ := id hF
  intro m
  induction m with
  | zero =>
    intro c n hc hn h1 h2
    obtain ⟨n, rfl⟩ : ∃ k, n = k + 1 := ⟨n - 1, by omega⟩
    have e : c = C := by omega
    subst e
    left
    refine ⟨?_, h1, h2⟩
    rw [lX12_isTrick_5, if_pos (by rw [pk_un (by omega), e0]; exact nI_le (Nat.le_refl _) (by omega))]
  | succ m ih =>
    intro c n hc hn h1 h2
    obtain ⟨n, rfl⟩ : ∃ k, n = k + 1 := ⟨n - 1, by omega⟩
    have hcC : c < C := by omega
    have hge : ¬ (upd s 47 (hid ||| low S c)) 0 ≤ nI c := by rw [pk_un (by omega), e0]; exact nI_ge (by omega) (by omega)
    have hst := low_step (S := S) (c := c) (by omega) hid
    rw [lX12_isTrick_5, if_neg hge, if_neg (by decide), bitOf_eq (by omega), bind_eq, bt_nI (by omega)]
    by_cases hb : S.testBit c = true
    · rw [if_pos hb, if_neg (by decide)]
      rw [if_pos hb] at hst
      have hsl : sm C (low S c) := by
        intro i a b
        rw [bt_low b]
        simp
        omega
      have hy := whyHM (s := upd s 47 (hid ||| low S c)) (tak := tak) hC9 hG hcC (by rw [pk_un (by omega), e0]) (by rw [pk_un (by omega), e1]) (by rw [pk_us]; exact sm_or s4 hsl) (TK_s hT (by rw [pk_un (by omega), e63]) (fun i hi => by rw [pk_un (by omega)]; exact (eg i hi).2.1))
      rw [pk_us] at hy
      rw [hy, bind_eq]
      have hcnt := fa_cnt_yes hb
      have hpl := pop_low (hid := hid) (S := S) (c := c) (by omega) (fun i hi h => (h1 i hi h).1)
      unfold whyH
      have hbl : bt (hid ||| low S c) c = bt hid c := by
        rw [b_or, bt_low (by omega)]
        simp
      rw [hbl]
      have bad : ∀ z : Int32, ¬ z = 0 → ((bt hid c = true ∨ bt tak c = true) ∨ ¬ G + pop hid + fa_cnt S.testBit c + 1 ≤ C) → (lX12_isTrick_5 bf k67 (n + 1) hi (upd s 47 (hid ||| low S c)) x (nI S) 1 (nI c) = k67 hi (upd s 47 (hid ||| low S C)) x 1 ∧ (∀ i, i < C → S.testBit i = true → bt hid i = false ∧ bt tak i = false) ∧ (fa_cnt S.testBit C = 0 ∨ G + pop hid + fa_cnt S.testBit C ≤ C)) ∨ (∃ y, (if z = 0 then bX12_isTrick_46 bf (lX12_isTrick_5 bf k67 n) hi (upd s 47 (hid ||| low S c)) x (nI S) (nI c) 1 else bX12_isTrick_46 bf (lX12_isTrick_5 bf k67 n) hi (upd s 47 (hid ||| low S c)) x (nI S) (nI c) 0) = k67 hi (upd s 47 y) x 0 ∧ ¬ ((∀ i, i < C → S.testBit i = true → bt hid i = false ∧ bt tak i = false) ∧ (fa_cnt S.testBit C = 0 ∨ G + pop hid + fa_cnt S.testBit C ≤ C))) := by
        intro z hz hbad
        right
        obtain ⟨n, rfl⟩ : ∃ k, n = k + 1 := ⟨n - 1, by omega⟩
        refine ⟨(hid ||| low S c) ||| (1 <<< (nI c &&& 31)), ?_, ?_⟩
        · rw [if_neg hz]
          unfold bX12_isTrick_46
          rw [nmv_eq, nmv_eq, pk_us, fa_upd_twice, lX12_isTrick_5]
          by_cases h : (upd s 47 ((hid ||| low S c) ||| (1 <<< (nI c &&& 31)))) 0 ≤ nI c + 1
          · rw [if_pos h]
          · rw [if_neg h, if_pos rfl]
        · rintro ⟨y1, y2⟩
          rcases hbad with hbad | hbad
          · obtain ⟨z1, z2⟩ := y1 c hcC hb
            rw [z1, z2] at hbad
            rcases hbad with h | h <;> cases h
          · have : fa_cnt S.testBit (c + 1) ≤ fa_cnt S.testBit C := by
              have h9 := cnt_mono (p := S.testBit) (a := c + 1) (C - (c + 1))
              rw [show c + 1 + (C - (c + 1)) = C by omega] at h9
              exact h9
            omega
      by_cases h3 : bt hid c = true
      · rw [if_pos h3]
        rcases bad 2 (by decide) (Or.inl (Or.inl h3)) with h | h
        · exact absurd h3 (by rw [(h.2.1 c hcC hb).1]; decide)
        · exact Or.inr h
      · rw [if_neg h3]
        by_cases h4 : bt tak c = true
        · rw [if_pos h4]
          rcases bad 3 (by decide) (Or.inl (Or.inr h4)) with h | h
          · exact absurd h4 (by rw [(h.2.1 c hcC hb).2]; decide)
          · exact Or.inr h
        · rw [if_neg h4, hpl]
          by_cases h5 : G + (pop hid + fa_cnt S.testBit c) + 1 ≤ C
          · rw [if_pos h5, if_pos (show (0 : Int32) = 0 from rfl)]
            have hgo := ih (c + 1) n (by omega) (by omega) (lt_s h1 (fun _ => ⟨Bool.eq_false_iff.mpr h3, Bool.eq_false_iff.mpr h4⟩)) (by rw [hcnt]; omega)
            unfold bX12_isTrick_46
            rw [nmv_eq, nmv_eq, pk_us, fa_upd_twice, ← hst, nI_1]
            exact hgo
          · rw [if_neg h5]
            right
            rcases bad 4 (by decide) (Or.inr (by omega)) with h | h
            · exfalso
              have h6 := h.2.2
              have h9 := cnt_mono (p := S.testBit) (a := c + 1) (C - (c + 1))
              rw [show c + 1 + (C - (c + 1)) = C by omega, hcnt] at h9
              omega
            · exact h
    · rw [if_neg hb, if_pos rfl, nI_1]
      rw [if_neg hb] at hst
      rw [← hst]
      have hcnt := fa_cnt_no (Bool.eq_false_iff.mpr hb)
      exact ih (c + 1) n (by omega) (by omega) (lt_s h1 (fun h => absurd h hb)) (by rw [hcnt]; exact h2)
