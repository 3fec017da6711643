/-! ===== pure: what a reader takes ===== -/
theorem tok_n1 {kd nb : Int32} {wd : Int64} {ky tk nb2 : Int32} {wd2 : Int64} (h : TokK kd nb wd ky tk nb2 wd2) : (kd = 97 ∧ tk = 1 ∧ ∃ r, WL r ∧ wd = w5 r ∧ wd2 = w8 r ∧ ky = kix r) ∨ (¬ kd = 97 ∧ ¬ tk = 1 ∧ ky = -1) := by
  rcases h with ⟨rfl, rfl, h⟩ | ⟨rfl, rfl, h⟩ | ⟨rfl, rfl, h, -⟩ | ⟨rfl, rfl, h⟩ | ⟨c, hc, rfl, rfl, -, h⟩
  · exact Or.inr ⟨by decide, by decide, h⟩
  · exact Or.inr ⟨by decide, by decide, h⟩
  · exact Or.inr ⟨by decide, by decide, h⟩
  · exact Or.inl ⟨rfl, rfl, h⟩
  · refine Or.inr ⟨?_, by decide, h⟩
    rcases hc with rfl | rfl | rfl | rfl | rfl | rfl <;> decide
theorem tok_num {kd nb : Int32} {wd : Int64} {ky tk nb2 : Int32} {wd2 : Int64} (h : TokK kd nb wd ky tk nb2 wd2) : (kd = 48 ∧ tk = 2 ∧ ∃ v, v ≤ 999 ∧ nb = nI v ∧ nb2 = nI v) ∨ (¬ kd = 48 ∧ ¬ tk = 2) := by
  rcases h with ⟨rfl, rfl, h⟩ | ⟨rfl, rfl, h⟩ | ⟨rfl, rfl, -, h⟩ | ⟨rfl, rfl, h⟩ | ⟨c, hc, rfl, rfl, -, h⟩
  · exact Or.inr ⟨by decide, by decide⟩
  · exact Or.inr ⟨by decide, by decide⟩
  · exact Or.inl ⟨rfl, rfl, h⟩
  · exact Or.inr ⟨by decide, by decide⟩
  · refine Or.inr ⟨?_, by decide⟩
    rcases hc with rfl | rfl | rfl | rfl | rfl | rfl <;> decide
theorem sg_lt {c : Nat} (h : isSg c) : 2 ≤ c ∧ c < 97 ∧ c ≠ 48 := by
  unfold isSg at h
  omega
theorem tok_sg {kd nb : Int32} {wd : Int64} {ky tk nb2 : Int32} {wd2 : Int64} (h : TokK kd nb wd ky tk nb2 wd2) {c : Nat} (hc : isSg c) : (kd = nI c ∧ tk = 3 ∧ nb2 = nI c) ∨ (¬ kd = nI c ∧ ¬ (tk = 3 ∧ nb2 = nI c)) := by
  have hb := sg_lt hc
  have nk : ∀ j, j < 256 → j ≠ c → ¬ nI j = nI c := fun j hj e h => e ((nI_eq (by omega) (by omega)).mp h)
  rcases h with ⟨rfl, rfl, h⟩ | ⟨rfl, rfl, h⟩ | ⟨rfl, rfl, -, h⟩ | ⟨rfl, rfl, h⟩ | ⟨d, hd, rfl, rfl, rfl, h⟩
  · exact Or.inr ⟨nk 0 (by omega) (by omega), fun h => absurd h.1 (by decide)⟩
  · exact Or.inr ⟨nk 1 (by omega) (by omega), fun h => absurd h.1 (by decide)⟩
  · exact Or.inr ⟨nk 48 (by omega) (by omega), fun h => absurd h.1 (by decide)⟩
  · exact Or.inr ⟨nk 97 (by omega) (by omega), fun h => absurd h.1 (by decide)⟩
  · have := sg_lt hd
    by_cases e : d = c
    · subst e
      exact Or.inl ⟨rfl, rfl, rfl⟩
    · exact Or.inr ⟨nk d (by omega) e, fun h => nk d (by omega) e h.2⟩
theorem tok_end {kd nb : Int32} {wd : Int64} {ky tk nb2 : Int32} {wd2 : Int64} (h : TokK kd nb wd ky tk nb2 wd2) : (kd = 0 ∧ tk = 0) ∨ (¬ kd = 0 ∧ ¬ tk = 0) := by
  rcases h with ⟨rfl, rfl, h⟩ | ⟨rfl, rfl, h⟩ | ⟨rfl, rfl, -, h⟩ | ⟨rfl, rfl, h⟩ | ⟨c, hc, rfl, rfl, -, h⟩
  · exact Or.inl ⟨rfl, rfl⟩
  · exact Or.inr ⟨by decide, by decide⟩
  · exact Or.inr ⟨by decide, by decide⟩
  · exact Or.inr ⟨by decide, by decide⟩
  · have := sg_lt hc
    exact Or.inr ⟨nI_ne0 (by omega) (by omega), by decide⟩
theorem isSign_yes {tk nb2 : Int32} {c : Int32} (h1 : tk = 3) (h2 : nb2 = c) : fX12_isSign tk nb2 c = some 1 := by
  unfold fX12_isSign
  rw [if_pos h1, if_pos h2]
theorem isSign_no {tk nb2 : Int32} {c : Int32} (h : ¬ (tk = 3 ∧ nb2 = c)) : fX12_isSign tk nb2 c = some 0 := by
  unfold fX12_isSign
  by_cases h1 : tk = 3
  · rw [if_pos h1, if_neg (fun h2 => h ⟨h1, h2⟩)]
  · rw [if_neg h1]
/-- a sign is taken, or is not there -/
theorem sim_sign {n lim b : Nat} {B tp : A1} {keys res : Nat → Int64} (hK : RKy keys res) (hn : n ≤ 940) (hl : lim ≤ 940) (hO : OneT B tp) {bh at1 kd nb : Int32} {wd : Int64} {ky p tk at2 nb2 : Int32} {wd2 : Int64} (hR : RTok n b bh at1 kd nb wd ky p tk at2 nb2 wd2) {c : Nat} (hc : isSg c) (sp fa fa2 : Int32) :
    (∃ (b' : Nat) (bh' at1' kd' nb' : Int32) (wd' : Int64) (ky' p' tk' at2' sp' nb2' : Int32) (wd2' : Int64), fX6_takeSign 940 (nI lim) (nI n) B keys bh at1 kd nb wd ky 0 fa (nI c) = some (1, bh', at1', kd', nb', wd', ky', 0, fa) ∧ fX12_sign (nI n) (nI lim) tp p tk at2 sp nb2 0 fa2 wd2 (nI c) = some (1, p', tk', at2', sp', nb2', 0, fa2, wd2') ∧ kd = nI c ∧ RTok n b' bh' at1' kd' nb' wd' ky' p' tk' at2' nb2' wd2' ∧ b + 1 ≤ phi b' kd') ∨
    (fX6_takeSign 940 (nI lim) (nI n) B keys bh at1 kd nb wd ky 0 fa (nI c) = some (0, bh, at1, kd, nb, wd, ky, 1, at1) ∧ fX12_sign (nI n) (nI lim) tp p tk at2 sp nb2 0 fa2 wd2 (nI c) = some (0, p, tk, at2, sp, nb2, 1, at1, wd2) ∧ ¬ kd = nI c) := by
  obtain ⟨hb, rfl, rfl, ⟨a, ha, rfl, rfl⟩, hT⟩ := hR
  unfold fX6_takeSign fX12_sign
  rcases tok_sg hT hc with ⟨h1, h2, h3⟩ | ⟨h1, h2⟩
  · left
    obtain ⟨b', bh', at1', kd', nb', wd', ky', p', tk', at2', sp', nb2', wd2', y1, y2, y3, y4⟩ := sim_step (lim := lim) hK hn hl hO hb (nI a) kd nb wd ky tk (nI a) sp nb2 wd2
    refine ⟨b', bh', at1', kd', nb', wd', ky', p', tk', at2', sp', nb2', wd2', ?_, ?_, h1, y3, y4⟩
    · rw [if_pos h1, y1, bind_eq]
    · rw [isSign_yes h2 h3, bind_eq, if_neg nn1, y2, bind_eq]
  · right
    refine ⟨?_, ?_, h1⟩
    · rw [if_neg h1]
      rfl
    · rw [isSign_no h2, bind_eq, if_pos rfl]
      rfl
/-- a number is taken, or a fault told -/
theorem sim_number {n lim b : Nat} {B tp : A1} {keys res : Nat → Int64} (hK : RKy keys res) (hn : n ≤ 940) (hl : lim ≤ 940) (hO : OneT B tp) {bh at1 kd nb : Int32} {wd : Int64} {ky p tk at2 nb2 : Int32} {wd2 : Int64} (hR : RTok n b bh at1 kd nb wd ky p tk at2 nb2 wd2) (sp ta fa fa2 got lo hi : Int32) :
    (∃ (v : Nat) (b' : Nat) (bh' at1' kd' nb' : Int32) (wd' : Int64) (ky' p' tk' at2' sp' nb2' : Int32) (wd2' : Int64), fX6_takeNumber 940 (nI lim) (nI n) B keys bh at1 kd nb wd ky ta 0 fa lo hi = some (1, bh', at1', kd', nb', wd', ky', nI v, 0, fa) ∧ fX12_takes (nI n) (nI lim) tp p tk at2 sp nb2 0 fa2 wd2 got lo hi = some (1, p', tk', at2', sp', nb2', 0, fa2, wd2', nI v) ∧ v ≤ 999 ∧ ¬ nI v < lo ∧ nI v ≤ hi ∧ kd = 48 ∧ RTok n b' bh' at1' kd' nb' wd' ky' p' tk' at2' nb2' wd2' ∧ b + 1 ≤ phi b' kd') ∨
    (∃ k : Int32, ¬ k = 0 ∧ fX6_takeNumber 940 (nI lim) (nI n) B keys bh at1 kd nb wd ky ta 0 fa lo hi = some (0, bh, at1, kd, nb, wd, ky, ta, k, at1) ∧ fX12_takes (nI n) (nI lim) tp p tk at2 sp nb2 0 fa2 wd2 got lo hi = some (0, p, tk, at2, sp, nb2, k, at1, wd2, got)) := by
  obtain ⟨hb, rfl, rfl, ⟨a, ha, rfl, rfl⟩, hT⟩ := hR
  unfold fX6_takeNumber fX12_takes fX12_isIn
  rcases tok_num hT with ⟨h1, h2, v, hv, e1, e2⟩ | ⟨h1, h2⟩
  · rw [if_pos h1, if_pos h2, e1, e2]
    by_cases h3 : nI v < lo
    · right
      refine ⟨2, by decide, ?_, ?_⟩
      · rw [if_pos h3]
        rfl
      · rw [if_pos h3]
        rfl
    · rw [if_neg h3, if_neg h3]
      by_cases h4 : nI v ≤ hi
      · left
        obtain ⟨b', bh', at1', kd', nb', wd', ky', p', tk', at2', sp', nb2', wd2', y1, y2, y3, y4⟩ := sim_step (lim := lim) hK hn hl hO hb (nI a) kd (nI v) wd ky tk (nI a) sp (nI v) wd2
        refine ⟨v, b', bh', at1', kd', nb', wd', ky', p', tk', at2', sp', nb2', wd2', ?_, ?_, hv, h3, h4, h1, y3, y4⟩
        · rw [if_pos h4, y1, bind_eq]
        · rw [if_neg (fun h => (fa_of_lt h).2.1 h4), bind_eq, if_neg nn1, y2, bind_eq]
      · right
        refine ⟨2, by decide, ?_, ?_⟩
        · rw [if_neg h4]
          rfl
        · rw [if_pos (fa_of_nle h4)]
          rfl
  · right
    refine ⟨1, by decide, ?_, ?_⟩
    · rw [if_neg h1]
      rfl
    · rw [if_neg h2]
      rfl
/-- a name, or none -/
theorem sim_name {keys res : Nat → Int64} (hK : RKy keys res) {kd nb : Int32} {wd : Int64} {ky tk nb2 : Int32} {wd2 : Int64} (hT : TokK kd nb wd ky tk nb2 wd2) :
    (∃ r, WL r ∧ wd = w5 r ∧ wd2 = w8 r ∧ kd = 97 ∧ tk = 1 ∧ ky = -1 ∧ fX6_isName kd ky = some 1 ∧ fX12_isName tk wd2 res = some 1) ∨ (fX6_isName kd ky = some 0 ∧ fX12_isName tk wd2 res = some 0 ∧ ¬ (kd = 97 ∧ ky = -1)) := by
  unfold fX6_isName
  rcases tok_n1 hT with ⟨h1, h2, r, hr, e1, e2, e3⟩ | ⟨h1, h2, h3⟩
  · rw [if_pos h1, h2, e2, isName_w hK hr, ← e3]
    by_cases h : ky = -1
    · rw [if_pos h, if_pos h]
      exact Or.inl ⟨r, hr, e1, rfl, h1, rfl, h, rfl, rfl⟩
    · rw [if_neg h, if_neg h]
      exact Or.inr ⟨rfl, rfl, fun h2 => h h2.2⟩
  · rw [if_neg h1, isName_n h2]
    exact Or.inr ⟨rfl, rfl, fun h => h1 h.1⟩
/-- is it this word? -/
theorem sim_word {kd nb : Int32} {wd : Int64} {ky tk nb2 : Int32} {wd2 : Int64} (hT : TokK kd nb wd ky tk nb2 wd2) {k : Nat} (hk : k < 22) : fX12_isWord tk wd2 (w8 (kw k)) = some (if ky = nI k then 1 else 0) := by
  rcases tok_n1 hT with ⟨h1, h2, r, hr, e1, e2, e3⟩ | ⟨h1, h2, h3⟩
  · rw [h2, e2, e3, isWord_w hr hk]
  · rw [isWord_n h2, if_neg]
    rw [h3]
    exact fun e => absurd (show nI k < 0 by rw [← e]; decide) (nI_pos (by omega))
theorem sim_key {kd nb : Int32} {wd : Int64} {ky tk nb2 : Int32} {wd2 : Int64} (hT : TokK kd nb wd ky tk nb2 wd2) {k : Nat} (hk : k < 22) : fX6_isKey kd ky (nI k) = some (if ky = nI k then 1 else 0) := by
  unfold fX6_isKey
  rcases tok_n1 hT with ⟨h1, -⟩ | ⟨h1, h2, h3⟩
  · rw [if_pos h1]
    by_cases h : ky = nI k
    · rw [if_pos h, if_pos h]
    · rw [if_neg h, if_neg h]
  · rw [if_neg h1, if_neg]
    rw [h3]
    exact fun e => absurd (show nI k < 0 by rw [← e]; decide) (nI_pos (by omega))
/-- a key is there: then it is a word -/
theorem key_word {kd nb : Int32} {wd : Int64} {ky tk nb2 : Int32} {wd2 : Int64} (hT : TokK kd nb wd ky tk nb2 wd2) {k : Nat} (hk : k < 22) (h : ky = nI k) : kd = 97 ∧ tk = 1 := by
  rcases tok_n1 hT with ⟨h1, h2, -⟩ | ⟨h1, h2, h3⟩
  · exact ⟨h1, h2⟩
  · rw [h3] at h
    exact absurd (show nI k < 0 by rw [← h]; decide) (nI_pos (by omega))
/-- names in the class and in the reference -/
def RNm (G fr : Nat) (gn nm : Nat → Int64) : Prop := ∀ g, g < G → ∃ r, WL r ∧ gn g = w5 r ∧ nm (fr + g) = w8 r
theorem guest_any {G : Nat} (hG : G ≤ 7) (gn : Nat → Int64) (x : Int64) : ∀ (m j n : Nat), j + m = G → m < n → ∃ q, (q = -1 ∨ ∃ i, i < G ∧ q = nI i) ∧ lX2_guestNamed_2 (nI G) gn n x (nI j) = some q := by
  intro m
  induction m with
  | zero =>
    intro j n hj hn
    obtain ⟨n, rfl⟩ := sn hn
    have e : j = G := by omega
    subst e
    exact ⟨-1, Or.inl rfl, by rw [lX2_guestNamed_2, if_pos (nI_le (Nat.le_refl _) (by omega))]⟩
  | succ m ih =>
    intro j n hj hn
    obtain ⟨n, rfl⟩ := sn hn
    rw [lX2_guestNamed_2, if_neg (nI_ge (by omega) (by omega)), gI_ok (by omega) (by omega), nI_1]
    by_cases h : lg_cmp (gn (Int32.toNatClampNeg (nI j))) x = 0
    · rw [if_pos h]
      exact ⟨nI j, Or.inr ⟨j, by omega, rfl⟩, rfl⟩
    · rw [if_neg h]
      exact ih (j + 1) n (by omega) (by omega)
theorem named_any {G : Nat} (hG : G ≤ 7) (gn : Nat → Int64) (x : Int64) : ∃ q, fX2_guestNamed (nI G) gn x = some q := by
  obtain ⟨q, -, h⟩ := guest_any hG gn x G 0 5000 (by omega) (by omega)
  exact ⟨q, h⟩
theorem dish_any {D : Nat} (hD : D ≤ 6) (dn : Nat → Int64) (x : Int64) : ∀ (m j n : Nat), j + m = D → m < n → ∃ q, lX2_dishNamed_2 (nI D) dn n x (nI j) = some q := by
  intro m
  induction m with
  | zero =>
    intro j n hj hn
    obtain ⟨n, rfl⟩ := sn hn
    have e : j = D := by omega
    subst e
    exact ⟨-1, by rw [lX2_dishNamed_2, if_pos (nI_le (Nat.le_refl _) (by omega))]⟩
  | succ m ih =>
    intro j n hj hn
    obtain ⟨n, rfl⟩ := sn hn
    rw [lX2_dishNamed_2, if_neg (nI_ge (by omega) (by omega)), gI_ok (by omega) (by omega), nI_1]
    by_cases h : lg_cmp (dn (Int32.toNatClampNeg (nI j))) x = 0
    · rw [if_pos h]
      exact ⟨nI j, rfl⟩
    · rw [if_neg h]
      exact ih (j + 1) n (by omega) (by omega)
theorem dnamed_any {D : Nat} (hD : D ≤ 6) (dn : Nat → Int64) (x : Int64) : ∃ q, fX2_dishNamed (nI D) dn x = some q := dish_any hD dn x D 0 5000 (by omega) (by omega)
theorem seek_loop {G fr : Nat} (hG : G ≤ 7) (hfr : fr + G ≤ 26) {gn nm : Nat → Int64} (hN : RNm G fr gn nm) {r : List Nat} (hr : WL r) : ∀ (m j n1 n2 : Nat), j + m = G → m < n1 → m < n2 → ∃ q, (q = -1 ∨ ∃ i, i < G ∧ q = nI i) ∧ lX2_guestNamed_2 (nI G) gn n1 (w5 r) (nI j) = some q ∧ lX12_seek_2 (w8 r) nm n2 (nI fr) (nI G) (nI j) = some q := by
  intro m
  induction m with
  | zero =>
    intro j n1 n2 hj hn1 hn2
    obtain ⟨n1, rfl⟩ := sn hn1
    obtain ⟨n2, rfl⟩ := sn hn2
    have e : j = G := by omega
    subst e
    exact ⟨-1, Or.inl rfl, by rw [lX2_guestNamed_2, if_pos (nI_le (Nat.le_refl _) (by omega))], by rw [lX12_seek_2, if_pos (nI_le (Nat.le_refl _) (by omega))]⟩
  | succ m ih =>
    intro j n1 n2 hj hn1 hn2
    obtain ⟨n1, rfl⟩ := sn hn1
    obtain ⟨n2, rfl⟩ := sn hn2
    obtain ⟨x, hx, e1, e2⟩ := hN j (by omega)
    rw [lX2_guestNamed_2, if_neg (nI_ge (by omega) (by omega)), gI_ok (by omega) (by omega), ix0 (by omega), e1, lX12_seek_2, if_neg (nI_ge (by omega) (by omega)), gI_oka (by omega) (by omega), ixa (by omega), e2, nI_1]
    by_cases h : x = r
    · rw [if_pos ((w5_eq hx hr).mpr h), if_pos ((w8_eq hx hr).mpr h)]
      exact ⟨nI j, Or.inr ⟨j, by omega, rfl⟩, rfl, rfl⟩
    · rw [if_neg (fun e => h ((w5_eq hx hr).mp e)), if_neg (fun e => h ((w8_eq hx hr).mp e))]
      exact ih (j + 1) n1 n2 (by omega) (by omega) (by omega)
theorem seek_eq {G fr : Nat} (hG : G ≤ 7) (hfr : fr + G ≤ 26) {gn nm : Nat → Int64} (hN : RNm G fr gn nm) {r : List Nat} (hr : WL r) : ∃ q, (q = -1 ∨ ∃ i, i < G ∧ q = nI i) ∧ fX2_guestNamed (nI G) gn (w5 r) = some q ∧ fX12_seek (w8 r) nm (nI fr) (nI G) = some q := seek_loop hG hfr hN hr G 0 5000 5000 (by omega) (by omega) (by omega)
theorem seekD_loop {D fr : Nat} (hD : D ≤ 6) (hfr : fr + D ≤ 26) {dn nm : Nat → Int64} (hN : RNm D fr dn nm) {r : List Nat} (hr : WL r) : ∀ (m j n1 n2 : Nat), j + m = D → m < n1 → m < n2 → ∃ q, (q = -1 ∨ ∃ i, i < D ∧ q = nI i) ∧ lX2_dishNamed_2 (nI D) dn n1 (w5 r) (nI j) = some q ∧ lX12_seek_2 (w8 r) nm n2 (nI fr) (nI D) (nI j) = some q := by
  intro m
  induction m with
  | zero =>
    intro j n1 n2 hj hn1 hn2
    obtain ⟨n1, rfl⟩ := sn hn1
    obtain ⟨n2, rfl⟩ := sn hn2
    have e : j = D := by omega
    subst e
    exact ⟨-1, Or.inl rfl, by rw [lX2_dishNamed_2, if_pos (nI_le (Nat.le_refl _) (by omega))], by rw [lX12_seek_2, if_pos (nI_le (Nat.le_refl _) (by omega))]⟩
  | succ m ih =>
    intro j n1 n2 hj hn1 hn2
    obtain ⟨n1, rfl⟩ := sn hn1
    obtain ⟨n2, rfl⟩ := sn hn2
    obtain ⟨x, hx, e1, e2⟩ := hN j (by omega)
    rw [lX2_dishNamed_2, if_neg (nI_ge (by omega) (by omega)), gI_ok (by omega) (by omega), ix0 (by omega), e1, lX12_seek_2, if_neg (nI_ge (by omega) (by omega)), gI_oka (by omega) (by omega), ixa (by omega), e2, nI_1]
    by_cases h : x = r
    · rw [if_pos ((w5_eq hx hr).mpr h), if_pos ((w8_eq hx hr).mpr h)]
      exact ⟨nI j, Or.inr ⟨j, by omega, rfl⟩, rfl, rfl⟩
    · rw [if_neg (fun e => h ((w5_eq hx hr).mp e)), if_neg (fun e => h ((w8_eq hx hr).mp e))]
      exact ih (j + 1) n1 n2 (by omega) (by omega) (by omega)
theorem seekD_eq {D fr : Nat} (hD : D ≤ 6) (hfr : fr + D ≤ 26) {dn nm : Nat → Int64} (hN : RNm D fr dn nm) {r : List Nat} (hr : WL r) : ∃ q, (q = -1 ∨ ∃ i, i < D ∧ q = nI i) ∧ fX2_dishNamed (nI D) dn (w5 r) = some q ∧ fX12_seek (w8 r) nm (nI fr) (nI D) = some q := seekD_loop hD hfr hN hr D 0 5000 5000 (by omega) (by omega) (by omega)
