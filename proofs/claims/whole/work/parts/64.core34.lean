/-! ===== pure: a BOOK's text ===== -/
theorem ky_vals {kd nb : Int32} {wd : Int64} {ky tk nb2 : Int32} {wd2 : Int64} (h : TokK kd nb wd ky tk nb2 wd2) : ky = -1 ∨ ∃ k, k < 22 ∧ ky = nI k := by
  rcases tok_n1 h with ⟨-, -, r, hr, -, -, e⟩ | ⟨-, -, e⟩
  · rcases kix_or r with ⟨k, hk, -, e2⟩ | ⟨e2, -⟩
    · exact Or.inr ⟨k, hk, by rw [e, e2]⟩
    · exact Or.inl (by rw [e, e2])
  · exact Or.inl e
/-- names of the HALL, both -/
def RN2 (G D : Nat) (gn dn : Nat → Int64) (s : A1) (nm : Nat → Int64) : Prop := (G ≤ 7 ∧ D ≤ 6) ∧ (s 1 = nI G ∧ s 2 = nI D) ∧ RNm G 0 gn nm ∧ RNm D 7 dn nm
theorem seekG {G D : Nat} {gn dn : Nat → Int64} {s : A1} {nm : Nat → Int64} (hN : RN2 G D gn dn s nm) {q : Int32} {x y : Int64} (hx : fX2_guestNamed (nI G) gn x = some q) : ∀ r, WL r → x = w5 r → y = w8 r → fX12_seek y nm 0 (s 1) = some q ∧ (q = -1 ∨ ∃ i, i < G ∧ q = nI i) := by
  intro r hr e1 e2
  obtain ⟨q', z1, z2, z3⟩ := seek_eq (fr := 0) hN.1.1 (by have := hN.1; omega) hN.2.2.1 hr
  rw [e1, z2] at hx
  injection hx with hx
  rw [e2, hN.2.1.1, ← hx]
  exact ⟨z3, z1⟩
theorem seekD {G D : Nat} {gn dn : Nat → Int64} {s : A1} {nm : Nat → Int64} (hN : RN2 G D gn dn s nm) {q : Int32} {x y : Int64} (hx : fX2_dishNamed (nI D) dn x = some q) : ∀ r, WL r → x = w5 r → y = w8 r → fX12_seek y nm 7 (s 2) = some q ∧ (q = -1 ∨ ∃ i, i < D ∧ q = nI i) := by
  intro r hr e1 e2
  obtain ⟨q', z1, z2, z3⟩ := seekD_eq (fr := 7) hN.1.2 (by have := hN.1; omega) hN.2.2.2 hr
  rw [e1, z2] at hx
  injection hx with hx
  rw [e2, hN.2.1.2, ← hx]
  exact ⟨z3, z1⟩
/-- what a LINE adds to what was read, both -/
def RAdd (G D l : Nat) (dd ww rd dd' ww' rd' : A1) : Prop := RLn G D (dd' l) (ww' l) (rd' (3 * l)) (rd' (3 * l + 1)) ∧ ∀ i, i < l → dd' i = dd i ∧ ww' i = ww i ∧ rd' (3 * i) = rd (3 * i) ∧ rd' (3 * i + 1) = rd (3 * i + 1)
/-- a LINE 'serve', 'hide', 'show' or 'round', behind its word -/
theorem sim_other {n lim b : Nat} {B tp : A1} {keys res : Nat → Int64} (hK : RKy keys res) (hn : n ≤ 940) (hl : lim ≤ 940) (hO : OneT B tp) {bh at1 kd nb : Int32} {wd : Int64} {ky p tk at2 nb2 : Int32} {wd2 : Int64} (hR : RTok n b bh at1 kd nb wd ky p tk at2 nb2 wd2) {G D : Nat} {gn dn : Nat → Int64} {s : A1} {nm : Nat → Int64} (hN : RN2 G D gn dn s nm) {l : Nat} (hl40 : l < 40) {k : Nat} (hk : k = 6 ∨ k = 7 ∨ k = 8 ∨ k = 9) (sp ta fa fa2 got : Int32) (dd ww rd : A1) :
    (∃ (b' : Nat) (bh' at1' kd' nb' : Int32) (wd' : Int64) (ky' p' tk' at2' sp' nb2' : Int32) (wd2' : Int64) (ta' got' : Int32) (dd' ww' rd' : A1), fX5_readOtherDeed 940 (nI l) (nI lim) (nI n) B keys (nI D) dn bh at1 kd nb wd ky ta 0 fa dd ww (nI k) = some (1, bh', at1', kd', nb', wd', ky', ta', 0, fa, dd', ww') ∧ bX12_bookLine_85 (nI n) (nI lim) (nI l) tp s nm res p tk at2 sp nb2 0 fa2 wd2 got rd (3 * nI l) (nI (k - 4)) = some (1, p', tk', at2', sp', nb2', 0, fa2, wd2', got', rd') ∧ RAdd G D l dd ww rd dd' ww' rd' ∧ RTok n b' bh' at1' kd' nb' wd' ky' p' tk' at2' nb2' wd2' ∧ b + 2 ≤ phi b' kd') ∨
    (∃ (q f : Int32) (bh' at1' kd' nb' : Int32) (wd' : Int64) (ky' ta' : Int32) (dd' ww' : A1) (p' tk' at2' sp' nb2' : Int32) (wd2' : Int64) (got' : Int32) (rd' : A1), ¬ q = 0 ∧ fX5_readOtherDeed 940 (nI l) (nI lim) (nI n) B keys (nI D) dn bh at1 kd nb wd ky ta 0 fa dd ww (nI k) = some (0, bh', at1', kd', nb', wd', ky', ta', q, f, dd', ww') ∧ bX12_bookLine_85 (nI n) (nI lim) (nI l) tp s nm res p tk at2 sp nb2 0 fa2 wd2 got rd (3 * nI l) (nI (k - 4)) = some (0, p', tk', at2', sp', nb2', q, f, wd2', got', rd')) := by
  obtain ⟨hb, rfl, rfl, ⟨a, ha, rfl, rfl⟩, hT⟩ := hR
  obtain ⟨b1, bh1, at11, kd1, nb1, wd1, ky1, p1', tk1, at21, sp1, nb21, wd21, y1, y2, y3, y4⟩ := sim_step (lim := lim) hK hn hl hO hb (nI a) kd nb wd ky tk (nI a) sp nb2 wd2
  have h40 : ¬ nI l = 40 := fun e => absurd ((nI_eq (b := 40) (by omega) (by omega)).mp e) (by omega)
  have e3 : (3 : Int32) * nI l = nI (3 * l) := pk_mul 3 l
  unfold fX5_readOtherDeed bX12_bookLine_85
  rw [if_neg h40, y1, y2, bind_eq, bind_eq, e3]
  dsimp only
  rw [gI_ok (show 3 * l < 135 by omega) (by omega), nmv_eq, nI_1, gI_ok (show 3 * l + 1 < 135 by omega) (by omega), nmv_eq, ix0 (show 3 * l < 1000 by omega), ix0 (show 3 * l + 1 < 1000 by omega)]
  unfold bX5_readOtherDeed_69 bX12_bookLine_223
  rcases hk with rfl | rfl | rfl | rfl
  · rw [show nI 6 = 6 from rfl, show nI (6 - 4) = 2 from rfl, if_pos rfl, if_neg (by decide), if_pos rfl]
    obtain ⟨q0, hq0⟩ := dnamed_any hN.1.2 dn wd1
    rw [hq0, bind_eq]
    rcases sim_takesName hK hn hl hO y3 (show D ≤ 100 by have := hN.1; omega) (seekD hN hq0) sp1 ta fa fa2 got with ⟨v, b', bh', at1', kd', nb', wd', ky', p', tk', at2', sp', nb2', wd2', x1, x2, x3, -, z1, z2, z7, z8⟩ | ⟨q, got', k0, z1, z2⟩
    · left
      have l1 : phi b1 kd1 = b1 := phi_97 x3
      rw [z1, z2, bind_eq, bind_eq]
      dsimp only
      refine ⟨b', bh', at1', kd', nb', wd', ky', p', tk', at2', sp', nb2', wd2', nI v, nI v, upd dd l 6, upd ww l (nI v), upd (upd (upd rd (3 * l) 2) (3 * l + 1) got) (3 * l + 1) (nI v), ?_, ?_, ⟨Or.inr (Or.inr (Or.inl ⟨v, x1, pk_us, by rw [pk_un (by omega), pk_un (by omega), pk_us], pk_us, pk_us⟩)), fun i hi => ⟨pk_un (by omega), pk_un (by omega), by rw [pk_un (by omega), pk_un (by omega), pk_un (by omega)], by rw [pk_un (by omega), pk_un (by omega), pk_un (by omega)]⟩⟩, z7, by omega⟩
      · rw [gI_ok hl40 (by omega), nmv_eq, gI_ok hl40 (by omega), nmv_eq, gB_1, ix0 (show l < 1000 by omega)]
      · rw [nI_1, gI_ok (show 3 * l + 1 < 135 by omega) (by omega), nmv_eq, gB_1, ix0 (show 3 * l + 1 < 1000 by omega)]
    · right
      rw [z1, z2, bind_eq, bind_eq]
      dsimp only
      refine ⟨q, at11, bh1, at11, kd1, nb1, wd1, ky1, ta, upd dd l 6, upd ww l ta, p1', tk1, at21, sp1, nb21, wd21, got', upd (upd (upd rd (3 * l) 2) (3 * l + 1) got) (3 * l + 1) got', k0, ?_, ?_⟩
      · rw [gI_ok hl40 (by omega), nmv_eq, gI_ok hl40 (by omega), nmv_eq, gB_0, ix0 (show l < 1000 by omega)]
      · rw [nI_1, gI_ok (show 3 * l + 1 < 135 by omega) (by omega), nmv_eq, gB_0, ix0 (show 3 * l + 1 < 1000 by omega)]
  · rw [show nI 7 = 7 from rfl, show nI (7 - 4) = 3 from rfl, if_neg (by decide), if_neg (by decide), if_neg (by decide), if_neg (by decide), if_neg (by decide)]
    rcases sim_number hK hn hl hO y3 sp1 ta fa fa2 got 0 8 with ⟨v, b', bh', at1', kd', nb', wd', ky', p', tk', at2', sp', nb2', wd2', z1, z2, z3, z4, z5, z6, z7, z8⟩ | ⟨q, k0, z1, z2⟩
    · left
      have l1 : phi b1 kd1 = b1 := phi_48 z6
      have q8 : v ≤ 8 := nle_nat (k := 8) z3 (by omega) z5
      have q1 : 0 ≤ v := nlt_nat (k := 0) (by omega) z4
      rw [z1, z2, bind_eq, bind_eq]
      dsimp only
      refine ⟨b', bh', at1', kd', nb', wd', ky', p', tk', at2', sp', nb2', wd2', nI v, nI v, upd dd l 7, upd ww l (nI v), upd (upd (upd rd (3 * l) 3) (3 * l + 1) got) (3 * l + 1) (nI v), ?_, ?_, ⟨Or.inr (Or.inr (Or.inr (Or.inl ⟨v, by omega, pk_us, by rw [pk_un (by omega), pk_un (by omega), pk_us], pk_us, pk_us⟩))), fun i hi => ⟨pk_un (by omega), pk_un (by omega), by rw [pk_un (by omega), pk_un (by omega), pk_un (by omega)], by rw [pk_un (by omega), pk_un (by omega), pk_un (by omega)]⟩⟩, z7, by omega⟩
      · rw [gI_ok hl40 (by omega), nmv_eq, gI_ok hl40 (by omega), nmv_eq, gB_1, ix0 (show l < 1000 by omega)]
      · rw [nI_1, gI_ok (show 3 * l + 1 < 135 by omega) (by omega), nmv_eq, gB_1, ix0 (show 3 * l + 1 < 1000 by omega)]
    · right
      rw [z1, z2, bind_eq, bind_eq]
      dsimp only
      refine ⟨q, at11, bh1, at11, kd1, nb1, wd1, ky1, ta, upd dd l 7, upd ww l ta, p1', tk1, at21, sp1, nb21, wd21, got, upd (upd (upd rd (3 * l) 3) (3 * l + 1) got) (3 * l + 1) got, k0, ?_, ?_⟩
      · rw [gI_ok hl40 (by omega), nmv_eq, gI_ok hl40 (by omega), nmv_eq, gB_0, ix0 (show l < 1000 by omega)]
      · rw [nI_1, gI_ok (show 3 * l + 1 < 135 by omega) (by omega), nmv_eq, gB_0, ix0 (show 3 * l + 1 < 1000 by omega)]
  · rw [show nI 8 = 8 from rfl, show nI (8 - 4) = 4 from rfl, if_neg (by decide), if_neg (by decide), if_neg (by decide), if_neg (by decide), if_neg (by decide)]
    rcases sim_number hK hn hl hO y3 sp1 ta fa fa2 got 0 8 with ⟨v, b', bh', at1', kd', nb', wd', ky', p', tk', at2', sp', nb2', wd2', z1, z2, z3, z4, z5, z6, z7, z8⟩ | ⟨q, k0, z1, z2⟩
    · left
      have l1 : phi b1 kd1 = b1 := phi_48 z6
      have q8 : v ≤ 8 := nle_nat (k := 8) z3 (by omega) z5
      have q1 : 0 ≤ v := nlt_nat (k := 0) (by omega) z4
      rw [z1, z2, bind_eq, bind_eq]
      dsimp only
      refine ⟨b', bh', at1', kd', nb', wd', ky', p', tk', at2', sp', nb2', wd2', nI v, nI v, upd dd l 8, upd ww l (nI v), upd (upd (upd rd (3 * l) 4) (3 * l + 1) got) (3 * l + 1) (nI v), ?_, ?_, ⟨Or.inr (Or.inr (Or.inr (Or.inr (Or.inl ⟨v, by omega, pk_us, by rw [pk_un (by omega), pk_un (by omega), pk_us], pk_us, pk_us⟩)))), fun i hi => ⟨pk_un (by omega), pk_un (by omega), by rw [pk_un (by omega), pk_un (by omega), pk_un (by omega)], by rw [pk_un (by omega), pk_un (by omega), pk_un (by omega)]⟩⟩, z7, by omega⟩
      · rw [gI_ok hl40 (by omega), nmv_eq, gI_ok hl40 (by omega), nmv_eq, gB_1, ix0 (show l < 1000 by omega)]
      · rw [nI_1, gI_ok (show 3 * l + 1 < 135 by omega) (by omega), nmv_eq, gB_1, ix0 (show 3 * l + 1 < 1000 by omega)]
    · right
      rw [z1, z2, bind_eq, bind_eq]
      dsimp only
      refine ⟨q, at11, bh1, at11, kd1, nb1, wd1, ky1, ta, upd dd l 8, upd ww l ta, p1', tk1, at21, sp1, nb21, wd21, got, upd (upd (upd rd (3 * l) 4) (3 * l + 1) got) (3 * l + 1) got, k0, ?_, ?_⟩
      · rw [gI_ok hl40 (by omega), nmv_eq, gI_ok hl40 (by omega), nmv_eq, gB_0, ix0 (show l < 1000 by omega)]
      · rw [nI_1, gI_ok (show 3 * l + 1 < 135 by omega) (by omega), nmv_eq, gB_0, ix0 (show 3 * l + 1 < 1000 by omega)]
  · rw [show nI 9 = 9 from rfl, show nI (9 - 4) = 5 from rfl, if_neg (by decide), if_pos rfl, if_neg (by decide), if_neg (by decide), if_pos rfl]
    rcases sim_number hK hn hl hO y3 sp1 ta fa fa2 got 1 60 with ⟨v, b', bh', at1', kd', nb', wd', ky', p', tk', at2', sp', nb2', wd2', z1, z2, z3, z4, z5, z6, z7, z8⟩ | ⟨q, k0, z1, z2⟩
    · left
      have l1 : phi b1 kd1 = b1 := phi_48 z6
      have q8 : v ≤ 60 := nle_nat (k := 60) z3 (by omega) z5
      have q1 : 1 ≤ v := nlt_nat (k := 1) (by omega) z4
      rw [z1, z2, bind_eq, bind_eq]
      dsimp only
      refine ⟨b', bh', at1', kd', nb', wd', ky', p', tk', at2', sp', nb2', wd2', nI v, nI v, upd dd l 9, upd ww l (nI v), upd (upd (upd rd (3 * l) 5) (3 * l + 1) got) (3 * l + 1) (nI v), ?_, ?_, ⟨Or.inr (Or.inr (Or.inr (Or.inr (Or.inr ⟨v, ⟨q1, q8⟩, pk_us, by rw [pk_un (by omega), pk_un (by omega), pk_us], pk_us, pk_us⟩)))), fun i hi => ⟨pk_un (by omega), pk_un (by omega), by rw [pk_un (by omega), pk_un (by omega), pk_un (by omega)], by rw [pk_un (by omega), pk_un (by omega), pk_un (by omega)]⟩⟩, z7, by omega⟩
      · rw [gI_ok hl40 (by omega), nmv_eq, gI_ok hl40 (by omega), nmv_eq, gB_1, ix0 (show l < 1000 by omega)]
      · rw [nI_1, gI_ok (show 3 * l + 1 < 135 by omega) (by omega), nmv_eq, gB_1, ix0 (show 3 * l + 1 < 1000 by omega)]
    · right
      rw [z1, z2, bind_eq, bind_eq]
      dsimp only
      refine ⟨q, at11, bh1, at11, kd1, nb1, wd1, ky1, ta, upd dd l 9, upd ww l ta, p1', tk1, at21, sp1, nb21, wd21, got, upd (upd (upd rd (3 * l) 5) (3 * l + 1) got) (3 * l + 1) got, k0, ?_, ?_⟩
      · rw [gI_ok hl40 (by omega), nmv_eq, gI_ok hl40 (by omega), nmv_eq, gB_0, ix0 (show l < 1000 by omega)]
      · rw [nI_1, gI_ok (show 3 * l + 1 < 135 by omega) (by omega), nmv_eq, gB_0, ix0 (show 3 * l + 1 < 1000 by omega)]
/-- a LINE of a BOOK -/
theorem sim_bline {n lim b : Nat} {B tp : A1} {keys res : Nat → Int64} (hK : RKy keys res) (hn : n ≤ 940) (hl : lim ≤ 940) (hO : OneT B tp) {bh at1 kd nb : Int32} {wd : Int64} {ky p tk at2 nb2 : Int32} {wd2 : Int64} (hR : RTok n b bh at1 kd nb wd ky p tk at2 nb2 wd2) {G D : Nat} {gn dn : Nat → Int64} {s : A1} {nm : Nat → Int64} (hN : RN2 G D gn dn s nm) {l : Nat} (hl40 : l ≤ 40) (sp ta fa fa2 got : Int32) (dd ww rd : A1) :
    (∃ (b' : Nat) (bh' at1' kd' nb' : Int32) (wd' : Int64) (ky' p' tk' at2' sp' nb2' : Int32) (wd2' : Int64) (ta' got' : Int32) (dd' ww' rd' : A1), fX5_readLine 940 (nI lim) (nI n) B keys (nI G) (nI D) gn dn (nI l) bh at1 kd nb wd ky ta 0 fa dd ww = bX5_readLine_114 940 (nI lim) (nI n) B keys (nI G) (nI D) gn dn (nI l) bh' at1' kd' nb' wd' ky' ta' 0 fa dd' ww' ∧ fX12_bookLine (nI n) (nI lim) (nI l) tp s nm res p tk at2 sp nb2 0 fa2 wd2 got rd = some (1, p', tk', at2', sp', nb2', 0, fa2, wd2', got', rd') ∧ l < 40 ∧ kd = 97 ∧ RAdd G D l dd ww rd dd' ww' rd' ∧ RTok n b' bh' at1' kd' nb' wd' ky' p' tk' at2' nb2' wd2' ∧ b + 2 ≤ phi b' kd') ∨
    (∃ (q f : Int32) (ln' bh' at1' kd' nb' : Int32) (wd' : Int64) (ky' ta' : Int32) (dd' ww' : A1) (p' tk' at2' sp' nb2' : Int32) (wd2' : Int64) (got' : Int32) (rd' : A1), ¬ q = 0 ∧ fX5_readLine 940 (nI lim) (nI n) B keys (nI G) (nI D) gn dn (nI l) bh at1 kd nb wd ky ta 0 fa dd ww = some (0, ln', bh', at1', kd', nb', wd', ky', ta', q, f, dd', ww') ∧ fX12_bookLine (nI n) (nI lim) (nI l) tp s nm res p tk at2 sp nb2 0 fa2 wd2 got rd = some (0, p', tk', at2', sp', nb2', q, f, wd2', got', rd')) := by
  obtain ⟨hb, e1, e2, ⟨a, ha, ea1, ea2⟩, hT⟩ := id hR
  have w6 := sim_word hT (k := 6) (by omega)
  have w7 := sim_word hT (k := 7) (by omega)
  have w8 := sim_word hT (k := 8) (by omega)
  have w9 := sim_word hT (k := 9) (by omega)
  rw [← kW6] at w6
  rw [← kW7] at w7
  rw [← kW8] at w8
  rw [← kW9] at w9
  -- a LINE that begins with one of the four words
  have four : ∀ k, (k = 6 ∨ k = 7 ∨ k = 8 ∨ k = 9) → ky = nI k → fX12_bookLine (nI n) (nI lim) (nI l) tp s nm res p tk at2 sp nb2 0 fa2 wd2 got rd = bX12_bookLine_85 (nI n) (nI lim) (nI l) tp s nm res p tk at2 sp nb2 0 fa2 wd2 got rd (3 * nI l) (nI (k - 4)) := by
    intro k hk e
    unfold fX12_bookLine bX12_bookLine_64
    rw [e] at w6 w7 w8 w9
    rcases hk with rfl | rfl | rfl | rfl
    · rw [if_pos rfl] at w6
      rw [w6, bind_eq, if_neg nn1, if_neg (by decide)]
      rfl
    · rw [if_neg (by decide)] at w6
      rw [if_pos rfl] at w7
      rw [w6, bind_eq, if_pos rfl, w7, bind_eq, if_neg nn1, if_neg (by decide)]
      rfl
    · rw [if_neg (by decide)] at w6 w7
      rw [if_pos rfl] at w8
      rw [w6, bind_eq, if_pos rfl, w7, bind_eq, if_pos rfl, w8, bind_eq, if_neg nn1, if_neg (by decide)]
      rfl
    · rw [if_neg (by decide)] at w6 w7 w8
      rw [if_pos rfl] at w9
      rw [w6, bind_eq, if_pos rfl, w7, bind_eq, if_pos rfl, w8, bind_eq, if_pos rfl, w9, bind_eq, if_neg nn1, if_neg (by decide)]
      rfl
  have none4 : (∀ k, (k = 6 ∨ k = 7 ∨ k = 8 ∨ k = 9) → ¬ ky = nI k) → fX12_bookLine (nI n) (nI lim) (nI l) tp s nm res p tk at2 sp nb2 0 fa2 wd2 got rd = bX12_bookLine_64 (nI n) (nI lim) (nI l) tp s nm res p tk at2 sp nb2 0 fa2 wd2 got rd (3 * nI l) 0 := by
    intro h
    rw [if_neg (h 6 (by omega))] at w6
    rw [if_neg (h 7 (by omega))] at w7
    rw [if_neg (h 8 (by omega))] at w8
    rw [if_neg (h 9 (by omega))] at w9
    unfold fX12_bookLine
    rw [w6, bind_eq, if_pos rfl, w7, bind_eq, if_pos rfl, w8, bind_eq, if_pos rfl, w9, bind_eq, if_pos rfl]
  unfold fX5_readLine
  rcases sim_name hK hT with ⟨r, hr, f1, f2, h1, h2, h3, h4, h5⟩ | ⟨h4, h5, h6⟩
  · -- it begins with a name
    rw [none4 (fun k hk e => neg_nI k (by omega) (by rw [← e, h3])), h4, bind_eq, if_neg nn1]
    unfold bX5_readLine_41 bX12_bookLine_64
    rw [if_neg nn1, if_pos rfl]
    obtain ⟨q, hq⟩ := named_any hN.1.1 gn wd
    rw [hq, bind_eq]
    rcases sim_looks hK hn hl hO hR (show G ≤ 100 by have := hN.1; omega) (seekG hN hq) ta fa fa2 got with ⟨r2, i, hr2, g1, g2, hi, rfl, z1, z2, z3⟩ | ⟨k, got', k0, z1, z2, z3⟩
    · rw [if_neg (neg_nI i (by have := hN.1; omega)), z3, bind_eq]
      dsimp only
      rw [if_neg nn1]
      unfold bX5_readLine_72
      by_cases h40 : l = 40
      · right
        subst h40
        unfold bX12_bookLine_85 fX12_bad fX6_refuse
        rw [if_neg (by decide), if_pos (by decide), if_pos (show nI 40 = 40 from rfl), bind_eq, bind_eq, ea1, ea2]
        exact ⟨4, _, _, _, _, _, _, _, _, _, _, _, _, _, _, _, _, _, _, _, by decide, rfl, rfl⟩
      · have hlt : l < 40 := by omega
        have n40 : ¬ nI l = 40 := fun e => h40 ((nI_eq (b := 40) (by omega) (by omega)).mp e)
        have e3 : (3 : Int32) * nI l = nI (3 * l) := pk_mul 3 l
        rw [if_pos (show nI l < 40 from nI_lt (b := 40) hlt (by omega)), if_neg nn1]
        obtain ⟨b1, bh1, at11, kd1, nb1, wd1, ky1, p1', tk1, at21, sp1, nb21, wd21, y1, y2, y3, y4⟩ := sim_step (lim := lim) hK hn hl hO hb at1 kd nb wd ky tk at2 sp nb2 wd2
        rw [← e1] at y1
        rw [← e2] at y2
        unfold fX5_readGuestDeed fX6_takeNamed bX12_bookLine_85
        rw [hq, bind_eq, z2, bind_eq, if_neg nn1, if_neg (neg_nI i (by have := hN.1; omega)), y1, bind_eq, bind_eq, if_neg n40, y2, bind_eq, e3]
        dsimp only
        rw [if_neg nn1, gI_ok (show 3 * l < 135 by omega) (by omega), nmv_eq, nI_1, gI_ok (show 3 * l + 1 < 135 by omega) (by omega), nmv_eq, ix0 (show 3 * l < 1000 by omega), ix0 (show 3 * l + 1 < 1000 by omega), if_pos rfl]
        obtain ⟨hb1, o1, o2, ⟨a1, ha1, oa1, oa2⟩, hT1⟩ := id y3
        have v4 := sim_word hT1 (k := 4) (by omega)
        have v5 := sim_word hT1 (k := 5) (by omega)
        have u4 := sim_key hT1 (k := 4) (by omega)
        have u5 := sim_key hT1 (k := 5) (by omega)
        rw [← kW4] at v4
        rw [← kW5] at v5
        rw [show nI 4 = 4 from rfl] at u4 v4
        rw [show nI 5 = 5 from rfl] at u5 v5
        have l1 : kd1 = 97 → phi b1 kd1 = b1 := phi_97
        unfold bX5_readGuestDeed_57 bX12_bookLine_159
        by_cases k4 : ky1 = 4
        · have kd97 := key_word hT1 (k := 4) (by omega) k4
          have l2 := l1 kd97.1
          left
          obtain ⟨b', bh', at1', kd', nb', wd', ky', p', tk', at2', sp', nb2', wd2', x1, x2, x3, x4⟩ := sim_step (lim := lim) hK hn hl hO hb1 at11 kd1 nb1 wd1 ky1 tk1 at21 sp1 nb21 wd21
          rw [← o1] at x1
          rw [← o2] at x2
          rw [if_pos k4] at u4 v4
          rw [if_neg (by rw [k4]; decide)] at u5 v5
          refine ⟨b', bh', at1', kd', nb', wd', ky', p', tk', at2', sp', nb2', wd2', nI i, nI i, upd dd l 4, upd ww l (nI i), upd (upd (upd rd (3 * l) 0) (3 * l + 1) (nI i)) (3 * l) 0, ?_, ?_, hlt, h1, ⟨Or.inl ⟨i, hi, pk_us, pk_us, pk_us, by rw [pk_un (by omega), pk_us]⟩, fun j hj => ⟨pk_un (by omega), pk_un (by omega), by rw [pk_un (by omega), pk_un (by omega), pk_un (by omega)], by rw [pk_un (by omega), pk_un (by omega), pk_un (by omega)]⟩⟩, x3, by omega⟩
          · rw [u4, bind_eq, if_neg nn1, gI_ok hlt (by omega), nmv_eq, gI_ok hlt (by omega), nmv_eq, x1, bind_eq, bind_eq, ix0 (show l < 1000 by omega), k4]
            dsimp only
            rw [if_neg nn1]
          · rw [v5, bind_eq, if_pos rfl, v4, bind_eq, if_neg nn1, x2, bind_eq]
            dsimp only
            rw [if_pos rfl, gI_ok (show 3 * l < 135 by omega) (by omega), nmv_eq, ix0 (show 3 * l < 1000 by omega)]
        · by_cases k5 : ky1 = 5
          · have kd97 := key_word hT1 (k := 5) (by omega) k5
            have l2 := l1 kd97.1
            left
            obtain ⟨b', bh', at1', kd', nb', wd', ky', p', tk', at2', sp', nb2', wd2', x1, x2, x3, x4⟩ := sim_step (lim := lim) hK hn hl hO hb1 at11 kd1 nb1 wd1 ky1 tk1 at21 sp1 nb21 wd21
            rw [← o1] at x1
            rw [← o2] at x2
            rw [if_neg k4] at u4 v4
            rw [if_pos k5] at u5 v5
            refine ⟨b', bh', at1', kd', nb', wd', ky', p', tk', at2', sp', nb2', wd2', nI i, nI i, upd dd l 5, upd ww l (nI i), upd (upd (upd rd (3 * l) 0) (3 * l + 1) (nI i)) (3 * l) 1, ?_, ?_, hlt, h1, ⟨Or.inr (Or.inl ⟨i, hi, pk_us, pk_us, pk_us, by rw [pk_un (by omega), pk_us]⟩), fun j hj => ⟨pk_un (by omega), pk_un (by omega), by rw [pk_un (by omega), pk_un (by omega), pk_un (by omega)], by rw [pk_un (by omega), pk_un (by omega), pk_un (by omega)]⟩⟩, x3, by omega⟩
            · rw [u4, bind_eq, if_pos rfl, u5, bind_eq, if_neg nn1, gI_ok hlt (by omega), nmv_eq, gI_ok hlt (by omega), nmv_eq, x1, bind_eq, bind_eq, ix0 (show l < 1000 by omega), k5]
              dsimp only
              rw [if_neg nn1]
            · rw [v5, bind_eq, if_neg nn1, x2, bind_eq]
              dsimp only
              rw [if_neg nn1, gI_ok (show 3 * l < 135 by omega) (by omega), nmv_eq, ix0 (show 3 * l < 1000 by omega)]
          · right
            rw [if_neg k4] at u4 v4
            rw [if_neg k5] at u5 v5
            unfold fX12_bad fX6_refuse
            rw [u4, bind_eq, if_pos rfl, u5, bind_eq, if_pos rfl, if_pos rfl, bind_eq, bind_eq, v5, bind_eq, if_pos rfl, v4, bind_eq, if_pos rfl, bind_eq, oa1, oa2]
            dsimp only
            rw [if_pos rfl]
            exact ⟨1, _, _, _, _, _, _, _, _, _, _, _, _, _, _, _, _, _, _, _, by decide, rfl, rfl⟩
    · right
      rcases z3 with ⟨-, z3⟩ | ⟨rfl, z3, rfl⟩
      · rw [h4] at z3
        injection z3 with z3
        exact absurd z3 nn1
      · unfold fX6_refuse
        rw [if_pos rfl, if_pos rfl, bind_eq, z1, bind_eq]
        dsimp only
        rw [if_pos rfl]
        exact ⟨3, _, _, _, _, _, _, _, _, _, _, _, _, _, _, _, _, _, _, _, by decide, rfl, rfl⟩
  · rw [h4, bind_eq, if_pos rfl]
    by_cases hk4 : ky = nI 6 ∨ ky = nI 7 ∨ ky = nI 8 ∨ ky = nI 9
    · obtain ⟨k, hk, ek⟩ : ∃ k, (k = 6 ∨ k = 7 ∨ k = 8 ∨ k = 9) ∧ ky = nI k := by
        rcases hk4 with h | h | h | h
        · exact ⟨6, by omega, h⟩
        · exact ⟨7, by omega, h⟩
        · exact ⟨8, by omega, h⟩
        · exact ⟨9, by omega, h⟩
      have kd97 := key_word hT (k := k) (by omega) ek
      rw [four k hk ek, if_neg (by rw [ek]; exact nI_nlt (b := 6) (by omega) (by omega)), if_pos (by rw [ek]; exact nI_le (b := 9) (by omega) (by omega))]
      unfold bX5_readLine_41 bX5_readLine_72
      rw [if_pos rfl]
      by_cases h40 : l = 40
      · right
        subst h40
        unfold bX12_bookLine_85 fX12_bad fX6_refuse
        rw [if_neg (by decide), if_pos (by decide), if_pos (show nI 40 = 40 from rfl), bind_eq, bind_eq, ea1, ea2]
        exact ⟨4, _, _, _, _, _, _, _, _, _, _, _, _, _, _, _, _, _, _, _, by decide, rfl, rfl⟩
      · have hlt : l < 40 := by omega
        rw [if_pos (show nI l < 40 from nI_lt (b := 40) hlt (by omega)), if_pos rfl]
        rcases sim_other hK hn hl hO hR hN hlt hk sp ta fa fa2 got dd ww rd with ⟨b', bh', at1', kd', nb', wd', ky', p', tk', at2', sp', nb2', wd2', ta', got', dd', ww', rd', x1, x2, x3, x4, x5⟩ | ⟨q, f, bh', at1', kd', nb', wd', ky', ta', dd', ww', p', tk', at2', sp', nb2', wd2', got', rd', q0, x1, x2⟩
        · left
          rw [← ek] at x1
          rw [x1, x2, bind_eq]
          dsimp only
          rw [if_neg nn1]
          exact ⟨b', bh', at1', kd', nb', wd', ky', p', tk', at2', sp', nb2', wd2', ta', got', dd', ww', rd', rfl, rfl, hlt, kd97.1, x3, x4, x5⟩
        · right
          rw [← ek] at x1
          rw [x1, x2, bind_eq]
          dsimp only
          rw [if_pos rfl]
          exact ⟨q, _, _, _, _, _, _, _, _, _, _, _, _, _, _, _, _, _, _, _, q0, rfl, rfl⟩
    · right
      have hno : ∀ k, (k = 6 ∨ k = 7 ∨ k = 8 ∨ k = 9) → ¬ ky = nI k := by
        intro k hk e
        apply hk4
        rcases hk with rfl | rfl | rfl | rfl
        · exact Or.inl e
        · exact Or.inr (Or.inl e)
        · exact Or.inr (Or.inr (Or.inl e))
        · exact Or.inr (Or.inr (Or.inr e))
      rw [none4 hno]
      unfold bX12_bookLine_64 fX12_looksAt fX12_bad fX6_refuse
      rw [if_pos rfl, h5, bind_eq, if_pos rfl, bind_eq, bind_eq]
      simp only [bind_eq, if_true]
      rw [ea1, ea2]
      rcases ky_vals hT with e | ⟨k, hk, e⟩
      · rw [e, if_pos (by decide)]
        exact ⟨1, _, _, _, _, _, _, _, _, _, _, _, _, _, _, _, _, _, _, _, by decide, rfl, rfl⟩
      · by_cases h6 : k < 6
        · rw [e, if_pos (show nI k < 6 from nI_lt (b := 6) h6 (by omega))]
          exact ⟨1, _, _, _, _, _, _, _, _, _, _, _, _, _, _, _, _, _, _, _, by decide, rfl, rfl⟩
        · have h9 : 9 < k := by
            have hh : ¬ (k = 6 ∨ k = 7 ∨ k = 8 ∨ k = 9) := fun h => hno k h e
            omega
          rw [e, if_neg (show ¬ nI k < 6 from nI_nlt (b := 6) (by omega) (by omega)), if_neg (show ¬ nI k ≤ 9 from nI_ge (a := 9) h9 (by omega))]
          exact ⟨1, _, _, _, _, _, _, _, _, _, _, _, _, _, _, _, _, _, _, _, by decide, rfl, rfl⟩
