/-! ===== pure: names; the lines of a HALL's text ===== -/
theorem neg_nI (i : Nat) (h : i < 2 ^ 31) : ¬ nI i = -1 := fun e => absurd (show nI i < 0 by rw [e]; decide) (nI_pos h)
/-- a name is looked up, both -/
theorem sim_looks {n lim b : Nat} {B tp : A1} {keys res : Nat → Int64} (hK : RKy keys res) (hn : n ≤ 940) (hl : lim ≤ 940) (hO : OneT B tp) {bh at1 kd nb : Int32} {wd : Int64} {ky p tk at2 nb2 : Int32} {wd2 : Int64} (hR : RTok n b bh at1 kd nb wd ky p tk at2 nb2 wd2) {N : Nat} (hN : N ≤ 100) {q fr many : Int32} {nm : Nat → Int64} (hq : ∀ r, WL r → wd = w5 r → wd2 = w8 r → fX12_seek wd2 nm fr many = some q ∧ (q = -1 ∨ ∃ i, i < N ∧ q = nI i)) (ta fa fa2 got : Int32) :
    (∃ r i, WL r ∧ wd = w5 r ∧ wd2 = w8 r ∧ i < N ∧ q = nI i ∧ kd = 97 ∧ fX6_isName kd ky = some 1 ∧ fX12_looksAt tk at2 wd2 nm res 0 fa2 got fr many = some (1, 0, fa2, q)) ∨
    (∃ k got', ¬ k = 0 ∧ fX12_looksAt tk at2 wd2 nm res 0 fa2 got fr many = some (0, k, at1, got') ∧ fX6_takeNamed 940 (nI lim) (nI n) B keys bh at1 kd nb wd ky ta 0 fa q = some (0, bh, at1, kd, nb, wd, ky, ta, k, at1) ∧ ((k = 1 ∧ fX6_isName kd ky = some 0) ∨ (k = 3 ∧ fX6_isName kd ky = some 1 ∧ q = -1))) := by
  obtain ⟨hb, rfl, rfl, ⟨a, ha, rfl, rfl⟩, hT⟩ := hR
  unfold fX12_looksAt fX6_takeNamed
  rcases sim_name hK hT with ⟨r, hr, e1, e2, h1, h2, h3, h4, h5⟩ | ⟨h4, h5, h6⟩
  · obtain ⟨hs, hqq⟩ := hq r hr e1 e2
    rw [h5, bind_eq, if_neg nn1, hs, bind_eq]
    rcases hqq with rfl | ⟨i, hi, rfl⟩
    · right
      refine ⟨3, -1, by decide, ?_, ?_, Or.inr ⟨rfl, h4, rfl⟩⟩
      · rw [if_neg (by decide)]
        rfl
      · rw [h4, bind_eq, if_neg nn1, if_pos rfl]
        rfl
    · left
      refine ⟨r, i, hr, e1, e2, hi, rfl, h1, h4, ?_⟩
      rw [if_pos (show (0 : Int32) ≤ nI i from nI_le (a := 0) (by omega) (by omega))]
  · right
    rw [h5, bind_eq, if_pos rfl]
    refine ⟨1, got, by decide, rfl, ?_, Or.inl ⟨rfl, h4⟩⟩
    rw [h4, bind_eq, if_pos rfl]
    rfl
/-- a name of the HALL is taken, both -/
theorem sim_takesName {n lim b : Nat} {B tp : A1} {keys res : Nat → Int64} (hK : RKy keys res) (hn : n ≤ 940) (hl : lim ≤ 940) (hO : OneT B tp) {bh at1 kd nb : Int32} {wd : Int64} {ky p tk at2 nb2 : Int32} {wd2 : Int64} (hR : RTok n b bh at1 kd nb wd ky p tk at2 nb2 wd2) {N : Nat} (hN : N ≤ 100) {q fr many : Int32} {nm : Nat → Int64} (hq : ∀ r, WL r → wd = w5 r → wd2 = w8 r → fX12_seek wd2 nm fr many = some q ∧ (q = -1 ∨ ∃ i, i < N ∧ q = nI i)) (sp ta fa fa2 got : Int32) :
    (∃ (i : Nat) (b' : Nat) (bh' at1' kd' nb' : Int32) (wd' : Int64) (ky' p' tk' at2' sp' nb2' : Int32) (wd2' : Int64), i < N ∧ q = nI i ∧ kd = 97 ∧ (∃ r, WL r ∧ wd = w5 r ∧ wd2 = w8 r) ∧ fX6_takeNamed 940 (nI lim) (nI n) B keys bh at1 kd nb wd ky ta 0 fa q = some (1, bh', at1', kd', nb', wd', ky', nI i, 0, fa) ∧ fX12_takesName (nI n) (nI lim) tp nm res p tk at2 sp nb2 0 fa2 wd2 got fr many = some (1, p', tk', at2', sp', nb2', 0, fa2, wd2', nI i) ∧ RTok n b' bh' at1' kd' nb' wd' ky' p' tk' at2' nb2' wd2' ∧ b + 1 ≤ phi b' kd') ∨
    (∃ k got', ¬ k = 0 ∧ fX6_takeNamed 940 (nI lim) (nI n) B keys bh at1 kd nb wd ky ta 0 fa q = some (0, bh, at1, kd, nb, wd, ky, ta, k, at1) ∧ fX12_takesName (nI n) (nI lim) tp nm res p tk at2 sp nb2 0 fa2 wd2 got fr many = some (0, p, tk, at2, sp, nb2, k, at1, wd2, got')) := by
  rcases sim_looks hK hn hl hO hR hN hq ta fa fa2 got with ⟨r, i, hr, e1, e2, hi, rfl, h1, h2, h3⟩ | ⟨k, got', h0, h1, h2, -⟩
  · left
    obtain ⟨hb, rfl, rfl, ⟨a, ha, rfl, rfl⟩, hT⟩ := hR
    obtain ⟨b', bh', at1', kd', nb', wd', ky', p', tk', at2', sp', nb2', wd2', y1, y2, y3, y4⟩ := sim_step (lim := lim) hK hn hl hO hb (nI a) kd nb wd ky tk (nI a) sp nb2 wd2
    refine ⟨i, b', bh', at1', kd', nb', wd', ky', p', tk', at2', sp', nb2', wd2', hi, rfl, h1, ⟨r, hr, e1, e2⟩, ?_, ?_, y3, y4⟩
    · unfold fX6_takeNamed
      rw [h2, bind_eq, if_neg nn1, if_neg (neg_nI i (by omega)), y1, bind_eq]
    · unfold fX12_takesName
      rw [h3, bind_eq]
      dsimp only
      rw [if_neg nn1, y2, bind_eq]
  · right
    refine ⟨k, got', h0, h2, ?_⟩
    unfold fX12_takesName
    rw [h1, bind_eq]
    dsimp only
    rw [if_pos rfl]
/-- what a HALL's text has told so far, both -/
def PH (C G D : Nat) (gn : Nat → Int64) (co pr sp pl py : A1) (dn : Nat → Int64) (cs h : A1) (nm : Nat → Int64) : Prop :=
  (2 ≤ C ∧ C ≤ 9 ∧ G ≤ 7 ∧ G ≤ C ∧ D ≤ 6) ∧ (h 0 = nI C ∧ h 1 = nI G ∧ h 2 = nI D) ∧
  (∀ g, g < G → (∃ a, a ≤ 999 ∧ co g = nI a ∧ h (3 + g) = nI a) ∧ (∃ a, a ≤ 9 ∧ pr g = nI a ∧ h (10 + g) = nI a) ∧ (∃ a, a ≤ 9 ∧ sp g = nI a ∧ h (17 + g) = nI a) ∧ ∃ a, a < C ∧ pl g = nI a ∧ h (24 + g) = nI a) ∧
  (∀ g, g < G → (py g = nI g ∧ h (37 + g) = 0) ∨ ∃ q, q < G ∧ q ≠ g ∧ py g = nI q ∧ h (37 + g) = nI (q + 1)) ∧ (∀ g, G ≤ g → g < 7 → h (37 + g) = 0) ∧
  (∀ d, d < D → ∃ a, 1 ≤ a ∧ a ≤ 99 ∧ cs d = nI a ∧ h (31 + d) = nI a) ∧ RNm G 13 gn nm ∧ RNm D 20 dn nm
theorem seek2 {C G D : Nat} {gn : Nat → Int64} {co pr sp pl py : A1} {dn : Nat → Int64} {cs h : A1} {nm : Nat → Int64} (hP : PH C G D gn co pr sp pl py dn cs h nm) {r : List Nat} (hr : WL r) : (∃ q, (q = -1 ∨ ∃ i, i < G ∧ q = nI i) ∧ fX2_guestNamed (nI G) gn (w5 r) = some q ∧ fX12_seek (w8 r) nm 13 (h 1) = some q) ∧ (∃ q, (q = -1 ∨ ∃ i, i < D ∧ q = nI i) ∧ fX2_dishNamed (nI D) dn (w5 r) = some q ∧ fX12_seek (w8 r) nm 20 (h 2) = some q) := by
  obtain ⟨⟨hC2, hC9, hG, hGC, hD⟩, ⟨h0, h1, h2⟩, -, -, -, -, n1, n2⟩ := hP
  rw [h1, h2]
  exact ⟨seek_eq (fr := 13) hG (by omega) n1 hr, seekD_eq (fr := 20) hD (by omega) n2 hr⟩
/-- a new name, both -/
theorem sim_fresh {n lim b : Nat} {B tp : A1} {keys res : Nat → Int64} (hK : RKy keys res) (hn : n ≤ 940) (hl : lim ≤ 940) (hO : OneT B tp) {bh at1 kd nb : Int32} {wd : Int64} {ky p tk at2 nb2 : Int32} {wd2 : Int64} (hR : RTok n b bh at1 kd nb wd ky p tk at2 nb2 wd2) {C G D : Nat} {gn : Nat → Int64} {co pr spd pl py : A1} {dn : Nat → Int64} {cs h : A1} {nm : Nat → Int64} (hP : PH C G D gn co pr spd pl py dn cs h nm) {to : Nat} (hto : to < 26) (sp fa fa2 : Int32) :
    (∃ (r : List Nat) (b' : Nat) (bh' at1' kd' nb' : Int32) (wd' : Int64) (ky' p' tk' at2' sp' nb2' : Int32) (wd2' : Int64), WL r ∧ wd = w5 r ∧ kd = 97 ∧ fX3_isNewName at1 kd wd ky (nI G) (nI D) gn dn 0 fa = some (1, 0, fa) ∧ fX6_step 940 (nI lim) (nI n) B keys bh at1 kd nb wd ky = some (bh', at1', kd', nb', wd', ky') ∧ fX12_fresh (nI n) (nI lim) tp h res p tk at2 sp nb2 0 fa2 wd2 nm (nI to) = some (1, p', tk', at2', sp', nb2', 0, fa2, wd2', vp_updL nm to (w8 r)) ∧ RTok n b' bh' at1' kd' nb' wd' ky' p' tk' at2' nb2' wd2' ∧ b + 1 ≤ phi b' kd') ∨
    (∃ k, ¬ k = 0 ∧ fX3_isNewName at1 kd wd ky (nI G) (nI D) gn dn 0 fa = some (0, k, at1) ∧ fX12_fresh (nI n) (nI lim) tp h res p tk at2 sp nb2 0 fa2 wd2 nm (nI to) = some (0, p, tk, at2, sp, nb2, k, at1, wd2, nm)) := by
  obtain ⟨hb, rfl, rfl, ⟨a, ha, rfl, rfl⟩, hT⟩ := hR
  unfold fX3_isNewName fX12_fresh
  rcases sim_name hK hT with ⟨r, hr, e1, e2, h1, h2, h3, h4, h5⟩ | ⟨h4, h5, h6⟩
  · obtain ⟨⟨q1, hq1, z1, z2⟩, ⟨q2, hq2, z3, z4⟩⟩ := seek2 hP hr
    rw [h4, h5, bind_eq, bind_eq, if_neg nn1, if_neg nn1, e1, e2, z1, z2, bind_eq, bind_eq]
    rcases hq1 with rfl | ⟨i, hi, rfl⟩
    · rw [if_pos rfl, if_neg (by decide), z3, z4, bind_eq, bind_eq]
      rcases hq2 with rfl | ⟨i, hi, rfl⟩
      · left
        obtain ⟨b', bh', at1', kd', nb', wd', ky', p', tk', at2', sp', nb2', wd2', y1, y2, y3, y4⟩ := sim_step (lim := lim) hK hn hl hO hb (nI a) kd nb wd ky tk (nI a) sp nb2 wd2
        refine ⟨r, b', bh', at1', kd', nb', wd', ky', p', tk', at2', sp', nb2', wd2', hr, rfl, h1, ?_, ?_, ?_, y3, y4⟩
        · rw [if_pos rfl]
        · rw [← e1]
          exact y1
        · rw [if_pos (by decide), gI_ok hto (by omega), nmv_eq, ← e2, y2, bind_eq, ix0 (by omega)]
      · right
        refine ⟨3, by decide, ?_, ?_⟩
        · rw [if_neg (neg_nI i (by have := hP.1; omega))]
          rfl
        · rw [if_neg (nI_pos (by have := hP.1; omega))]
          rfl
    · right
      refine ⟨3, by decide, ?_, ?_⟩
      · rw [if_neg (neg_nI i (by have := hP.1; omega))]
        rfl
      · rw [if_pos (show (0 : Int32) ≤ nI i from nI_le (a := 0) (by omega) (by have := hP.1; omega))]
        rfl
  · right
    refine ⟨1, by decide, ?_, ?_⟩
    · rw [h4, bind_eq, if_pos rfl]
      rfl
    · rw [h5, bind_eq, if_pos rfl]
      rfl
/-- a number is put into the row, both -/
theorem sim_puts {n lim b : Nat} {B tp : A1} {keys res : Nat → Int64} (hK : RKy keys res) (hn : n ≤ 940) (hl : lim ≤ 940) (hO : OneT B tp) {bh at1 kd nb : Int32} {wd : Int64} {ky p tk at2 nb2 : Int32} {wd2 : Int64} (hR : RTok n b bh at1 kd nb wd ky p tk at2 nb2 wd2) {to : Nat} (hto : to < 44) (sp ta fa fa2 got lo hi : Int32) (h : A1) :
    (∃ (v : Nat) (b' : Nat) (bh' at1' kd' nb' : Int32) (wd' : Int64) (ky' p' tk' at2' sp' nb2' : Int32) (wd2' : Int64), fX6_takeNumber 940 (nI lim) (nI n) B keys bh at1 kd nb wd ky ta 0 fa lo hi = some (1, bh', at1', kd', nb', wd', ky', nI v, 0, fa) ∧ fX12_puts (nI n) (nI lim) tp p tk at2 sp nb2 0 fa2 wd2 got h (nI to) lo hi = some (1, p', tk', at2', sp', nb2', 0, fa2, wd2', nI v, upd h to (nI v)) ∧ v ≤ 999 ∧ ¬ nI v < lo ∧ nI v ≤ hi ∧ kd = 48 ∧ RTok n b' bh' at1' kd' nb' wd' ky' p' tk' at2' nb2' wd2' ∧ b + 1 ≤ phi b' kd') ∨
    (∃ k : Int32, ¬ k = 0 ∧ fX6_takeNumber 940 (nI lim) (nI n) B keys bh at1 kd nb wd ky ta 0 fa lo hi = some (0, bh, at1, kd, nb, wd, ky, ta, k, at1) ∧ fX12_puts (nI n) (nI lim) tp p tk at2 sp nb2 0 fa2 wd2 got h (nI to) lo hi = some (0, p, tk, at2, sp, nb2, k, at1, wd2, got, h)) := by
  unfold fX12_puts
  rcases sim_number hK hn hl hO hR sp ta fa fa2 got lo hi with ⟨v, b', bh', at1', kd', nb', wd', ky', p', tk', at2', sp', nb2', wd2', y1, y2, y3⟩ | ⟨k, h0, h1, h2⟩
  · left
    refine ⟨v, b', bh', at1', kd', nb', wd', ky', p', tk', at2', sp', nb2', wd2', y1, ?_, y3⟩
    rw [y2, bind_eq]
    dsimp only
    rw [if_neg nn1, gI_ok hto (by omega), nmv_eq, ix0 (by omega)]
  · right
    refine ⟨k, h0, h1, ?_⟩
    rw [h2, bind_eq]
    dsimp only
    rw [if_pos rfl]
theorem nle_nat {v k : Nat} (hv : v ≤ 999) (hk : k < 2 ^ 31) (h : nI v ≤ nI k) : v ≤ k := Nat.le_of_not_lt (fun h2 => nI_ge h2 (by omega) h)
theorem nlt_nat {v k : Nat} (hk : k < 2 ^ 31) (h : ¬ nI v < nI k) : k ≤ v := Nat.le_of_not_lt (fun h2 => h (nI_lt h2 hk))
theorem RNm_more {G fr to : Nat} {gn nm : Nat → Int64} {x : Int64} (h : RNm G fr gn nm) (hto : to < fr ∨ fr + G ≤ to) : RNm G fr gn (vp_updL nm to x) := fun g hg => by
  obtain ⟨r, h1, h2, h3⟩ := h g hg
  exact ⟨r, h1, h2, by rw [pk_uLn (by omega)]; exact h3⟩
theorem RNm_new {G fr : Nat} {gn nm : Nat → Int64} {r : List Nat} (hr : WL r) (h : RNm G fr gn nm) : RNm (G + 1) fr (vp_updL gn G (w5 r)) (vp_updL nm (fr + G) (w8 r)) := fun g hg => by
  by_cases e : g = G
  · subst e
    exact ⟨r, hr, pk_uLs, pk_uLs⟩
  · obtain ⟨r2, h1, h2, h3⟩ := h g (by omega)
    exact ⟨r2, h1, by rw [pk_uLn e]; exact h2, by rw [pk_uLn (by omega)]; exact h3⟩
/-- LINE 'chairs' -/
theorem sim_chairs {n lim b : Nat} {B tp : A1} {keys res : Nat → Int64} (hK : RKy keys res) (hn : n ≤ 940) (hl : lim ≤ 940) (hO : OneT B tp) {bh at1 kd nb : Int32} {wd : Int64} {ky p tk at2 nb2 : Int32} {wd2 : Int64} (hR : RTok n b bh at1 kd nb wd ky p tk at2 nb2 wd2) {C G D : Nat} {gn : Nat → Int64} {co pr spd pl py : A1} {dn : Nat → Int64} {cs h : A1} {nm : Nat → Int64} (hP : PH C G D gn co pr spd pl py dn cs h nm) {ct : Int32} (hct : ct = 0 ∨ ct = 1) (sp ta fa fa2 got : Int32) :
    (∃ (C' : Nat) (b' : Nat) (bh' at1' kd' nb' : Int32) (wd' : Int64) (ky' p' tk' at2' sp' nb2' : Int32) (wd2' : Int64) (ta' got' : Int32) (h' : A1), fX3_readChairs 940 (nI lim) (nI n) B keys (nI G) ct bh at1 kd nb wd ky ta 0 fa (nI C) = some (1, 1, bh', at1', kd', nb', wd', ky', ta', 0, fa, nI C') ∧ fX12_readChairs (nI n) (nI lim) tp p tk at2 sp nb2 0 fa2 wd2 got ct h = some (1, p', tk', at2', sp', nb2', 0, fa2, wd2', got', 1, h') ∧ PH C' G D gn co pr spd pl py dn cs h' nm ∧ RTok n b' bh' at1' kd' nb' wd' ky' p' tk' at2' nb2' wd2' ∧ b + 2 ≤ phi b' kd') ∨
    (∃ (k f : Int32) (ct' bh' at1' kd' nb' : Int32) (wd' : Int64) (ky' ta' C' p' tk' at2' sp' nb2' : Int32) (wd2' : Int64) (got' ct2' : Int32) (h' : A1), ¬ k = 0 ∧ fX3_readChairs 940 (nI lim) (nI n) B keys (nI G) ct bh at1 kd nb wd ky ta 0 fa (nI C) = some (0, ct', bh', at1', kd', nb', wd', ky', ta', k, f, C') ∧ fX12_readChairs (nI n) (nI lim) tp p tk at2 sp nb2 0 fa2 wd2 got ct h = some (0, p', tk', at2', sp', nb2', k, f, wd2', got', ct2', h')) := by
  obtain ⟨⟨hC2, hC9, hG, hGC, hD⟩, ⟨h0, h1, h2⟩, p1, p2, p3, p4, n1, n2⟩ := id hP
  obtain ⟨hb, rfl, rfl, ⟨a, ha, rfl, rfl⟩, hT⟩ := hR
  unfold fX3_readChairs fX12_readChairs
  rcases hct with rfl | rfl
  · rw [if_pos rfl, if_pos rfl, h1]
    by_cases hG0 : G = 0
    · subst hG0
      rw [if_pos (show nI 0 ≤ 0 by decide), if_pos (show nI 0 ≤ 0 by decide)]
      obtain ⟨b1, bh1, at11, kd1, nb1, wd1, ky1, p1', tk1, at21, sp1, nb21, wd21, y1, y2, y3, y4⟩ := sim_step (lim := lim) hK hn hl hO hb (nI a) kd nb wd ky tk (nI a) sp nb2 wd2
      rw [y1, y2, bind_eq, bind_eq]
      dsimp only
      rcases sim_puts (to := 0) hK hn hl hO y3 (by omega) sp1 ta fa fa2 got 2 9 h with ⟨v, b', bh', at1', kd', nb', wd', ky', p', tk', at2', sp', nb2', wd2', z1, z2, z3, z4, z5, z6, z7, z8⟩ | ⟨k, k0, z1, z2⟩
      · left
        have hv9 : v ≤ 9 := nle_nat (k := 9) z3 (by omega) z5
        have hv2 : 2 ≤ v := nlt_nat (k := 2) (by omega) z4
        rw [show nI 0 = 0 from rfl] at z2
        have hph : phi b1 kd1 = b1 := by
          unfold phi
          rw [if_neg (by rw [z6]; decide)]
          rfl
        refine ⟨v, b', bh', at1', kd', nb', wd', ky', p', tk', at2', sp', nb2', wd2', nI v, nI v, upd h 0 (nI v), ?_, ?_, ⟨⟨hv2, hv9, hG, by omega, hD⟩, ⟨pk_us, by rw [pk_un (by omega), h1], by rw [pk_un (by omega), h2]⟩, fun g hg => absurd hg (by omega), fun g hg => absurd hg (by omega), fun g h3 h4 => by rw [pk_un (by omega)]; exact p3 g h3 h4, fun d hd => by rw [pk_un (by omega)]; exact p4 d hd, n1, n2⟩, z7, by omega⟩
        · rw [z1, bind_eq]
          dsimp only
          rw [if_neg nn1]
        · rw [z2, bind_eq]
      · right
        rw [show nI 0 = 0 from rfl] at z2
        refine ⟨k, at11, 0, bh1, at11, kd1, nb1, wd1, ky1, ta, nI C, p1', tk1, at21, sp1, nb21, wd21, got, 1, h, k0, ?_, ?_⟩
        · rw [z1, bind_eq]
          dsimp only
          rw [if_pos rfl]
        · rw [z2, bind_eq]
    · right
      rw [if_neg (nI_nle (by omega) (by omega)), if_neg (nI_nle (by omega) (by omega))]
      exact ⟨3, _, _, _, _, _, _, _, _, _, _, _, _, _, _, _, _, _, _, _, by decide, rfl, rfl⟩
  · right
    rw [if_neg nn1, if_neg nn1]
    exact ⟨3, _, _, _, _, _, _, _, _, _, _, _, _, _, _, _, _, _, _, _, by decide, rfl, rfl⟩
/-- LINE 'dish' -/
theorem sim_dish {n lim b : Nat} {B tp : A1} {keys res : Nat → Int64} (hK : RKy keys res) (hn : n ≤ 940) (hl : lim ≤ 940) (hO : OneT B tp) {bh at1 kd nb : Int32} {wd : Int64} {ky p tk at2 nb2 : Int32} {wd2 : Int64} (hR : RTok n b bh at1 kd nb wd ky p tk at2 nb2 wd2) {C G D : Nat} {gn : Nat → Int64} {co pr spd pl py : A1} {dn : Nat → Int64} {cs h : A1} {nm : Nat → Int64} (hP : PH C G D gn co pr spd pl py dn cs h nm) (sp ta fa fa2 got : Int32) :
    (∃ (D' : Nat) (b' : Nat) (bh' at1' kd' nb' : Int32) (wd' : Int64) (ky' p' tk' at2' sp' nb2' : Int32) (wd2' : Int64) (ta' got' : Int32) (dn' : Nat → Int64) (cs' h' : A1) (nm' : Nat → Int64), fX3_readDish 940 (nI lim) (nI n) B keys (nI G) gn bh at1 kd nb wd ky ta 0 fa (nI D) dn cs = some (1, bh', at1', kd', nb', wd', ky', ta', 0, fa, nI D', dn', cs') ∧ fX12_readDish (nI n) (nI lim) tp res p tk at2 sp nb2 0 fa2 wd2 got h nm = some (1, p', tk', at2', sp', nb2', 0, fa2, wd2', got', h', nm') ∧ PH C G D' gn co pr spd pl py dn' cs' h' nm' ∧ (∀ i, i < 13 → nm' i = nm i) ∧ RTok n b' bh' at1' kd' nb' wd' ky' p' tk' at2' nb2' wd2' ∧ b + 2 ≤ phi b' kd') ∨
    (∃ (k f : Int32) (bh' at1' kd' nb' : Int32) (wd' : Int64) (ky' ta' D' : Int32) (dn' : Nat → Int64) (cs' : A1) (p' tk' at2' sp' nb2' : Int32) (wd2' : Int64) (got' : Int32) (h' : A1) (nm' : Nat → Int64), ¬ k = 0 ∧ (∀ i, i < 13 → nm' i = nm i) ∧ fX3_readDish 940 (nI lim) (nI n) B keys (nI G) gn bh at1 kd nb wd ky ta 0 fa (nI D) dn cs = some (0, bh', at1', kd', nb', wd', ky', ta', k, f, D', dn', cs') ∧ fX12_readDish (nI n) (nI lim) tp res p tk at2 sp nb2 0 fa2 wd2 got h nm = some (0, p', tk', at2', sp', nb2', k, f, wd2', got', h', nm')) := by
  obtain ⟨⟨hC2, hC9, hG, hGC, hD⟩, ⟨h0, h1, h2⟩, p1, p2, p3, p4, n1, n2⟩ := id hP
  obtain ⟨hb, rfl, rfl, ⟨a, ha, rfl, rfl⟩, hT⟩ := hR
  unfold fX3_readDish fX12_readDish
  rw [h2]
  by_cases hD6 : D = 6
  · subst hD6
    right
    rw [if_neg (by decide), if_pos (by decide)]
    exact ⟨4, _, _, _, _, _, _, _, _, _, _, _, _, _, _, _, _, _, _, _, _, by decide, fun _ _ => rfl, rfl, rfl⟩
  · rw [if_pos (show nI D < 6 from nI_lt (b := 6) (by omega) (by omega)), if_neg (show ¬ nI D = 6 from fun e => hD6 ((nI_eq (b := 6) (by omega) (by omega)).mp e))]
    obtain ⟨b1, bh1, at11, kd1, nb1, wd1, ky1, p1', tk1, at21, sp1, nb21, wd21, y1, y2, y3, y4⟩ := sim_step (lim := lim) hK hn hl hO hb (nI a) kd nb wd ky tk (nI a) sp nb2 wd2
    rw [y1, y2, bind_eq, bind_eq]
    dsimp only
    rw [show (20 : Int32) + nI D = nI (20 + D) from nI_add 20 D, show (31 : Int32) + nI D = nI (31 + D) from nI_add 31 D]
    rcases sim_fresh (to := 20 + D) hK hn hl hO y3 hP (by omega) sp1 fa fa2 with ⟨r, b2, bh2, at12, kd2, nb2', wd2', ky2, p2', tk2, at22, sp2, nb22, wd22, x1, x2, x3, x4, x5, x6, x7, x8⟩ | ⟨k, k0, x1, x2⟩
    · rw [x4, x6, bind_eq, bind_eq]
      dsimp only
      rw [if_neg nn1, if_neg nn1, gI_ok (show D < 6 by omega) (by omega), nmv_eq, x5, bind_eq, ix0 (by omega), x2]
      dsimp only
      rcases sim_puts (to := 31 + D) hK hn hl hO x7 (by omega) sp2 ta fa fa2 got 1 99 h with ⟨v, b', bh', at1', kd', nb', wd', ky', p', tk', at2', sp', nb2', wd2', z1, z2, z3, z4, z5, z6, z7, z8⟩ | ⟨k, k0, z1, z2⟩
      · left
        have hv9 : v ≤ 99 := nle_nat (k := 99) z3 (by omega) z5
        have hv2 : 1 ≤ v := nlt_nat (k := 1) (by omega) z4
        have hph : phi b1 kd1 = b1 := by
          unfold phi
          rw [if_neg (by rw [x3]; decide)]
          rfl
        have hph2 : phi b2 kd2 = b2 := by
          unfold phi
          rw [if_neg (by rw [z6]; decide)]
          rfl
        refine ⟨D + 1, b', bh', at1', kd', nb', wd', ky', p', tk', at2', sp', nb2', wd2', nI v, nI v, vp_updL dn D (w5 r), upd cs D (nI v), upd (upd h (31 + D) (nI v)) 2 (nI (D + 1)), vp_updL nm (20 + D) (w8 r), ?_, ?_, ⟨⟨hC2, hC9, hG, hGC, by omega⟩, ⟨by rw [pk_un (by omega), pk_un (by omega), h0], by rw [pk_un (by omega), pk_un (by omega), h1], pk_us⟩, fun g hg => ?_, fun g hg => ?_, fun g h3 h4 => ?_, fun d hd => ?_, RNm_more n1 (by omega), RNm_new x1 n2⟩, fun i hi => pk_uLn (by omega), z7, by omega⟩
        · rw [z1, bind_eq]
          dsimp only
          rw [if_neg nn1, gI_ok (show D < 6 by omega) (by omega), nmv_eq, nmv_eq, nI_1]
        · rw [z2, bind_eq]
          dsimp only
          rw [if_neg nn1, nmv_eq, pk_un (by omega), h2, nI_1]
        · rw [pk_un (by omega), pk_un (by omega), pk_un (by omega), pk_un (by omega), pk_un (by omega), pk_un (by omega), pk_un (by omega), pk_un (by omega)]
          exact p1 g hg
        · rw [pk_un (by omega), pk_un (by omega)]
          exact p2 g hg
        · rw [pk_un (by omega), pk_un (by omega)]
          exact p3 g h3 h4
        · by_cases e : d = D
          · subst e
            exact ⟨v, hv2, hv9, pk_us, by rw [pk_un (by omega), pk_us]⟩
          · rw [pk_un e, pk_un (by omega), pk_un (by omega)]
            exact p4 d (by omega)
      · right
        rw [z1, z2, bind_eq, bind_eq]
        dsimp only
        rw [if_pos rfl, if_pos rfl]
        exact ⟨k, _, _, _, _, _, _, _, _, _, _, _, _, _, _, _, _, _, _, _, _, k0, fun i hi => pk_uLn (by omega), rfl, rfl⟩
    · right
      rw [x1, x2, bind_eq, bind_eq]
      dsimp only
      rw [if_pos rfl, if_pos rfl]
      exact ⟨k, at11, bh1, at11, kd1, nb1, wd1, ky1, ta, nI D, dn, cs, p1', tk1, at21, sp1, nb21, wd21, got, h, nm, k0, fun _ _ => rfl, rfl, rfl⟩
