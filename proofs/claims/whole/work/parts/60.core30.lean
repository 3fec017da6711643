/-! ===== pure: more lines of a HALL's text ===== -/
theorem phi_of {b : Nat} {kd : Int32} (h : ¬ (kd = 0 ∨ kd = 1)) : phi b kd = b := by
  unfold phi
  rw [if_neg h]
  rfl
theorem phi_97 {b : Nat} {kd : Int32} (h : kd = 97) : phi b kd = b := phi_of (by rw [h]; decide)
theorem phi_48 {b : Nat} {kd : Int32} (h : kd = 48) : phi b kd = b := phi_of (by rw [h]; decide)
/-- LINE 'guest' -/
theorem sim_guest {n lim b : Nat} {B tp : A1} {keys res : Nat → Int64} (hK : RKy keys res) (hn : n ≤ 940) (hl : lim ≤ 940) (hO : OneT B tp) {bh at1 kd nb : Int32} {wd : Int64} {ky p tk at2 nb2 : Int32} {wd2 : Int64} (hR : RTok n b bh at1 kd nb wd ky p tk at2 nb2 wd2) {C G D : Nat} {gn : Nat → Int64} {co pr spd pl py : A1} {dn : Nat → Int64} {cs h : A1} {nm : Nat → Int64} (hP : PH C G D gn co pr spd pl py dn cs h nm) (sp ta fa fa2 got : Int32) :
    (∃ (G' : Nat) (b' : Nat) (bh' at1' kd' nb' : Int32) (wd' : Int64) (ky' p' tk' at2' sp' nb2' : Int32) (wd2' : Int64) (ta' got' : Int32) (gn' : Nat → Int64) (co' pr' spd' pl' py' h' : A1) (nm' : Nat → Int64), fX3_readGuest 940 (nI lim) (nI n) B keys (nI C) (nI D) dn bh at1 kd nb wd ky ta 0 fa (nI G) gn co pr spd pl py = some (1, bh', at1', kd', nb', wd', ky', ta', 0, fa, nI G', gn', co', pr', spd', pl', py') ∧ fX12_readGuest (nI n) (nI lim) tp res p tk at2 sp nb2 0 fa2 wd2 got h nm = some (1, p', tk', at2', sp', nb2', 0, fa2, wd2', got', h', nm') ∧ PH C G' D gn' co' pr' spd' pl' py' dn cs h' nm' ∧ (∀ i, i < 13 → nm' i = nm i) ∧ RTok n b' bh' at1' kd' nb' wd' ky' p' tk' at2' nb2' wd2' ∧ b + 2 ≤ phi b' kd') ∨
    (∃ (k f : Int32) (bh' at1' kd' nb' : Int32) (wd' : Int64) (ky' ta' G' : Int32) (gn' : Nat → Int64) (co' pr' spd' pl' py' : A1) (p' tk' at2' sp' nb2' : Int32) (wd2' : Int64) (got' : Int32) (h' : A1) (nm' : Nat → Int64), ¬ k = 0 ∧ (∀ i, i < 13 → nm' i = nm i) ∧ fX3_readGuest 940 (nI lim) (nI n) B keys (nI C) (nI D) dn bh at1 kd nb wd ky ta 0 fa (nI G) gn co pr spd pl py = some (0, bh', at1', kd', nb', wd', ky', ta', k, f, G', gn', co', pr', spd', pl', py') ∧ fX12_readGuest (nI n) (nI lim) tp res p tk at2 sp nb2 0 fa2 wd2 got h nm = some (0, p', tk', at2', sp', nb2', k, f, wd2', got', h', nm')) := by
  obtain ⟨⟨hC2, hC9, hG, hGC, hD⟩, ⟨h0, h1, h2⟩, p1, p2, p3, p4, n1, n2⟩ := id hP
  obtain ⟨hb, rfl, rfl, ⟨a, ha, rfl, rfl⟩, hT⟩ := hR
  unfold fX3_readGuest fX12_readGuest
  rw [h1, h0]
  by_cases hG7 : G = 7
  · subst hG7
    right
    rw [if_pos (by decide), if_pos (by decide)]
    exact ⟨4, _, _, _, _, _, _, _, _, _, _, _, _, _, _, _, _, _, _, _, _, _, _, _, _, by decide, fun _ _ => rfl, rfl, rfl⟩
  · rw [if_neg (show ¬ (7 : Int32) ≤ nI G from nI_ge (b := 7) (by omega) (by omega)), if_neg (show ¬ nI G = 7 from fun e => hG7 ((nI_eq (b := 7) (by omega) (by omega)).mp e))]
    by_cases hGe : G = C
    · right
      rw [if_neg (nI_nlt (by omega) (by omega)), if_pos (by rw [hGe])]
      exact ⟨4, _, _, _, _, _, _, _, _, _, _, _, _, _, _, _, _, _, _, _, _, _, _, _, _, by decide, fun _ _ => rfl, rfl, rfl⟩
    · rw [if_pos (nI_lt (by omega) (by omega)), if_neg (fun e => hGe ((nI_eq (by omega) (by omega)).mp e))]
      obtain ⟨b1, bh1, at11, kd1, nb1, wd1, ky1, p1', tk1, at21, sp1, nb21, wd21, y1, y2, y3, y4⟩ := sim_step (lim := lim) hK hn hl hO hb (nI a) kd nb wd ky tk (nI a) sp nb2 wd2
      rw [y1, y2, bind_eq, bind_eq]
      dsimp only
      rw [show (13 : Int32) + nI G = nI (13 + G) from nI_add 13 G, show (3 : Int32) + nI G = nI (3 + G) from nI_add 3 G, show (10 : Int32) + nI G = nI (10 + G) from nI_add 10 G, show (17 : Int32) + nI G = nI (17 + G) from nI_add 17 G, show (24 : Int32) + nI G = nI (24 + G) from nI_add 24 G]
      rcases sim_fresh (to := 13 + G) hK hn hl hO y3 hP (by omega) sp1 fa fa2 with ⟨r, b2, bh2, at12, kd2, nb2', wd2', ky2, p2', tk2, at22, sp2, nb22, wd22, x1, x2, x3, x4, x5, x6, x7, x8⟩ | ⟨k, k0, x1, x2⟩
      · rw [x4, x6, bind_eq, bind_eq]
        dsimp only
        rw [if_neg nn1, if_neg nn1, gI_ok (show G < 7 by omega) (by omega), nmv_eq, x5, bind_eq, ix0 (by omega), x2]
        dsimp only
        rcases sim_puts (to := 3 + G) hK hn hl hO x7 (by omega) sp2 ta fa fa2 got 0 999 h with ⟨v3, b3, bh3, at13, kd3, nb3, wd3, ky3, p3', tk3, at23, sp3, nb23, wd23, z1, z2, z3, z4, z5, z6, z7, z8⟩ | ⟨k, k0, z1, z2⟩
        · rw [z1, z2, bind_eq, bind_eq]
          dsimp only
          rw [if_neg nn1, if_neg nn1, gI_ok (show G < 7 by omega) (by omega), nmv_eq]
          rcases sim_puts (to := 10 + G) hK hn hl hO z7 (by omega) sp3 (nI v3) fa fa2 (nI v3) 0 9 (upd h (3 + G) (nI v3)) with ⟨v4, b4, bh4, at14, kd4, nb4, wd4, ky4, p4', tk4, at24, sp4, nb24, wd24, c1, c2, c3, c4, c5, c6, c7, c8⟩ | ⟨k, k0, z1, z2⟩
          · rw [c1, c2, bind_eq, bind_eq]
            dsimp only
            rw [if_neg nn1, if_neg nn1, gI_ok (show G < 7 by omega) (by omega), nmv_eq]
            rcases sim_puts (to := 17 + G) hK hn hl hO c7 (by omega) sp4 (nI v4) fa fa2 (nI v4) 0 9 (upd (upd h (3 + G) (nI v3)) (10 + G) (nI v4)) with ⟨v5, b5, bh5, at15, kd5, nb5, wd5, ky5, p5', tk5, at25, sp5, nb25, wd25, d1, d2, d3, d4, d5, d6, d7, d8⟩ | ⟨k, k0, z1, z2⟩
            · have e0 : (upd (upd (upd h (3 + G) (nI v3)) (10 + G) (nI v4)) (17 + G) (nI v5)) 0 = nI C := by rw [pk_un (by omega), pk_un (by omega), pk_un (by omega), h0]
              rw [d1, d2, bind_eq, bind_eq]
              dsimp only
              rw [if_neg nn1, if_neg nn1, gI_ok (show G < 7 by omega) (by omega), nmv_eq, nmv_eq, e0, show nI C - 1 = nI (C - 1) from pk_sub (b := 1) (by omega)]
              rcases sim_puts (to := 24 + G) hK hn hl hO d7 (by omega) sp5 (nI v5) fa fa2 (nI v5) 0 (nI (C - 1)) (upd (upd (upd h (3 + G) (nI v3)) (10 + G) (nI v4)) (17 + G) (nI v5)) with ⟨v6, b', bh', at1', kd', nb', wd', ky', p', tk', at2', sp', nb2', wd2', f1, f2, f3, f4, f5, f6, f7, f8⟩ | ⟨k, k0, z1, z2⟩
              · left
                have e1 : (upd (upd (upd (upd h (3 + G) (nI v3)) (10 + G) (nI v4)) (17 + G) (nI v5)) (24 + G) (nI v6)) 1 = nI G := by rw [pk_un (by omega), pk_un (by omega), pk_un (by omega), pk_un (by omega), h1]
                have q4 : v4 ≤ 9 := nle_nat (k := 9) c3 (by omega) c5
                have q5 : v5 ≤ 9 := nle_nat (k := 9) d3 (by omega) d5
                have q6 : v6 ≤ C - 1 := nle_nat (k := C - 1) f3 (by omega) f5
                have l1 : phi b1 kd1 = b1 := phi_97 x3
                have l2 : phi b2 kd2 = b2 := phi_48 z6
                have l3 : phi b3 kd3 = b3 := phi_48 c6
                have l4 : phi b4 kd4 = b4 := phi_48 d6
                have l5 : phi b5 kd5 = b5 := phi_48 f6
                refine ⟨G + 1, b', bh', at1', kd', nb', wd', ky', p', tk', at2', sp', nb2', wd2', nI v6, nI v6, vp_updL gn G (w5 r), upd co G (nI v3), upd pr G (nI v4), upd spd G (nI v5), upd pl G (nI v6), upd py G (nI G), upd (upd (upd (upd (upd h (3 + G) (nI v3)) (10 + G) (nI v4)) (17 + G) (nI v5)) (24 + G) (nI v6)) 1 (nI (G + 1)), vp_updL nm (13 + G) (w8 r), ?_, ?_, ⟨⟨hC2, hC9, by omega, by omega, hD⟩, ⟨by rw [pk_un (by omega), pk_un (by omega), e0], pk_us, by rw [pk_un (by omega), pk_un (by omega), pk_un (by omega), pk_un (by omega), pk_un (by omega), h2]⟩, fun g hg => ?_, fun g hg => ?_, fun g h3 h4 => ?_, fun d hd => ?_, RNm_new x1 n1, RNm_more n2 (by omega)⟩, fun i hi => pk_uLn (by omega), f7, by omega⟩
                · rw [f1, bind_eq]
                  dsimp only
                  rw [if_neg nn1, gI_ok (show G < 7 by omega) (by omega), nmv_eq, gI_ok (show G < 7 by omega) (by omega), nmv_eq, nmv_eq, nI_1]
                · rw [f2, bind_eq]
                  dsimp only
                  rw [if_neg nn1, nmv_eq, e1, nI_1]
                · by_cases e : g = G
                  · subst e
                    refine ⟨⟨v3, z3, pk_us, ?_⟩, ⟨v4, q4, pk_us, ?_⟩, ⟨v5, q5, pk_us, ?_⟩, ⟨v6, by omega, pk_us, ?_⟩⟩
                    · rw [pk_un (by omega), pk_un (by omega), pk_un (by omega), pk_un (by omega), pk_us]
                    · rw [pk_un (by omega), pk_un (by omega), pk_un (by omega), pk_us]
                    · rw [pk_un (by omega), pk_un (by omega), pk_us]
                    · rw [pk_un (by omega), pk_us]
                  · have hgG : g < G := by omega
                    have far : ∀ i, i ≠ 3 + G → i ≠ 10 + G → i ≠ 17 + G → i ≠ 24 + G → i ≠ 1 → upd (upd (upd (upd (upd h (3 + G) (nI v3)) (10 + G) (nI v4)) (17 + G) (nI v5)) (24 + G) (nI v6)) 1 (nI (G + 1)) i = h i := fun i i1 i2 i3 i4 i5 => by rw [pk_un i5, pk_un i4, pk_un i3, pk_un i2, pk_un i1]
                    rw [far (3 + g) (by omega) (by omega) (by omega) (by omega) (by omega), far (10 + g) (by omega) (by omega) (by omega) (by omega) (by omega), far (17 + g) (by omega) (by omega) (by omega) (by omega) (by omega), far (24 + g) (by omega) (by omega) (by omega) (by omega) (by omega), pk_un e, pk_un e, pk_un e, pk_un e]
                    exact p1 g hgG
                · have far : ∀ i, 37 ≤ i → upd (upd (upd (upd (upd h (3 + G) (nI v3)) (10 + G) (nI v4)) (17 + G) (nI v5)) (24 + G) (nI v6)) 1 (nI (G + 1)) i = h i := fun i hi => by rw [pk_un (by omega), pk_un (by omega), pk_un (by omega), pk_un (by omega), pk_un (by omega)]
                  rw [far (37 + g) (by omega)]
                  by_cases e : g = G
                  · subst e
                    exact Or.inl ⟨pk_us, p3 g (by omega) (by omega)⟩
                  · rw [pk_un e]
                    rcases p2 g (by omega) with hh | ⟨q, hq, hh⟩
                    · exact Or.inl hh
                    · exact Or.inr ⟨q, by omega, hh⟩
                · rw [pk_un (by omega), pk_un (by omega), pk_un (by omega), pk_un (by omega), pk_un (by omega)]
                  exact p3 g (by omega) h4
                · rw [pk_un (by omega), pk_un (by omega), pk_un (by omega), pk_un (by omega), pk_un (by omega)]
                  exact p4 d hd
              · right
                rw [z1, z2, bind_eq, bind_eq]
                dsimp only
                rw [if_pos rfl, if_pos rfl]
                exact ⟨k, _, _, _, _, _, _, _, _, _, _, _, _, _, _, _, _, _, _, _, _, _, _, _, _, k0, fun i hi => pk_uLn (by omega), rfl, rfl⟩
            · right
              rw [z1, z2, bind_eq, bind_eq]
              dsimp only
              rw [if_pos rfl, if_pos rfl]
              exact ⟨k, _, _, _, _, _, _, _, _, _, _, _, _, _, _, _, _, _, _, _, _, _, _, _, _, k0, fun i hi => pk_uLn (by omega), rfl, rfl⟩
          · right
            rw [z1, z2, bind_eq, bind_eq]
            dsimp only
            rw [if_pos rfl, if_pos rfl]
            exact ⟨k, _, _, _, _, _, _, _, _, _, _, _, _, _, _, _, _, _, _, _, _, _, _, _, _, k0, fun i hi => pk_uLn (by omega), rfl, rfl⟩
        · right
          rw [z1, z2, bind_eq, bind_eq]
          dsimp only
          rw [if_pos rfl, if_pos rfl]
          exact ⟨k, _, _, _, _, _, _, _, _, _, _, _, _, _, _, _, _, _, _, _, _, _, _, _, _, k0, fun i hi => pk_uLn (by omega), rfl, rfl⟩
      · right
        rw [x1, x2, bind_eq, bind_eq]
        dsimp only
        rw [if_pos rfl, if_pos rfl]
        exact ⟨k, _, _, _, _, _, _, _, _, _, _, _, _, _, _, _, _, _, _, _, _, _, _, _, _, k0, fun _ _ => rfl, rfl, rfl⟩
/-- LINE 'pays' -/
theorem sim_pays {n lim b : Nat} {B tp : A1} {keys res : Nat → Int64} (hK : RKy keys res) (hn : n ≤ 940) (hl : lim ≤ 940) (hO : OneT B tp) {bh at1 kd nb : Int32} {wd : Int64} {ky p tk at2 nb2 : Int32} {wd2 : Int64} (hR : RTok n b bh at1 kd nb wd ky p tk at2 nb2 wd2) {C G D : Nat} {gn : Nat → Int64} {co pr spd pl py : A1} {dn : Nat → Int64} {cs h : A1} {nm : Nat → Int64} (hP : PH C G D gn co pr spd pl py dn cs h nm) (sp ta fa fa2 got : Int32) :
    (∃ (b' : Nat) (bh' at1' kd' nb' : Int32) (wd' : Int64) (ky' p' tk' at2' sp' nb2' : Int32) (wd2' : Int64) (ta' got' : Int32) (py' h' : A1), fX3_readPays 940 (nI lim) (nI n) B keys (nI G) gn bh at1 kd nb wd ky ta 0 fa py = some (1, bh', at1', kd', nb', wd', ky', ta', 0, fa, py') ∧ fX12_readPays (nI n) (nI lim) tp nm res p tk at2 sp nb2 0 fa2 wd2 got h = some (1, p', tk', at2', sp', nb2', 0, fa2, wd2', got', h') ∧ PH C G D gn co pr spd pl py' dn cs h' nm ∧ RTok n b' bh' at1' kd' nb' wd' ky' p' tk' at2' nb2' wd2' ∧ b + 2 ≤ phi b' kd') ∨
    (∃ (k f : Int32) (bh' at1' kd' nb' : Int32) (wd' : Int64) (ky' ta' : Int32) (py' : A1) (p' tk' at2' sp' nb2' : Int32) (wd2' : Int64) (got' : Int32) (h' : A1), ¬ k = 0 ∧ fX3_readPays 940 (nI lim) (nI n) B keys (nI G) gn bh at1 kd nb wd ky ta 0 fa py = some (0, bh', at1', kd', nb', wd', ky', ta', k, f, py') ∧ fX12_readPays (nI n) (nI lim) tp nm res p tk at2 sp nb2 0 fa2 wd2 got h = some (0, p', tk', at2', sp', nb2', k, f, wd2', got', h')) := by
  obtain ⟨⟨hC2, hC9, hG, hGC, hD⟩, ⟨h0, h1, h2⟩, p1, p2, p3, p4, n1, n2⟩ := id hP
  obtain ⟨hb, rfl, rfl, ⟨a, ha, rfl, rfl⟩, hT⟩ := hR
  have hqq : ∀ (q : Int32) (x y : Int64), fX2_guestNamed (nI G) gn x = some q → ∀ r, WL r → x = w5 r → y = w8 r → fX12_seek y nm 13 (nI G) = some q ∧ (q = -1 ∨ ∃ i, i < G ∧ q = nI i) := by
    intro q x y hx r hr e1 e2
    obtain ⟨q', z1, z2, z3⟩ := (seek2 hP hr).1
    rw [e1, z2] at hx
    injection hx with hx
    rw [e2, ← h1, z3, ← hx]
    exact ⟨rfl, z1⟩
  unfold fX3_readPays fX12_readPays
  rw [h1]
  obtain ⟨b1, bh1, at11, kd1, nb1, wd1, ky1, p1', tk1, at21, sp1, nb21, wd21, y1, y2, y3, y4⟩ := sim_step (lim := lim) hK hn hl hO hb (nI a) kd nb wd ky tk (nI a) sp nb2 wd2
  rw [y1, y2, bind_eq, bind_eq]
  dsimp only
  obtain ⟨q, hq⟩ := named_any hG gn wd1
  rw [hq, bind_eq]
  rcases sim_takesName hK hn hl hO y3 (show G ≤ 100 by omega) (hqq q wd1 wd21 hq) sp1 ta fa fa2 got with ⟨i, b2, bh2, at12, kd2, nb2', wd2', ky2, p2', tk2, at22, sp2, nb22, wd22, x1, rfl, x3, -, x5, x6, x7, x8⟩ | ⟨k, got', k0, x1, x2⟩
  · rw [x5, x6, bind_eq, bind_eq]
    dsimp only
    rw [if_neg nn1, if_neg nn1]
    obtain ⟨q2, hq2⟩ := named_any hG gn wd2'
    have l1 : phi b1 kd1 = b1 := phi_97 x3
    have eat : at22 = at12 := by
      obtain ⟨-, -, -, ⟨a2, -, e1, e2⟩, -⟩ := x7
      rw [e1, e2]
    unfold bX3_readPays_69 bX3_readPays_102
    rcases sim_looks hK hn hl hO x7 (show G ≤ 100 by omega) (hqq q2 wd2' wd22 hq2) (nI i) fa fa2 (nI i) with ⟨r, i2, hr, e1, e2, hi2, rfl, z1, z2, z3⟩ | ⟨k, got', k0, z1, z2, z3⟩
    · simp only [z2, hq2, z3, bind_eq, if_neg nn1, if_neg (neg_nI i2 (show i2 < 2 ^ 31 by omega))]
      by_cases e : i2 = i
      · right
        rw [if_pos (by rw [e]), if_pos (by rw [e])]
        exact ⟨3, _, _, _, _, _, _, _, _, _, _, _, _, _, _, _, _, _, by decide, rfl, by rw [eat]; rfl⟩
      · rw [if_neg (fun e2 => e ((nI_eq (by omega) (by omega)).mp e2)), if_neg (fun e2 => e ((nI_eq (by omega) (by omega)).mp e2)), gI_ok (show i2 < 7 by omega) (by omega), ix0 (by omega), c37, gI_oka (show 37 + i2 < 44 by omega) (by omega), ixa (by omega)]
        rcases p2 i2 hi2 with ⟨u1, u2⟩ | ⟨q, u1, u2, u3, u4⟩
        · rw [if_pos u1, u2, if_pos (by decide), gI_oka (show 37 + i2 < 44 by omega) (by omega), nmv_eq]
          obtain ⟨hb2, rfl, rfl, ⟨a2, ha2, rfl, rfl⟩, hT2⟩ := x7
          obtain ⟨b', bh', at1', kd', nb', wd', ky', p', tk', at2', sp', nb2'', wd2'', v1, v2, v3, v4⟩ := sim_step (lim := lim) hK hn hl hO hb2 (nI a2) kd2 nb2' wd2' ky2 tk2 (nI a2) sp2 nb22 wd22
          have l2 : phi b2 kd2 = b2 := phi_97 z1
          left
          refine ⟨b', bh', at1', kd', nb', wd', ky', p', tk', at2', sp', nb2'', wd2'', nI i2, nI i2, upd py i2 (nI i), upd h (37 + i2) (nI (i + 1)), ?_, ?_, ⟨⟨hC2, hC9, hG, hGC, hD⟩, ⟨by rw [pk_un (by omega), h0], by rw [pk_un (by omega), h1], by rw [pk_un (by omega), h2]⟩, fun g hg => ?_, fun g hg => ?_, fun g h3 h4 => ?_, fun d hd => ?_, n1, n2⟩, v3, by omega⟩
          · unfold fX6_takeNamed
            rw [z2, bind_eq, if_neg nn1, if_neg (neg_nI i2 (by omega)), v1, bind_eq, bind_eq]
            dsimp only
            rw [if_neg nn1, gI_ok (show i2 < 7 by omega) (by omega), nmv_eq, ix0 (by omega)]
          · rw [v2, bind_eq, nI_1]
          · rw [pk_un (by omega), pk_un (by omega), pk_un (by omega), pk_un (by omega)]
            exact p1 g hg
          · by_cases eg : g = i2
            · subst eg
              exact Or.inr ⟨i, x1, fun h => e h.symm, pk_us, pk_us⟩
            · rw [pk_un eg, pk_un (by omega)]
              exact p2 g hg
          · rw [pk_un (by omega)]
            exact p3 g h3 h4
          · rw [pk_un (by omega)]
            exact p4 d hd
        · right
          rw [if_neg (show ¬ py i2 = nI i2 from fun e2 => u2 ((nI_eq (by omega) (by omega)).mp (u3.symm.trans e2))), u4, if_neg (nI_nle (by omega) (by omega))]
          exact ⟨3, _, _, _, _, _, _, _, _, _, _, _, _, _, _, _, _, _, by decide, rfl, by rw [eat]; rfl⟩
    · right
      rcases z3 with ⟨-, z3⟩ | ⟨-, z3, rfl⟩
      · simp only [z1, z2, z3, hq2, bind_eq, if_true]
        exact ⟨k, _, _, _, _, _, _, _, _, _, _, _, _, _, _, _, _, _, k0, rfl, rfl⟩
      · simp only [z1, z2, z3, hq2, bind_eq, if_neg nn1, if_true]
        exact ⟨k, _, _, _, _, _, _, _, _, _, _, _, _, _, _, _, _, _, k0, rfl, rfl⟩
  · right
    rw [x1, x2, bind_eq, bind_eq]
    dsimp only
    rw [if_pos rfl, if_pos rfl]
    exact ⟨k, _, _, _, _, _, _, _, _, _, _, _, _, _, _, _, _, _, k0, rfl, rfl⟩
