/-! ===== pure: a HALL's text; promise 4 ===== -/
theorem cpyG {α : Type} {f g : Nat → α} {i m : Nat} (h : i < m) : va_cpy f g 0 0 m i = f i := by
  unfold va_cpy
  rw [if_pos (by omega)]
  exact congrArg f (by omega)
/-- what a HALL's text comes to, both -/
def HLr (n lim : Nat) (kk : Int32 → Int32 → Int32 → Int32 → Int32 → Int32 → Int32 → Int32 → Int32 → Int32 → Int32 → Int64 → Int32 → Int32 → Int32 → Int32 → A1 → A1 → (Nat → Int64) → Int32 → Option (Int32 × Int32 × Int32 × Int32 × Int32 × Int32 × Int32 × Int32 × Int32 × Int32 × Int32 × Int32 × Int64 × Int32 × Int32 × Int32 × Int32 × A1 × A1 × (Nat → Int64))) (th len um : Int32) (s : A1) (nm0 : Nat → Int64) (rC : Option (Int32 × Int32 × Int32 × Int32 × Int32 × Int32 × Int32 × Int64 × Int32 × Int32 × Int32 × Int32 × Int32 × Int32 × Int32 × (Nat → Int64) × A1 × A1 × A1 × A1 × A1 × (Nat → Int64) × A1)) (rM : Option (Int32 × Int32 × Int32 × Int32 × Int32 × Int32 × Int32 × Int32 × Int32 × Int32 × Int32 × Int32 × Int64 × Int32 × Int32 × Int32 × Int32 × A1 × A1 × (Nat → Int64))) : Prop :=
    (∃ (l' C' G' D' : Nat) (ct' bh' at1' kd' nb' : Int32) (wd' : Int64) (ky' ta' fa' : Int32) (gn' : Nat → Int64) (co' pr' spd' pl' py' : A1) (dn' : Nat → Int64) (cs' : A1) (p' tk' at2' sp' nb2' fa2' : Int32) (wd2' : Int64) (got' : Int32) (h' : A1) (nm' : Nat → Int64), PH C' G' D' gn' co' pr' spd' pl' py' dn' cs' h' nm' ∧ l' < 940 ∧ (∀ i, i < 13 → nm' i = nm0 i) ∧
      rC = some (nI l', ct', nI lim, bh', at1', kd', nb', wd', ky', ta', 0, fa', nI C', nI G', nI D', gn', co', pr', spd', pl', py', dn', cs') ∧
      rM = kk th len (nI n) p' (nI lim) tk' at2' sp' nb2' 0 fa2' wd2' got' (nI l') ct' um s h' nm' 0) ∨
    (∃ (k f : Int32) (ct' bh' at1' kd' nb' : Int32) (wd' : Int64) (ky' ta' C' G' D' : Int32) (gn' : Nat → Int64) (co' pr' spd' pl' py' : A1) (dn' : Nat → Int64) (cs' : A1) (p' tk' at2' sp' nb2' : Int32) (wd2' : Int64) (got' ln' ct2' : Int32) (h' : A1) (nm' : Nat → Int64), ¬ k = 0 ∧ (∀ i, i < 13 → nm' i = nm0 i) ∧
      rC = some (-1, ct', nI lim, bh', at1', kd', nb', wd', ky', ta', k, f, C', G', D', gn', co', pr', spd', pl', py', dn', cs') ∧
      rM = some (-1 - f, th, len, nI n, p', nI lim, tk', at2', sp', nb2', k, f, wd2', got', ln', ct2', um, s, h', nm'))
theorem hall_loop {n lim : Nat} {B tp : A1} {keys res : Nat → Int64} (hK : RKy keys res) (hn : n ≤ 940) (hl : lim ≤ 940) (hO : OneT B tp) (kk : Int32 → Int32 → Int32 → Int32 → Int32 → Int32 → Int32 → Int32 → Int32 → Int32 → Int32 → Int64 → Int32 → Int32 → Int32 → Int32 → A1 → A1 → (Nat → Int64) → Int32 → Option (Int32 × Int32 × Int32 × Int32 × Int32 × Int32 × Int32 × Int32 × Int32 × Int32 × Int32 × Int32 × Int64 × Int32 × Int32 × Int32 × Int32 × A1 × A1 × (Nat → Int64))) (th len um : Int32) (s : A1) (nm0 : Nat → Int64) : ∀ (m n1 n2 b l C G D : Nat) (bh at1 kd nb : Int32) (wd : Int64) (ky p tk at2 sp nb2 : Int32) (wd2 : Int64) (ct ta fa fa2 got : Int32) (gn : Nat → Int64) (co pr spd pl py : A1) (dn : Nat → Int64) (cs h : A1) (nm : Nat → Int64), 942 ≤ phi b kd + m → m < n1 → m < n2 → 2 * l ≤ phi b kd → RTok n b bh at1 kd nb wd ky p tk at2 nb2 wd2 → (ct = 0 ∨ ct = 1) → PH C G D gn co pr spd pl py dn cs h nm → (∀ i, i < 13 → nm i = nm0 i) →
    HLr n lim kk th len um s nm0 (lX3_read_24 940 (nI n) B keys n1 ct (nI lim) bh at1 kd nb wd ky ta 0 fa (nI C) (nI G) (nI D) gn co pr spd pl py dn cs (nI l)) (lX12_hall_35 tp res kk n2 th len (nI n) p (nI lim) tk at2 sp nb2 0 fa2 wd2 got (nI l) ct um s h nm) := by
  intro m
  induction m with
  | zero =>
    intro n1 n2 b l C G D bh at1 kd nb wd ky p tk at2 sp nb2 wd2 ct ta fa fa2 got gn co pr spd pl py dn cs h nm hm hn1 hn2 hl2 hR
    have : phi b kd ≤ b + 1 := by
      unfold phi
      split <;> omega
    have := hR.1
    omega
  | succ m ih =>
    intro n1 n2 b l C G D bh at1 kd nb wd ky p tk at2 sp nb2 wd2 ct ta fa fa2 got gn co pr spd pl py dn cs h nm hm hn1 hn2 hl2 hR hct hP hnm
    obtain ⟨n1, rfl⟩ := sn hn1
    obtain ⟨n2, rfl⟩ := sn hn2
    have hphi : phi b kd ≤ 941 := by
      have := hR.1
      unfold phi
      split <;> omega
    have h940 : ¬ (940 : Int32) ≤ nI l := nI_ge (b := 940) (by omega) (by omega)
    rcases tok_end hR.2.2.2.2 with ⟨e1, e2⟩ | ⟨e1, e2⟩
    · left
      rw [lX3_read_24, if_neg h940, if_pos e1, lX12_hall_35, if_pos e2]
      exact ⟨l, C, G, D, ct, bh, at1, kd, nb, wd, ky, ta, fa, gn, co, pr, spd, pl, py, dn, cs, p, tk, at2, sp, nb2, fa2, wd2, got, h, nm, hP, by omega, hnm, rfl, rfl⟩
    · -- behind a line that was read: the sign, and on
      have go : ∀ (C2 G2 D2 b1 : Nat) (bh1 at11 kd1 nb1 : Int32) (wd1 : Int64) (ky1 p1 tk1 at21 sp1 nb21 : Int32) (wd21 : Int64) (ct1 ta1 got1 : Int32) (gn1 : Nat → Int64) (co1 pr1 spd1 pl1 py1 : A1) (dn1 : Nat → Int64) (cs1 h1 : A1) (nm1 : Nat → Int64), RTok n b1 bh1 at11 kd1 nb1 wd1 ky1 p1 tk1 at21 nb21 wd21 → (ct1 = 0 ∨ ct1 = 1) → PH C2 G2 D2 gn1 co1 pr1 spd1 pl1 py1 dn1 cs1 h1 nm1 → (∀ i, i < 13 → nm1 i = nm0 i) → phi b kd + 2 ≤ phi b1 kd1 → kd = 97 →
        fX3_readLine 940 (nI lim) (nI n) B keys ct bh at1 kd nb wd ky ta 0 fa (nI C) (nI G) (nI D) gn co pr spd pl py dn cs = bX3_readLine_77 940 (nI lim) (nI n) B keys ct1 bh1 at11 kd1 nb1 wd1 ky1 ta1 0 fa (nI C2) (nI G2) (nI D2) gn1 co1 pr1 spd1 pl1 py1 dn1 cs1 1 → fX12_line (nI n) (nI lim) tp res p tk at2 sp nb2 0 fa2 wd2 got ct h nm = some (1, p1, tk1, at21, sp1, nb21, 0, fa2, wd21, got1, ct1, h1, nm1) → HLr n lim kk th len um s nm0 (lX3_read_24 940 (nI n) B keys (n1 + 1) ct (nI lim) bh at1 kd nb wd ky ta 0 fa (nI C) (nI G) (nI D) gn co pr spd pl py dn cs (nI l)) (lX12_hall_35 tp res kk (n2 + 1) th len (nI n) p (nI lim) tk at2 sp nb2 0 fa2 wd2 got (nI l) ct um s h nm) := by
        intro C2 G2 D2 b1 bh1 at11 kd1 nb1 wd1 ky1 p1 tk1 at21 sp1 nb21 wd21 ct1 ta1 got1 gn1 co1 pr1 spd1 pl1 py1 dn1 cs1 h1 nm1 gR gct gP gnm gphi gkd gC gM
        rw [lX3_read_24, if_neg h940, if_neg e1, lX12_hall_35, if_neg e2]
        rw [gC, gM, bind_eq]
        dsimp only
        rw [if_neg nn1]
        unfold bX3_readLine_77
        rw [if_neg nn1]
        rcases sim_sign (c := 59) hK hn hl hO gR (Or.inl rfl) sp1 fa fa2 with ⟨b', bh', at1', kd', nb', wd', ky', p', tk', at2', sp', nb2', wd2', z1, z2, z3, z4, z5⟩ | ⟨z1, z2, z3⟩
        · rw [show nI 59 = 59 from rfl] at z1 z2 z3
          rw [z1, z2, bind_eq, bind_eq]
          dsimp only
          rw [if_neg nn1, if_neg nn1, bind_eq]
          dsimp only
          rw [if_neg nn1, nI_1]
          have l1 : phi b1 kd1 = b1 := phi_of (by rw [z3]; decide)
          exact ih n1 n2 b' (l + 1) C2 G2 D2 bh' at1' kd' nb' wd' ky' p' tk' at2' sp' nb2' wd2' ct1 ta1 fa fa2 got1 gn1 co1 pr1 spd1 pl1 py1 dn1 cs1 h1 nm1 (by omega) (by omega) (by omega) (by omega) z4 gct gP gnm
        · right
          rw [show nI 59 = 59 from rfl] at z1 z2
          rw [z1, z2, bind_eq, bind_eq]
          dsimp only
          rw [if_pos rfl, if_pos rfl, bind_eq]
          dsimp only
          rw [if_pos rfl]
          exact ⟨1, _, _, _, _, _, _, _, _, _, _, _, _, _, _, _, _, _, _, _, _, _, _, _, _, _, _, _, _, _, _, _, by decide, gnm, rfl, rfl⟩
      have l0 : kd = 97 → phi b kd = b := phi_97
      have hT := hR.2.2.2.2
      have w0 := sim_word hT (k := 0) (by omega)
      have w1 := sim_word hT (k := 1) (by omega)
      have w2 := sim_word hT (k := 2) (by omega)
      have w3 := sim_word hT (k := 3) (by omega)
      rw [← kW0, show nI 0 = 0 from rfl] at w0
      rw [← kW1, show nI 1 = 1 from rfl] at w1
      rw [← kW2, show nI 2 = 2 from rfl] at w2
      rw [← kW3, show nI 3 = 3 from rfl] at w3
      by_cases k0 : ky = 0
      · have kk0 := key_word hT (k := 0) (by omega) k0
        rw [if_pos k0] at w0
        rcases sim_chairs hK hn hl hO hR hP hct sp ta fa fa2 got with ⟨C', b1, bh1, at11, kd1, nb1, wd1, ky1, p1, tk1, at21, sp1, nb21, wd21, ta', got', h', x1, x2, x3, x4, x5⟩ | ⟨k, f, ct', bh', at1', kd', nb', wd', ky', ta', C', p', tk', at2', sp', nb2', wd2', got', ct2', h', q0, x1, x2⟩
        · refine go C' G D b1 bh1 at11 kd1 nb1 wd1 ky1 p1 tk1 at21 sp1 nb21 wd21 1 ta' got' gn co pr spd pl py dn cs h' nm x4 (Or.inr rfl) x3 hnm (by rw [l0 kk0.1]; omega) kk0.1 ?_ ?_
          · unfold fX3_readLine
            rw [if_pos k0, x1, bind_eq]
          · unfold fX12_line
            rw [w0, bind_eq, if_neg nn1, x2, bind_eq]
        · right
          rw [lX3_read_24, if_neg h940, if_neg e1, lX12_hall_35, if_neg e2]
          unfold fX3_readLine bX3_readLine_77 fX12_line
          rw [if_pos k0, x1, w0]
          simp only [bind_eq, if_neg nn1, x2, if_true]
          exact ⟨k, _, _, _, _, _, _, _, _, _, _, _, _, _, _, _, _, _, _, _, _, _, _, _, _, _, _, _, _, _, _, _, q0, hnm, rfl, rfl⟩
      · rw [if_neg k0] at w0
        by_cases k1 : ky = 1
        · have kk1 := key_word hT (k := 1) (by omega) k1
          rw [if_pos k1] at w1
          rcases sim_guest hK hn hl hO hR hP sp ta fa fa2 got with ⟨G', b1, bh1, at11, kd1, nb1, wd1, ky1, p1, tk1, at21, sp1, nb21, wd21, ta', got', gn', co', pr', spd', pl', py', h', nm', x1, x2, x3, x6, x4, x5⟩ | ⟨k, f, bh', at1', kd', nb', wd', ky', ta', G', gn', co', pr', spd', pl', py', p', tk', at2', sp', nb2', wd2', got', h', nm', q0, x3, x1, x2⟩
          · refine go C G' D b1 bh1 at11 kd1 nb1 wd1 ky1 p1 tk1 at21 sp1 nb21 wd21 ct ta' got' gn' co' pr' spd' pl' py' dn cs h' nm' x4 hct x3 (fun i hi => by rw [x6 i hi, hnm i hi]) (by rw [l0 kk1.1]; omega) kk1.1 ?_ ?_
            · unfold fX3_readLine
              rw [if_neg k0, if_pos k1, x1, bind_eq]
            · unfold fX12_line
              rw [w0, bind_eq, if_pos rfl, w1, bind_eq, if_neg nn1, x2, bind_eq]
          · right
            rw [lX3_read_24, if_neg h940, if_neg e1, lX12_hall_35, if_neg e2]
            unfold fX3_readLine bX3_readLine_77 fX12_line
            rw [if_neg k0, if_pos k1, x1, w0, w1]
            simp only [bind_eq, if_neg nn1, x2, if_true]
            exact ⟨k, _, _, _, _, _, _, _, _, _, _, _, _, _, _, _, _, _, _, _, _, _, _, _, _, _, _, _, _, _, _, _, q0, fun i hi => by rw [x3 i hi, hnm i hi], rfl, rfl⟩
        · rw [if_neg k1] at w1
          by_cases k2 : ky = 2
          · have kk2 := key_word hT (k := 2) (by omega) k2
            rw [if_pos k2] at w2
            rcases sim_dish hK hn hl hO hR hP sp ta fa fa2 got with ⟨D', b1, bh1, at11, kd1, nb1, wd1, ky1, p1, tk1, at21, sp1, nb21, wd21, ta', got', dn', cs', h', nm', x1, x2, x3, x6, x4, x5⟩ | ⟨k, f, bh', at1', kd', nb', wd', ky', ta', D', dn', cs', p', tk', at2', sp', nb2', wd2', got', h', nm', q0, x3, x1, x2⟩
            · refine go C G D' b1 bh1 at11 kd1 nb1 wd1 ky1 p1 tk1 at21 sp1 nb21 wd21 ct ta' got' gn co pr spd pl py dn' cs' h' nm' x4 hct x3 (fun i hi => by rw [x6 i hi, hnm i hi]) (by rw [l0 kk2.1]; omega) kk2.1 ?_ ?_
              · unfold fX3_readLine
                rw [if_neg k0, if_neg k1, if_pos k2, x1, bind_eq]
              · unfold fX12_line
                rw [w0, bind_eq, if_pos rfl, w1, bind_eq, if_pos rfl, w2, bind_eq, if_neg nn1, x2, bind_eq]
            · right
              rw [lX3_read_24, if_neg h940, if_neg e1, lX12_hall_35, if_neg e2]
              unfold fX3_readLine bX3_readLine_77 fX12_line
              rw [if_neg k0, if_neg k1, if_pos k2, x1, w0, w1, w2]
              simp only [bind_eq, if_neg nn1, x2, if_true]
              exact ⟨k, _, _, _, _, _, _, _, _, _, _, _, _, _, _, _, _, _, _, _, _, _, _, _, _, _, _, _, _, _, _, _, q0, fun i hi => by rw [x3 i hi, hnm i hi], rfl, rfl⟩
          · rw [if_neg k2] at w2
            by_cases k3 : ky = 3
            · have kk3 := key_word hT (k := 3) (by omega) k3
              rw [if_pos k3] at w3
              rcases sim_pays hK hn hl hO hR hP sp ta fa fa2 got with ⟨b1, bh1, at11, kd1, nb1, wd1, ky1, p1, tk1, at21, sp1, nb21, wd21, ta', got', py', h', x1, x2, x3, x4, x5⟩ | ⟨k, f, bh', at1', kd', nb', wd', ky', ta', py', p', tk', at2', sp', nb2', wd2', got', h', q0, x1, x2⟩
              · refine go C G D b1 bh1 at11 kd1 nb1 wd1 ky1 p1 tk1 at21 sp1 nb21 wd21 ct ta' got' gn co pr spd pl py' dn cs h' nm x4 hct x3 hnm (by rw [l0 kk3.1]; omega) kk3.1 ?_ ?_
                · unfold fX3_readLine
                  rw [if_neg k0, if_neg k1, if_neg k2, if_pos k3, x1, bind_eq]
                · unfold fX12_line
                  rw [w0, bind_eq, if_pos rfl, w1, bind_eq, if_pos rfl, w2, bind_eq, if_pos rfl, w3, bind_eq, if_neg nn1, x2, bind_eq]
              · right
                rw [lX3_read_24, if_neg h940, if_neg e1, lX12_hall_35, if_neg e2]
                unfold fX3_readLine bX3_readLine_77 fX12_line
                rw [if_neg k0, if_neg k1, if_neg k2, if_pos k3, x1, w0, w1, w2, w3]
                simp only [bind_eq, if_neg nn1, x2, if_true]
                exact ⟨k, _, _, _, _, _, _, _, _, _, _, _, _, _, _, _, _, _, _, _, _, _, _, _, _, _, _, _, _, _, _, _, q0, hnm, rfl, rfl⟩
            · rw [if_neg k3] at w3
              right
              obtain ⟨a, -, ea1, ea2⟩ := hR.2.2.2.1
              rw [lX3_read_24, if_neg h940, if_neg e1, lX12_hall_35, if_neg e2]
              unfold fX3_readLine bX3_readLine_77 fX12_line fX6_refuse fX12_bad
              rw [if_neg k0, if_neg k1, if_neg k2, if_neg k3, w0, w1, w2, w3]
              simp only [bind_eq, if_true]
              rw [ea1, ea2]
              exact ⟨1, _, _, _, _, _, _, _, _, _, _, _, _, _, _, _, _, _, _, _, _, _, _, _, _, _, _, _, _, _, _, _, by decide, hnm, rfl, rfl⟩
