/-! ===== pure: a SENTENCE: ONE, ALL, COND ===== -/
theorem key_is {kd nb : Int32} {wd : Int64} {ky tk nb2 : Int32} {wd2 : Int64} (hT : TokK kd nb wd ky tk nb2 wd2) {k : Nat} (hk : k < 22) {c : Int32} (hc : nI k = c) : fX6_isKey kd ky c = some (if ky = c then 1 else 0) := by
  subst hc
  exact sim_key hT hk
theorem phi_le {n b : Nat} {kd : Int32} (hn : n ≤ 940) (hb : b ≤ n) : phi b kd ≤ 941 := by
  unfold phi
  split <;> omega
theorem SI_in {G L o t : Nat} {st sg va rd : A1} (hS : SI0 G L o t st sg va rd) (ho : o < 20) : SI0 G L (o + 1) (t + 1) st sg va rd := by
  obtain ⟨⟨h1, h2, h3, h4⟩, hW⟩ := hS
  exact ⟨⟨by omega, by omega, by omega, by omega⟩, hW⟩
/-- a bracket: what stands in it, and its end -/
theorem one_brk {n lim : Nat} {B tp : A1} {keys res : Nat → Int64} (hK : RKy keys res) (hn : n ≤ 940) (hl : lim ≤ 940) (hO : OneT B tp) {G D : Nat} {gn dn nm : Nat → Int64} {s : A1} (hN : RN2 G D gn dn s nm) (kk : KS) (th len fa fa2 : Int32) {d w : Nat} (hw : w ≤ 8) (hC : CND n lim B tp keys res G gn nm kk th len fa fa2 s d (w + 1)) {gO : Int32 → Int32 → Int32 → Int32 → Int64 → Int32 → Int32 → Int32 → Int32 → Int32 → Int32 → A1 → A1 → A1 → Int32 → Option OC} {n2 b L o t : Nat} {bh at1 kd nb : Int32} {wd : Int64} {ky : Int32} (ta : Int32) {p tk at2 : Int32} (sp : Int32) {nb2 : Int32} {wd2 : Int64} (got : Int32) {st sg va rd : A1} (stk : A1) (hR : RTok n b bh at1 kd nb wd ky p tk at2 nb2 wd2) (hf : 1000 ≤ phi b kd + n2) (hS : SI0 G L o t st sg va rd) (ho : o < 20) (k1 : kd = nI 40) (k2 : tk = 3 ∧ nb2 = nI 40) (hkm : ky = -1) (x3 : Int32) :
    Res n lim G tp nm res kk th len fa fa2 s L o t w st sg va stk Q1 (bX8_readOne_51 940 (nI lim) (nI n) B keys (nI G) gn (fbX8_readCond 940 (nI lim) (nI n) B keys (nI G) gn (fbX8_readAll 940 (nI lim) (nI n) B keys (nI G) gn (fX8_readOne 940 (nI lim) (nI n) B keys (nI G) gn d))) gO bh at1 kd nb wd ky ta 0 fa (nI L) (nI o) st sg va (nI w) 1 x3) (lX12_sentence_48 tp nm res kk n2 th len (nI n) p (nI lim) tk at2 sp nb2 0 fa2 wd2 got (nI L) (nI o) (nI t) (nI w) 0 s rd stk 1) := by
  obtain ⟨hb, rfl, rfl, ⟨a, ha, rfl, rfl⟩, hT⟩ := hR
  have hp : phi b kd = b := phi_of (by rw [k1]; decide)
  have ht : t < 45 := by have := hS.1; omega
  obtain ⟨m, rfl⟩ := sn (show 0 < n2 by omega)
  obtain ⟨b1, bh1, at11, kd1, nb1, wd1, ky1, p1, tk1, at21, sp1, nb21, wd21, y1, y2, y3, y4⟩ := sim_step (lim := lim) hK hn hl hO hb (nI a) kd nb wd ky tk (nI a) sp nb2 wd2
  have hS1 := SI_in hS ho
  have h23 : upd stk t 23 (t + 1 - 1) = 23 := by
    rw [show t + 1 - 1 = t by omega]
    exact pk_us
  have hX := hC m b1 L (o + 1) (t + 1) bh1 at11 kd1 nb1 wd1 ky1 ta p1 tk1 at21 sp1 nb21 wd21 got st sg va rd (upd stk t 23) y3 (by omega) hS1 (Or.inr h23)
  rw [LS_op1 _ _ _ _ _ _ _ _ _ _ _ _ _ _ _ _ _ _ _ _ _ _ _ _ _ ((op_brk hT hkm k2 _ _ _ _ _ _ _ _ _ _ _ _ _ _ _ _ _ _ _).trans (op38_push _ _ _ _ _ _ _ _ _ _ _ _ _ _ _ _ _ _ _ _ ho hw ht y2 (Or.inr ⟨rfl, rfl, rfl⟩)))]
  unfold bX8_readOne_51
  rw [if_neg (show ¬ (20 : Int32) ≤ nI o from nI_ge (b := 20) (by omega) (by omega)), if_pos (nlt9 hw), nmv_eq, y1, bind_eq, nI_1, nI_1]
  dsimp only
  rw [if_neg nn1]
  rcases hX with ⟨n2', b', bh', at1', kd', nb', wd', ky', ta', p', tk', at2', sp', nb2', wd2', got', L', o', c', po, pa, k, st', sg', va', rd', stk', r1, r2, r3, r4, r5, r6⟩ | ⟨q, f, bh', at1', kd', nb', wd', ky', ta', L', o', st', sg', va', p', tk', at2', sp', nb2', wd2', got', c', o2', t', dp', w', rd', stk', r0, r1, r2⟩
  · rw [r1, bind_eq, r2]
    dsimp only
    rw [if_neg nn1]
    obtain ⟨e1, e2, f1, f2, f3⟩ := fl_or (w := w + 1) hS1 r6 (by omega) (Or.inr h23)
    obtain ⟨hb', rfl, rfl, ⟨a', ha', rfl, rfl⟩, hT'⟩ := id r3
    have hph := phi_le (kd := kd') hn hb'
    obtain ⟨m', rfl⟩ := sn (show 0 < n2' by omega)
    rcases tok_sg hT' (c := 41) (show isSg 41 by unfold isSg; omega) with ⟨j1, j2, j3⟩ | ⟨j1, j2⟩
    · have hp' : phi b' kd' = b' := phi_of (by rw [j1]; decide)
      obtain ⟨b3, bh3, at13, kd3, nb3, wd3, ky3, p3, tk3, at23, sp3, nb23, wd23, z1, z2, z3, z4⟩ := sim_step (lim := lim) hK hn hl hO hb' (nI a') kd' nb' wd' ky' tk' (nI a') sp' nb2' wd2'
      unfold fX6_takeSign
      rw [if_pos (show kd' = 41 from j1), z1, bind_eq]
      dsimp only
      rw [bind_eq]
      dsimp only
      rw [if_neg nn1]
      left
      refine ⟨m', b3, bh3, at13, kd3, nb3, wd3, ky3, ta', p3, tk3, at23, sp3, nb23, wd23, got', L', o', L', 0, 0, 0, st', sg', va', e2, stk', rfl, ?_, z3, by omega, ⟨rfl, rfl⟩, brk_PO r6 f3⟩
      exact LS_bh1 _ _ _ _ _ _ _ _ _ _ _ _ _ _ _ _ _ _ _ _ _ _ _ _ _ (by rw [j2]; decide) (bh_close hT' r5.1 r5.2 ⟨j2, j3⟩ f1 f2 (by omega) z2)
    · unfold fX6_takeSign
      rw [if_neg (show ¬ kd' = 41 from j1), refuse0, bind_eq]
      dsimp only
      rw [bind_eq]
      dsimp only
      rw [if_pos rfl]
      right
      by_cases e0 : tk' = 0
      · exact ⟨1, nI a', _, _, _, _, _, _, _, _, _, _, _, _, _, _, _, _, _, _, _, _, _, _, _, _, _, _, nn1, rfl, LS_end _ _ _ _ _ _ _ _ _ _ _ _ _ _ _ _ _ _ _ _ _ _ _ _ _ e0 f1 f2 (nI_nle (by omega) (by omega))⟩
      · exact ⟨1, nI a', _, _, _, _, _, _, _, _, _, _, _, _, _, _, _, _, _, _, _, _, _, _, _, _, _, _, nn1, rfl, LS_bh0 _ _ _ _ _ _ _ _ _ _ _ _ _ _ _ _ _ _ _ _ _ _ _ _ _ e0 (bh_bad hT' r5.1 r5.2 (Or.inl j2) f1 f2)⟩
  · rw [r1, bind_eq, r2]
    dsimp only
    rw [if_pos rfl]
    right
    exact ⟨q, f, _, _, _, _, _, _, _, _, _, _, _, _, _, _, _, _, _, _, _, _, _, _, _, _, _, _, r0, rfl, rfl⟩
/-- 'not' -/
theorem one_not {n lim : Nat} {B tp : A1} {keys res : Nat → Int64} (hK : RKy keys res) (hn : n ≤ 940) (hl : lim ≤ 940) (hO : OneT B tp) {G D : Nat} {gn dn nm : Nat → Int64} {s : A1} (hN : RN2 G D gn dn s nm) (kk : KS) (th len fa fa2 : Int32) {d w : Nat} (hw : w ≤ 8) (h1 : ONE n lim B tp keys res G gn nm kk th len fa fa2 s d (w + 1)) {gC : Int32 → Int32 → Int32 → Int32 → Int64 → Int32 → Int32 → Int32 → Int32 → Int32 → Int32 → A1 → A1 → A1 → Int32 → Option OC} {n2 b L o t : Nat} {bh at1 kd nb : Int32} {wd : Int64} {ky : Int32} (ta : Int32) {p tk at2 : Int32} (sp : Int32) {nb2 : Int32} {wd2 : Int64} (got : Int32) {st sg va rd : A1} (stk : A1) (hR : RTok n b bh at1 kd nb wd ky p tk at2 nb2 wd2) (hf : 1000 ≤ phi b kd + n2) (hS : SI0 G L o t st sg va rd) (ho : o < 20) (hky : ky = nI 12) :
    Res n lim G tp nm res kk th len fa fa2 s L o t w st sg va stk Q1 (bX8_readOne_51 940 (nI lim) (nI n) B keys (nI G) gn gC (fX8_readOne 940 (nI lim) (nI n) B keys (nI G) gn d) bh at1 kd nb wd ky ta 0 fa (nI L) (nI o) st sg va (nI w) 0 ky) (lX12_sentence_48 tp nm res kk n2 th len (nI n) p (nI lim) tk at2 sp nb2 0 fa2 wd2 got (nI L) (nI o) (nI t) (nI w) 0 s rd stk 1) := by
  obtain ⟨hb, rfl, rfl, ⟨a, ha, rfl, rfl⟩, hT⟩ := hR
  have hp : phi b kd = b := phi_97 (key_word hT (k := 12) (by omega) hky).1
  have ht : t < 45 := by have := hS.1; omega
  obtain ⟨m, rfl⟩ := sn (show 0 < n2 by omega)
  obtain ⟨b1, bh1, at11, kd1, nb1, wd1, ky1, p1, tk1, at21, sp1, nb21, wd21, y1, y2, y3, y4⟩ := sim_step (lim := lim) hK hn hl hO hb (nI a) kd nb wd ky tk (nI a) sp nb2 wd2
  have hS1 := SI_in hS ho
  have hX := h1 m b1 L (o + 1) (t + 1) bh1 at11 kd1 nb1 wd1 ky1 ta p1 tk1 at21 sp1 nb21 wd21 got st sg va rd (upd stk t 20) y3 (by omega) hS1
  rw [LS_op1 _ _ _ _ _ _ _ _ _ _ _ _ _ _ _ _ _ _ _ _ _ _ _ _ _ ((op_not hT hky _ _ _ _ _ _ _ _ _ _ _ _ _ _ _ _ _ _ _).trans (op38_push _ _ _ _ _ _ _ _ _ _ _ _ _ _ _ _ _ _ _ _ ho hw ht y2 (Or.inl ⟨rfl, rfl, rfl⟩))), cl51_key _ _ _ _ _ _ _ _ _ _ _ _ _ _ ho hw y1]
  unfold bX8_readOne_166
  rw [if_pos (show ky = 12 from hky), nI_1]
  rcases hX with ⟨n2', b', bh', at1', kd', nb', wd', ky', ta', p', tk', at2', sp', nb2', wd2', got', L', o', c', po, pa, k, st', sg', va', rd', stk', r1, r2, r3, r4, ⟨rfl, rfl⟩, r6⟩ | ⟨q, f, bh', at1', kd', nb', wd', ky', ta', L', o', st', sg', va', p', tk', at2', sp', nb2', wd2', got', c', o2', t', dp', w', rd', stk', r0, r1, r2⟩
  · have hL := (PO_num hS1 r6).2.1
    rw [r1, bind_eq, r2]
    dsimp only
    rw [if_neg nn1, add_eq (by omega), bind_eq]
    dsimp only
    rw [if_neg nn1]
    left
    refine ⟨n2', b', bh', at1', kd', nb', wd', ky', ta', p', tk', at2', sp', nb2', wd2', got', L' + 1, o', c', 0, 0, k + 1, upd st' L' 12, upd sg' L' 0, upd va' L' 0, rd', stk', rfl, ?_, r3, r4, ⟨rfl, rfl⟩, not_PO r6 0 0⟩
    rw [show t + 1 + 0 + 0 + k = t + 0 + 0 + (k + 1) by omega, show w + 1 + k = w + (k + 1) by omega]
  · rw [r1, bind_eq, r2]
    dsimp only
    rw [if_pos rfl]
    right
    exact ⟨q, f, _, _, _, _, _, _, _, _, _, _, _, _, _, _, _, _, _, _, _, _, _, _, _, _, _, _, r0, rfl, rfl⟩
theorem one_step {n lim : Nat} {B tp : A1} {keys res : Nat → Int64} (hK : RKy keys res) (hn : n ≤ 940) (hl : lim ≤ 940) (hO : OneT B tp) {G D : Nat} {gn dn nm : Nat → Int64} {s : A1} (hN : RN2 G D gn dn s nm) (kk : KS) (th len fa fa2 : Int32) {d w : Nat} (hw : w ≤ 9) (hC : w ≤ 8 → CND n lim B tp keys res G gn nm kk th len fa fa2 s d (w + 1)) (h1 : w ≤ 8 → ONE n lim B tp keys res G gn nm kk th len fa fa2 s d (w + 1)) : ONE n lim B tp keys res G gn nm kk th len fa fa2 s (d + 1) w := by
  intro n2 b L o t bh at1 kd nb wd ky ta p tk at2 sp nb2 wd2 got st sg va rd stk hR hf hS
  obtain ⟨hb, e1, e2, ⟨a, ha, ea1, ea2⟩, hT⟩ := id hR
  have ho20 : o ≤ 20 := hS.1.2.1
  have hph := phi_le (kd := kd) hn hb
  rw [fX8_readOne]
  unfold fbX8_readOne
  rcases tok_sg hT (c := 40) (show isSg 40 by unfold isSg; omega) with ⟨k1, k2, k3⟩ | ⟨k1, k2⟩
  · have hkm : ky = -1 := by
      rcases tok_n1 hT with ⟨e, -⟩ | ⟨-, -, e⟩
      · rw [k1] at e
        exact absurd e (by decide)
      · exact e
    rw [if_pos (show kd = 40 from k1)]
    unfold bX8_readOne_17
    rw [if_neg nn1]
    by_cases h4 : o = 20 ∨ w = 9
    · obtain ⟨m, rfl⟩ := sn (show 0 < n2 by omega)
      rw [cl51_4 _ _ _ _ _ _ _ _ _ _ _ _ _ _ ho20 hw h4]
      right
      rw [ea1, ea2]
      exact ⟨4, nI a, _, _, _, _, _, _, _, _, _, _, _, _, _, _, _, _, _, _, _, _, _, _, _, _, _, _, by decide, rfl, LS_op0 _ _ _ _ _ _ _ _ _ _ _ _ _ _ _ _ _ _ _ _ _ _ _ _ _ ((op_brk hT hkm ⟨k2, k3⟩ _ _ _ _ _ _ _ _ _ _ _ _ _ _ _ _ _ _ _).trans (op38_4 _ _ _ _ _ _ _ _ _ _ _ _ _ _ _ _ _ _ _ _ _ _ _ ho20 hw h4))⟩
    · have a1 : ¬ o = 20 := fun e => h4 (Or.inl e)
      have a2 : ¬ w = 9 := fun e => h4 (Or.inr e)
      exact one_brk hK hn hl hO hN kk th len fa fa2 (by omega) (hC (by omega)) ta sp got stk hR hf hS (by omega) k1 ⟨k2, k3⟩ hkm ky
  · rw [if_neg (show ¬ kd = 40 from k1)]
    unfold bX8_readOne_17
    rw [if_pos rfl]
    have none : ky < 12 → (∀ k, 12 ≤ k → k ≤ 21 → ¬ ky = nI k) → Res n lim G tp nm res kk th len fa fa2 s L o t w st sg va stk Q1 (some (0, bh, at1, kd, nb, wd, ky, ta, 1, at1, nI L, nI o, st, sg, va)) (lX12_sentence_48 tp nm res kk n2 th len (nI n) p (nI lim) tk at2 sp nb2 0 fa2 wd2 got (nI L) (nI o) (nI t) (nI w) 0 s rd stk 1) := by
      intro _ h
      obtain ⟨m, rfl⟩ := sn (show 0 < n2 by omega)
      right
      rw [ea1, ea2]
      exact ⟨1, nI a, _, _, _, _, _, _, _, _, _, _, _, _, _, _, _, _, _, _, _, _, _, _, _, _, _, _, nn1, rfl, LS_op0 _ _ _ _ _ _ _ _ _ _ _ _ _ _ _ _ _ _ _ _ _ _ _ _ _ (op_none hT h k2 _ _ _ _ _ _ _ _ _ _ _ _ _ _ _ _ _ _ _)⟩
    rcases ky_vals hT with e | ⟨k, hk, e⟩
    · have hlt : ky < 12 := by
        rw [e]
        decide
      rw [if_pos hlt, refuse0, bind_eq]
      exact none hlt (fun k g1 g2 g3 => neg_nI k (by omega) (g3.symm.trans e))
    · by_cases h12 : k < 12
      · have hlt : ky < 12 := by
          rw [e]
          exact nI_lt (b := 12) h12 (by omega)
        rw [if_pos hlt, refuse0, bind_eq]
        exact none hlt (fun k' g1 g2 g3 => absurd ((nI_eq (by omega) (by omega)).mp (g3.symm.trans e)) (by omega))
      · rw [if_neg (show ¬ ky < 12 by rw [e]; exact nI_nlt (b := 12) (by omega) (by omega)), if_pos (show ky ≤ 21 by rw [e]; exact nI_le (b := 21) (by omega) (by omega))]
        by_cases h4 : o = 20 ∨ w = 9
        · obtain ⟨m, rfl⟩ := sn (show 0 < n2 by omega)
          rw [cl51_4 _ _ _ _ _ _ _ _ _ _ _ _ _ _ ho20 hw h4]
          right
          by_cases h0 : k = 12
          · rw [ea1, ea2]
            exact ⟨4, nI a, _, _, _, _, _, _, _, _, _, _, _, _, _, _, _, _, _, _, _, _, _, _, _, _, _, _, by decide, rfl, LS_op0 _ _ _ _ _ _ _ _ _ _ _ _ _ _ _ _ _ _ _ _ _ _ _ _ _ ((op_not hT (by rw [e, h0]; rfl) _ _ _ _ _ _ _ _ _ _ _ _ _ _ _ _ _ _ _).trans (op38_4 _ _ _ _ _ _ _ _ _ _ _ _ _ _ _ _ _ _ _ _ _ _ _ ho20 hw h4))⟩
          · rw [ea1, ea2]
            exact ⟨4, nI a, _, _, _, _, _, _, _, _, _, _, _, _, _, _, _, _, _, _, _, _, _, _, _, _, _, _, by decide, rfl, LS_op0 _ _ _ _ _ _ _ _ _ _ _ _ _ _ _ _ _ _ _ _ _ _ _ _ _ ((op_leaf hT (j := k - 13) (by omega) (by rw [e, show 13 + (k - 13) = k by omega]) _ _ _ _ _ _ _ _ _ _ _ _ _ _ _ _ _ _ _).trans (op38_4 _ _ _ _ _ _ _ _ _ _ _ _ _ _ _ _ _ _ _ _ _ _ _ ho20 hw h4))⟩
        · have a1 : ¬ o = 20 := fun e => h4 (Or.inl e)
          have a2 : ¬ w = 9 := fun e => h4 (Or.inr e)
          have hk2 : k = 12 ∨ k = 13 ∨ k = 14 ∨ k = 15 ∨ k = 16 ∨ k = 17 ∨ k = 18 ∨ k = 19 ∨ k = 20 ∨ k = 21 := by omega
          rcases hk2 with g | g | g | g | g | g | g | g | g | g
          · exact one_not hK hn hl hO hN kk th len fa fa2 (by omega) (h1 (by omega)) ta sp got stk hR hf hS (by omega) (by rw [e, g])
          · exact one_leaf0 hK hn hl hO hN kk th len fa fa2 (by omega) ta sp got stk hR hf hS (by omega) (by rw [e, g])
          · exact one_leaf1 hK hn hl hO hN kk th len fa fa2 (by omega) ta sp got stk hR hf hS (by omega) (by rw [e, g])
          · exact one_leaf2 hK hn hl hO hN kk th len fa fa2 (by omega) ta sp got stk hR hf hS (by omega) (by rw [e, g])
          · exact one_leaf3 hK hn hl hO hN kk th len fa fa2 (by omega) ta sp got stk hR hf hS (by omega) (by rw [e, g])
          · exact one_leaf4 hK hn hl hO hN kk th len fa fa2 (by omega) ta sp got stk hR hf hS (by omega) (by rw [e, g])
          · exact one_leaf5 hK hn hl hO hN kk th len fa fa2 (by omega) ta sp got stk hR hf hS (by omega) (by rw [e, g])
          · exact one_leaf6 hK hn hl hO hN kk th len fa fa2 (by omega) ta sp got stk hR hf hS (by omega) (by rw [e, g])
          · exact one_leaf7 hK hn hl hO hN kk th len fa fa2 (by omega) ta sp got stk hR hf hS (by omega) (by rw [e, g])
          · exact one_leaf8 hK hn hl hO hN kk th len fa fa2 (by omega) ta sp got stk hR hf hS (by omega) (by rw [e, g])
theorem all_loop {n lim : Nat} {B tp : A1} {keys res : Nat → Int64} (hK : RKy keys res) (hn : n ≤ 940) (hl : lim ≤ 940) (hO : OneT B tp) {G D : Nat} {gn dn nm : Nat → Int64} {s : A1} (hN : RN2 G D gn dn s nm) (kk : KS) (th len fa fa2 : Int32) {d w : Nat} (hw : w ≤ 9) (h1 : ONE n lim B tp keys res G gn nm kk th len fa fa2 s d w) {L0 o0 t : Nat} {st0 sg0 va0 rd0 stk0 : A1} (hS : SI0 G L0 o0 t st0 sg0 va0 rd0) (hb0 : t = 0 ∨ stk0 (t - 1) = 22 ∨ stk0 (t - 1) = 23) : ∀ (m i n1 : Nat), i + m = 20 → m < n1 → ∀ (n2 b L o c pa k : Nat) (bh at1 kd nb : Int32) (wd : Int64) (ky ta p tk at2 sp nb2 : Int32) (wd2 : Int64) (got : Int32) (st sg va rd stk : A1), RTok n b bh at1 kd nb wd ky p tk at2 nb2 wd2 → 1000 ≤ phi b kd + n2 → POs G L0 o0 t 0 pa k L o c st0 sg0 va0 st sg va rd stk0 stk → o0 + 1 + i ≤ o →
    Res n lim G tp nm res kk th len fa fa2 s L0 o0 t w st0 sg0 va0 stk0 Q2 (lX8_readAll_12 940 (nI lim) (nI n) B keys (nI G) gn (fX8_readOne 940 (nI lim) (nI n) B keys (nI G) gn d) n1 bh at1 kd nb wd ky ta 0 fa (nI L) (nI o) st sg va (nI w) (nI i)) (lX12_sentence_48 tp nm res kk n2 th len (nI n) p (nI lim) tk at2 sp nb2 0 fa2 wd2 got (nI c) (nI o) (nI (t + 0 + pa + k)) (nI (w + k)) 1 s rd stk 1) := by
  intro m
  induction m with
  | zero =>
    intro i n1 hi hn1 n2 b L o c pa k bh at1 kd nb wd ky ta p tk at2 sp nb2 wd2 got st sg va rd stk hR hf hP hoi
    have := hP.2.1
    omega
  | succ m ih =>
    intro i n1 hi hn1 n2 b L o c pa k bh at1 kd nb wd ky ta p tk at2 sp nb2 wd2 got st sg va rd stk hR hf hP hoi
    obtain ⟨n1, rfl⟩ := sn hn1
    obtain ⟨hb, rfl, rfl, ⟨a, ha, rfl, rfl⟩, hT⟩ := id hR
    have hph := phi_le (kd := kd) hn hb
    obtain ⟨m1, m2, m3, m4⟩ := PO_num hS hP
    rw [lX8_readAll_12, if_neg (show ¬ (20 : Int32) ≤ nI i from nI_ge (b := 20) (by omega) (by omega)), key_is hT (k := 11) (by omega) (c := 11) rfl, bind_eq]
    by_cases e : ky = 11
    · rw [if_pos e, if_neg nn1]
      have hp : phi b kd = b := phi_97 (key_word hT (k := 11) (by omega) e).1
      have htk := (key_word hT (k := 11) (by omega) e).2
      obtain ⟨n2, rfl⟩ := sn (show 0 < n2 by omega)
      obtain ⟨b1, bh1, at11, kd1, nb1, wd1, ky1, p1, tk1, at21, sp1, nb21, wd21, y1, y2, y3, y4⟩ := sim_step (lim := lim) hK hn hl hO hb (nI a) kd nb wd ky tk (nI a) sp nb2 wd2
      rw [y1, bind_eq]
      dsimp only
      obtain ⟨r1', r2', f1, f2, f3⟩ := fl_and (w := w) hS hP hw hb0
      rw [LS_bh1 _ _ _ _ _ _ _ _ _ _ _ _ _ _ _ _ _ _ _ _ _ _ _ _ _ (by rw [htk]; decide) (bh_and (by omega) hT e f1 f2 y2)]
      have hX := h1 n2 b1 L o (t + 1) bh1 at11 kd1 nb1 wd1 ky1 ta p1 tk1 at21 sp1 nb21 wd21 got st sg va r2' (upd stk t 21) y3 (by omega) (PO_SI hS hP f3)
      rcases hX with ⟨n2', b', bh', at1', kd', nb', wd', ky', ta', p', tk', at2', sp', nb2', wd2', got', L', o', c', po, pa', k', st', sg', va', rd', stk', r1, r2, r3, r4, ⟨rfl, rfl⟩, r6⟩ | ⟨q, f, bh', at1', kd', nb', wd', ky', ta', L', o', st', sg', va', p', tk', at2', sp', nb2', wd2', got', c', o2', t', dp', w', rd', stk', r0, r1, r2⟩
      · have hL := (PO_num (PO_SI hS hP f3) r6).2.1
        have ho' := r6.2.1
        rw [r1, bind_eq, r2]
        dsimp only
        rw [if_neg nn1, add_eq (by omega), bind_eq]
        dsimp only
        rw [if_neg nn1, nI_1, show t + 1 + 0 + 0 + k' = t + 0 + 1 + k' by omega]
        exact ih (i + 1) n1 (by omega) (by omega) n2' b' (L' + 1) o' c' 1 k' bh' at1' kd' nb' wd' ky' ta' p' tk' at2' sp' nb2' wd2' got' (upd st' L' 11) (upd sg' L' 0) (upd va' L' 0) rd' stk' r3 r4 (join_PO hS hP (Or.inr ⟨rfl, rfl, rfl, rfl, rfl⟩) r6 0 0) (by omega)
      · rw [r1, bind_eq, r2]
        dsimp only
        rw [if_pos rfl]
        right
        exact ⟨q, f, _, _, _, _, _, _, _, _, _, _, _, _, _, _, _, _, _, _, _, _, _, _, _, _, _, _, r0, rfl, rfl⟩
    · rw [if_neg e, if_pos rfl]
      left
      exact ⟨n2, b, _, _, kd, nb, wd, ky, ta, _, tk, _, sp, nb2, wd2, got, L, o, c, 0, pa, k, st, sg, va, rd, stk, rfl, rfl, hR, hf, ⟨rfl, e⟩, hP⟩
theorem all_step {n lim : Nat} {B tp : A1} {keys res : Nat → Int64} (hK : RKy keys res) (hn : n ≤ 940) (hl : lim ≤ 940) (hO : OneT B tp) {G D : Nat} {gn dn nm : Nat → Int64} {s : A1} (hN : RN2 G D gn dn s nm) (kk : KS) (th len fa fa2 : Int32) {d w : Nat} (hw : w ≤ 9) (h1 : ONE n lim B tp keys res G gn nm kk th len fa fa2 s d w) : ALL n lim B tp keys res G gn nm kk th len fa fa2 s d w := by
  intro n2 b L o t bh at1 kd nb wd ky ta p tk at2 sp nb2 wd2 got st sg va rd stk hR hf hS hb0
  unfold fbX8_readAll
  have hX := h1 n2 b L o t bh at1 kd nb wd ky ta p tk at2 sp nb2 wd2 got st sg va rd stk hR hf hS
  rcases hX with ⟨n2', b', bh', at1', kd', nb', wd', ky', ta', p', tk', at2', sp', nb2', wd2', got', L', o', c', po, pa', k', st', sg', va', rd', stk', r1, r2, r3, r4, ⟨rfl, rfl⟩, r6⟩ | ⟨q, f, bh', at1', kd', nb', wd', ky', ta', L', o', st', sg', va', p', tk', at2', sp', nb2', wd2', got', c', o2', t', dp', w', rd', stk', r0, r1, r2⟩
  · have ho' := r6.2.1
    rw [r1, bind_eq, r2]
    dsimp only
    rw [if_neg nn1]
    exact all_loop hK hn hl hO hN kk th len fa fa2 hw h1 hS hb0 20 0 5000 (by omega) (by omega) n2' b' L' o' c' 0 k' bh' at1' kd' nb' wd' ky' ta' p' tk' at2' sp' nb2' wd2' got' st' sg' va' rd' stk' r3 r4 r6 (by omega)
  · rw [r1, bind_eq, r2]
    dsimp only
    rw [if_pos rfl]
    right
    exact ⟨q, f, _, _, _, _, _, _, _, _, _, _, _, _, _, _, _, _, _, _, _, _, _, _, _, _, _, _, r0, rfl, rfl⟩
theorem cnd_loop {n lim : Nat} {B tp : A1} {keys res : Nat → Int64} (hK : RKy keys res) (hn : n ≤ 940) (hl : lim ≤ 940) (hO : OneT B tp) {G D : Nat} {gn dn nm : Nat → Int64} {s : A1} (hN : RN2 G D gn dn s nm) (kk : KS) (th len fa fa2 : Int32) {d w : Nat} (hw : w ≤ 9) (h1 : ALL n lim B tp keys res G gn nm kk th len fa fa2 s d w) {L0 o0 t : Nat} {st0 sg0 va0 rd0 stk0 : A1} (hS : SI0 G L0 o0 t st0 sg0 va0 rd0) (hb0 : t = 0 ∨ stk0 (t - 1) = 23) : ∀ (m i n1 : Nat), i + m = 20 → m < n1 → ∀ (n2 b L o c po pa k : Nat) (bh at1 kd nb : Int32) (wd : Int64) (ky ta p tk at2 sp nb2 : Int32) (wd2 : Int64) (got : Int32) (st sg va rd stk : A1), RTok n b bh at1 kd nb wd ky p tk at2 nb2 wd2 → 1000 ≤ phi b kd + n2 → POs G L0 o0 t po pa k L o c st0 sg0 va0 st sg va rd stk0 stk → o0 + 1 + i ≤ o → ¬ ky = 11 →
    Res n lim G tp nm res kk th len fa fa2 s L0 o0 t w st0 sg0 va0 stk0 Q3 (lX8_readCond_12 940 (nI lim) (nI n) B keys (nI G) gn (fbX8_readAll 940 (nI lim) (nI n) B keys (nI G) gn (fX8_readOne 940 (nI lim) (nI n) B keys (nI G) gn d)) n1 bh at1 kd nb wd ky ta 0 fa (nI L) (nI o) st sg va (nI w) (nI i)) (lX12_sentence_48 tp nm res kk n2 th len (nI n) p (nI lim) tk at2 sp nb2 0 fa2 wd2 got (nI c) (nI o) (nI (t + po + pa + k)) (nI (w + k)) 1 s rd stk 1) := by
  intro m
  induction m with
  | zero =>
    intro i n1 hi hn1 n2 b L o c po pa k bh at1 kd nb wd ky ta p tk at2 sp nb2 wd2 got st sg va rd stk hR hf hP hoi h11
    have := hP.2.1
    omega
  | succ m ih =>
    intro i n1 hi hn1 n2 b L o c po pa k bh at1 kd nb wd ky ta p tk at2 sp nb2 wd2 got st sg va rd stk hR hf hP hoi h11
    obtain ⟨n1, rfl⟩ := sn hn1
    obtain ⟨hb, rfl, rfl, ⟨a, ha, rfl, rfl⟩, hT⟩ := id hR
    have hph := phi_le (kd := kd) hn hb
    obtain ⟨m1, m2, m3, m4⟩ := PO_num hS hP
    rw [lX8_readCond_12, if_neg (show ¬ (20 : Int32) ≤ nI i from nI_ge (b := 20) (by omega) (by omega)), key_is hT (k := 10) (by omega) (c := 10) rfl, bind_eq]
    by_cases e : ky = 10
    · rw [if_pos e, if_neg nn1]
      have hp : phi b kd = b := phi_97 (key_word hT (k := 10) (by omega) e).1
      have htk := (key_word hT (k := 10) (by omega) e).2
      obtain ⟨n2, rfl⟩ := sn (show 0 < n2 by omega)
      obtain ⟨b1, bh1, at11, kd1, nb1, wd1, ky1, p1, tk1, at21, sp1, nb21, wd21, y1, y2, y3, y4⟩ := sim_step (lim := lim) hK hn hl hO hb (nI a) kd nb wd ky tk (nI a) sp nb2 wd2
      rw [y1, bind_eq]
      dsimp only
      obtain ⟨r1', r2', f1, f2, f3⟩ := fl_or (w := w) hS hP hw hb0
      rw [LS_bh1 _ _ _ _ _ _ _ _ _ _ _ _ _ _ _ _ _ _ _ _ _ _ _ _ _ (by rw [htk]; decide) (bh_or (by omega) hT e f1 f2 y2)]
      have h22 : upd stk t 22 (t + 1 - 1) = 22 := by
        rw [show t + 1 - 1 = t by omega]
        exact pk_us
      have hX := h1 n2 b1 L o (t + 1) bh1 at11 kd1 nb1 wd1 ky1 ta p1 tk1 at21 sp1 nb21 wd21 got st sg va r2' (upd stk t 22) y3 (by omega) (PO_SI hS hP f3) (Or.inr (Or.inl h22))
      rcases hX with ⟨n2', b', bh', at1', kd', nb', wd', ky', ta', p', tk', at2', sp', nb2', wd2', got', L', o', c', po', pa', k', st', sg', va', rd', stk', r1, r2, r3, r4, ⟨rfl, h11'⟩, r6⟩ | ⟨q, f, bh', at1', kd', nb', wd', ky', ta', L', o', st', sg', va', p', tk', at2', sp', nb2', wd2', got', c', o2', t', dp', w', rd', stk', r0, r1, r2⟩
      · have hL := (PO_num (PO_SI hS hP f3) r6).2.1
        have ho' := r6.2.1
        rw [r1, bind_eq, r2]
        dsimp only
        rw [if_neg nn1, add_eq (by omega), bind_eq]
        dsimp only
        rw [if_neg nn1, nI_1, show t + 1 + 0 + pa' + k' = t + 1 + pa' + k' by omega]
        exact ih (i + 1) n1 (by omega) (by omega) n2' b' (L' + 1) o' c' 1 pa' k' bh' at1' kd' nb' wd' ky' ta' p' tk' at2' sp' nb2' wd2' got' (upd st' L' 10) (upd sg' L' 0) (upd va' L' 0) rd' stk' r3 r4 (join_PO hS hP (Or.inl ⟨rfl, rfl, rfl, rfl⟩) r6 0 0) (by omega) h11'
      · rw [r1, bind_eq, r2]
        dsimp only
        rw [if_pos rfl]
        right
        exact ⟨q, f, _, _, _, _, _, _, _, _, _, _, _, _, _, _, _, _, _, _, _, _, _, _, _, _, _, _, r0, rfl, rfl⟩
    · rw [if_neg e, if_pos rfl]
      left
      exact ⟨n2, b, _, _, kd, nb, wd, ky, ta, _, tk, _, sp, nb2, wd2, got, L, o, c, po, pa, k, st, sg, va, rd, stk, rfl, rfl, hR, hf, ⟨h11, e⟩, hP⟩
theorem cnd_step {n lim : Nat} {B tp : A1} {keys res : Nat → Int64} (hK : RKy keys res) (hn : n ≤ 940) (hl : lim ≤ 940) (hO : OneT B tp) {G D : Nat} {gn dn nm : Nat → Int64} {s : A1} (hN : RN2 G D gn dn s nm) (kk : KS) (th len fa fa2 : Int32) {d w : Nat} (hw : w ≤ 9) (h1 : ALL n lim B tp keys res G gn nm kk th len fa fa2 s d w) : CND n lim B tp keys res G gn nm kk th len fa fa2 s d w := by
  intro n2 b L o t bh at1 kd nb wd ky ta p tk at2 sp nb2 wd2 got st sg va rd stk hR hf hS hb0
  unfold fbX8_readCond
  have hX := h1 n2 b L o t bh at1 kd nb wd ky ta p tk at2 sp nb2 wd2 got st sg va rd stk hR hf hS (hb0.imp id Or.inr)
  rcases hX with ⟨n2', b', bh', at1', kd', nb', wd', ky', ta', p', tk', at2', sp', nb2', wd2', got', L', o', c', po, pa', k', st', sg', va', rd', stk', r1, r2, r3, r4, ⟨rfl, h11⟩, r6⟩ | ⟨q, f, bh', at1', kd', nb', wd', ky', ta', L', o', st', sg', va', p', tk', at2', sp', nb2', wd2', got', c', o2', t', dp', w', rd', stk', r0, r1, r2⟩
  · have ho' := r6.2.1
    rw [r1, bind_eq, r2]
    dsimp only
    rw [if_neg nn1]
    exact cnd_loop hK hn hl hO hN kk th len fa fa2 hw h1 hS hb0 20 0 5000 (by omega) (by omega) n2' b' L' o' c' 0 pa' k' bh' at1' kd' nb' wd' ky' ta' p' tk' at2' sp' nb2' wd2' got' st' sg' va' rd' stk' r3 r4 r6 (by omega) h11
  · rw [r1, bind_eq, r2]
    dsimp only
    rw [if_pos rfl]
    right
    exact ⟨q, f, _, _, _, _, _, _, _, _, _, _, _, _, _, _, _, _, _, _, _, _, _, _, _, _, _, _, r0, rfl, rfl⟩
theorem sent_all {n lim : Nat} {B tp : A1} {keys res : Nat → Int64} (hK : RKy keys res) (hn : n ≤ 940) (hl : lim ≤ 940) (hO : OneT B tp) {G D : Nat} {gn dn nm : Nat → Int64} {s : A1} (hN : RN2 G D gn dn s nm) (kk : KS) (th len fa fa2 : Int32) : ∀ (d w : Nat), 10 ≤ w + d → w ≤ 9 → ONE n lim B tp keys res G gn nm kk th len fa fa2 s d w ∧ CND n lim B tp keys res G gn nm kk th len fa fa2 s d w := by
  intro d
  induction d with
  | zero =>
    intro w h1 h2
    omega
  | succ d ih =>
    intro w h1 h2
    have hone : ONE n lim B tp keys res G gn nm kk th len fa fa2 s (d + 1) w := one_step hK hn hl hO hN kk th len fa fa2 h2 (fun h => (ih (w + 1) (by omega) (by omega)).2) (fun h => (ih (w + 1) (by omega) (by omega)).1)
    exact ⟨hone, cnd_step hK hn hl hO hN kk th len fa fa2 h2 (all_step hK hn hl hO hN kk th len fa fa2 h2 hone)⟩
