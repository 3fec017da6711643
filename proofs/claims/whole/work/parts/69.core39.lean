/-! ===== pure: a SENTENCE: the reference's loop, one operand ===== -/
section
variable (tp : A1) (nm res : Nat → Int64) (kk : KS) (n : Nat) (th len sz p lim tk at_ sp nb ft fa : Int32) (wd : Int64) (got c o t dp : Int32) (s rd stk : A1) {p' tk' at' sp' nb' ft' fa' : Int32} {wd' : Int64} {got' c' o' t' dp' w' : Int32} {rd' stk' : A1}
theorem LS_op1 (h : fX12_operand sz lim tp s nm res p tk at_ sp nb ft fa wd got c o t dp 0 rd stk = some (1, p', tk', at', sp', nb', ft', fa', wd', got', c', o', t', dp', w', rd', stk')) : lX12_sentence_48 tp nm res kk (n + 1) th len sz p lim tk at_ sp nb ft fa wd got c o t dp 0 s rd stk 1 = lX12_sentence_48 tp nm res kk n th len sz p' lim tk' at' sp' nb' ft' fa' wd' got' c' o' t' dp' w' s rd' stk' 1 := by
  rw [lX12_sentence_48, if_neg nn1, if_pos rfl]
  unfold bX12_sentence_101
  rw [if_pos rfl, h, bind_eq]
  dsimp only
  rw [if_neg nn1]
theorem LS_op0 (h : fX12_operand sz lim tp s nm res p tk at_ sp nb ft fa wd got c o t dp 0 rd stk = some (0, p', tk', at', sp', nb', ft', fa', wd', got', c', o', t', dp', w', rd', stk')) : lX12_sentence_48 tp nm res kk (n + 1) th len sz p lim tk at_ sp nb ft fa wd got c o t dp 0 s rd stk 1 = some (-1 - fa', th, len, sz, p', lim, tk', at', sp', nb', ft', fa', wd', got', c', o', t', dp', w', s, rd', stk') := by
  rw [lX12_sentence_48, if_neg nn1, if_pos rfl]
  unfold bX12_sentence_101
  rw [if_pos rfl, h, bind_eq]
  dsimp only
  rw [if_pos rfl]
theorem LS_bh1 (h0 : ¬ tk = 0) (h : fX12_behind sz lim tp p tk at_ sp nb ft fa wd c t dp 1 rd stk = some (1, p', tk', at', sp', nb', ft', fa', wd', c', t', dp', w', rd', stk')) : lX12_sentence_48 tp nm res kk (n + 1) th len sz p lim tk at_ sp nb ft fa wd got c o t dp 1 s rd stk 1 = lX12_sentence_48 tp nm res kk n th len sz p' lim tk' at' sp' nb' ft' fa' wd' got c' o t' dp' w' s rd' stk' 1 := by
  rw [lX12_sentence_48, if_neg nn1, if_neg nn1, if_neg h0]
  unfold bX12_sentence_101
  rw [if_neg nn1, h, bind_eq]
  dsimp only
  rw [if_neg nn1]
theorem LS_bh0 (h0 : ¬ tk = 0) (h : fX12_behind sz lim tp p tk at_ sp nb ft fa wd c t dp 1 rd stk = some (0, p', tk', at', sp', nb', ft', fa', wd', c', t', dp', w', rd', stk')) : lX12_sentence_48 tp nm res kk (n + 1) th len sz p lim tk at_ sp nb ft fa wd got c o t dp 1 s rd stk 1 = some (-1 - fa', th, len, sz, p', lim, tk', at', sp', nb', ft', fa', wd', got, c', o, t', dp', w', s, rd', stk') := by
  rw [lX12_sentence_48, if_neg nn1, if_neg nn1, if_neg h0]
  unfold bX12_sentence_101
  rw [if_neg nn1, h, bind_eq]
  dsimp only
  rw [if_pos rfl]
theorem LS_end (h0 : tk = 0) {c1 t1 d1 c2 t2 : Int32} {r1 r2 : A1} (h1 : fX12_nots stk c t dp rd = some (c1, t1, d1, r1)) (h2 : fX12_joins stk c1 t1 r1 22 = some (c2, t2, r2)) (h3 : ¬ t2 ≤ 0) : lX12_sentence_48 tp nm res kk (n + 1) th len sz p lim tk at_ sp nb ft fa wd got c o t dp 1 s rd stk 1 = some (-1 - at_, th, len, sz, p, lim, tk, at_, sp, nb, 1, at_, wd, got, c2, o, t2, d1, 1, s, r2, stk) := by
  rw [lX12_sentence_48, if_neg nn1, if_neg nn1, if_pos h0, h1, bind_eq]
  dsimp only
  rw [h2, bind_eq]
  dsimp only
  rw [if_neg h3]
  rfl
theorem LS_fin (h0 : tk = 0) {c1 t1 d1 c2 t2 : Int32} {r1 r2 : A1} (h1 : fX12_nots stk c t dp rd = some (c1, t1, d1, r1)) (h2 : fX12_joins stk c1 t1 r1 22 = some (c2, t2, r2)) (h3 : t2 ≤ 0) : lX12_sentence_48 tp nm res kk (n + 2) th len sz p lim tk at_ sp nb ft fa wd got c o t dp 1 s rd stk 1 = kk th len sz p lim tk at_ sp nb ft fa wd got c2 o t2 d1 1 (upd s 92 c2) r2 stk 0 := by
  rw [lX12_sentence_48, if_neg nn1, if_neg nn1, if_pos h0, h1, bind_eq]
  dsimp only
  rw [h2, bind_eq]
  dsimp only
  rw [if_pos h3, lX12_sentence_48, if_pos rfl, nmv_eq]
end
/-- which plain one a word begins -/
def lfK (ky : Int32) : Int32 := if ky = 13 then 0 else if ky = 14 then 1 else if ky = 15 then 2 else if ky = 16 then 3 else if ky = 17 then 4 else if ky = 18 then 5 else if ky = 19 then 6 else if ky = 20 then 7 else if ky = 21 then 8 else -1
theorem wrd {kd nb : Int32} {wd : Int64} {ky tk nb2 : Int32} {wd2 : Int64} (hT : TokK kd nb wd ky tk nb2 wd2) {k : Nat} (hk : k < 22) {x : Int64} (hx : x = w8 (kw k)) {c : Int32} (hc : nI k = c) : fX12_isWord tk wd2 x = some (if ky = c then 1 else 0) := by
  subst hx
  subst hc
  exact sim_word hT hk
theorem leaf_eq {kd nb : Int32} {wd : Int64} {ky tk nb2 : Int32} {wd2 : Int64} (hT : TokK kd nb wd ky tk nb2 wd2) : fX12_leafOf tk wd2 = some (lfK ky) := by
  unfold fX12_leafOf lfK
  rw [wrd hT (k := 13) (by omega) kW13 (c := 13) rfl, wrd hT (k := 14) (by omega) kW14 (c := 14) rfl, wrd hT (k := 15) (by omega) kW15 (c := 15) rfl, wrd hT (k := 16) (by omega) kW16 (c := 16) rfl, wrd hT (k := 17) (by omega) kW17 (c := 17) rfl, wrd hT (k := 18) (by omega) kW18 (c := 18) rfl, wrd hT (k := 19) (by omega) kW19 (c := 19) rfl, wrd hT (k := 20) (by omega) kW20 (c := 20) rfl, wrd hT (k := 21) (by omega) kW21 (c := 21) rfl]
  by_cases h13 : ky = 13
  · rw [if_pos h13, if_pos h13, bind_eq, if_neg nn1]
  rw [if_neg h13, if_neg h13, bind_eq, if_pos rfl]
  by_cases h14 : ky = 14
  · rw [if_pos h14, if_pos h14, bind_eq, if_neg nn1]
  rw [if_neg h14, if_neg h14, bind_eq, if_pos rfl]
  by_cases h15 : ky = 15
  · rw [if_pos h15, if_pos h15, bind_eq, if_neg nn1]
  rw [if_neg h15, if_neg h15, bind_eq, if_pos rfl]
  by_cases h16 : ky = 16
  · rw [if_pos h16, if_pos h16, bind_eq, if_neg nn1]
  rw [if_neg h16, if_neg h16, bind_eq, if_pos rfl]
  by_cases h17 : ky = 17
  · rw [if_pos h17, if_pos h17, bind_eq, if_neg nn1]
  rw [if_neg h17, if_neg h17, bind_eq, if_pos rfl]
  by_cases h18 : ky = 18
  · rw [if_pos h18, if_pos h18, bind_eq, if_neg nn1]
  rw [if_neg h18, if_neg h18, bind_eq, if_pos rfl]
  by_cases h19 : ky = 19
  · rw [if_pos h19, if_pos h19, bind_eq, if_neg nn1]
  rw [if_neg h19, if_neg h19, bind_eq, if_pos rfl]
  by_cases h20 : ky = 20
  · rw [if_pos h20, if_pos h20, bind_eq, if_neg nn1]
  rw [if_neg h20, if_neg h20, bind_eq, if_pos rfl]
  by_cases h21 : ky = 21
  · rw [if_pos h21, if_pos h21, bind_eq, if_neg nn1]
  rw [if_neg h21, if_neg h21, bind_eq, if_pos rfl]
theorem lfK_no {ky : Int32} (h : ∀ k, 13 ≤ k → k ≤ 21 → ¬ ky = nI k) : lfK ky = -1 := by
  unfold lfK
  rw [if_neg (show ¬ ky = 13 from h 13 (by omega) (by omega)), if_neg (show ¬ ky = 14 from h 14 (by omega) (by omega)), if_neg (show ¬ ky = 15 from h 15 (by omega) (by omega)), if_neg (show ¬ ky = 16 from h 16 (by omega) (by omega)), if_neg (show ¬ ky = 17 from h 17 (by omega) (by omega)), if_neg (show ¬ ky = 18 from h 18 (by omega) (by omega)), if_neg (show ¬ ky = 19 from h 19 (by omega) (by omega)), if_neg (show ¬ ky = 20 from h 20 (by omega) (by omega)), if_neg (show ¬ ky = 21 from h 21 (by omega) (by omega))]
theorem lfK_j {j : Nat} (hj : j < 9) : lfK (nI (13 + j)) = nI j := by
  have : ∀ j : Fin 9, lfK (nI (13 + j.val)) = nI j.val := by decide +kernel
  exact this ⟨j, hj⟩
/-- neither 'not' nor a bracket nor a plain one -/
theorem op_none {kd nb : Int32} {wd : Int64} {ky tk nb2 : Int32} {wd2 : Int64} (hT : TokK kd nb wd ky tk nb2 wd2) (h : ∀ k, 12 ≤ k → k ≤ 21 → ¬ ky = nI k) (h40 : ¬ (tk = 3 ∧ nb2 = 40)) (sz lim : Int32) (tp s : A1) (nm res : Nat → Int64) (p at_ sp ft fa got c o t dp w : Int32) (rd stk : A1) :
    fX12_operand sz lim tp s nm res p tk at_ sp nb2 ft fa wd2 got c o t dp w rd stk = some (0, p, tk, at_, sp, nb2, 1, at_, wd2, got, c, o, t, dp, w, rd, stk) := by
  unfold fX12_operand
  rw [wrd hT (k := 12) (by omega) kW12 (c := 12) rfl, if_neg (show ¬ ky = 12 from h 12 (by omega) (by omega)), bind_eq, isSign_no h40, bind_eq, leaf_eq hT, bind_eq, lfK_no (fun k h1 h2 => h k (by omega) h2), if_pos rfl, if_pos rfl, if_neg (by decide)]
  rfl
theorem op_not {kd nb : Int32} {wd : Int64} {ky tk nb2 : Int32} {wd2 : Int64} (hT : TokK kd nb wd ky tk nb2 wd2) (h : ky = 12) (sz lim : Int32) (tp s : A1) (nm res : Nat → Int64) (p at_ sp ft fa got c o t dp w : Int32) (rd stk : A1) :
    fX12_operand sz lim tp s nm res p tk at_ sp nb2 ft fa wd2 got c o t dp w rd stk = bX12_operand_38 sz lim tp s nm res p tk at_ sp nb2 ft fa wd2 got c o t dp w rd stk 1 0 (-1) := by
  have h1 : ¬ (tk = 3 ∧ nb2 = 40) := fun e => by
    rw [(key_word hT (k := 12) (by omega) h).2] at e
    exact absurd e.1 (by decide)
  unfold fX12_operand
  rw [wrd hT (k := 12) (by omega) kW12 (c := 12) rfl, if_pos h, bind_eq, isSign_no h1, bind_eq, leaf_eq hT, bind_eq, h, if_neg nn1]
  rfl
theorem op_brk {kd nb : Int32} {wd : Int64} {ky tk nb2 : Int32} {wd2 : Int64} (hT : TokK kd nb wd ky tk nb2 wd2) (h : ky = -1) (h40 : tk = 3 ∧ nb2 = 40) (sz lim : Int32) (tp s : A1) (nm res : Nat → Int64) (p at_ sp ft fa got c o t dp w : Int32) (rd stk : A1) :
    fX12_operand sz lim tp s nm res p tk at_ sp nb2 ft fa wd2 got c o t dp w rd stk = bX12_operand_38 sz lim tp s nm res p tk at_ sp nb2 ft fa wd2 got c o t dp w rd stk 0 1 (-1) := by
  unfold fX12_operand
  rw [wrd hT (k := 12) (by omega) kW12 (c := 12) rfl, if_neg (by rw [h]; decide), bind_eq, isSign_yes h40.1 h40.2, bind_eq, leaf_eq hT, bind_eq, h, if_pos rfl, if_neg nn1]
  rfl
theorem op_leaf {kd nb : Int32} {wd : Int64} {ky tk nb2 : Int32} {wd2 : Int64} (hT : TokK kd nb wd ky tk nb2 wd2) {j : Nat} (hj : j < 9) (h : ky = nI (13 + j)) (sz lim : Int32) (tp s : A1) (nm res : Nat → Int64) (p at_ sp ft fa got c o t dp w : Int32) (rd stk : A1) :
    fX12_operand sz lim tp s nm res p tk at_ sp nb2 ft fa wd2 got c o t dp w rd stk = bX12_operand_38 sz lim tp s nm res p tk at_ sp nb2 ft fa wd2 got c o t dp w rd stk 0 0 (nI j) := by
  have h1 : ¬ (tk = 3 ∧ nb2 = 40) := fun e => by
    rw [(key_word hT (k := 13 + j) (by omega) h).2] at e
    exact absurd e.1 (by decide)
  have h12 : ¬ ky = 12 := fun e => absurd ((nI_eq (a := 13 + j) (b := 12) (by omega) (by omega)).mp (h.symm.trans e)) (by omega)
  unfold fX12_operand
  rw [wrd hT (k := 12) (by omega) kW12 (c := 12) rfl, if_neg h12, bind_eq, isSign_no h1, bind_eq, leaf_eq hT, bind_eq, h, lfK_j hj, if_pos rfl, if_pos rfl, if_pos (show (0 : Int32) ≤ nI j from nI_le (a := 0) (by omega) (by omega))]
theorem n20 {o : Nat} (h : o < 20) : ¬ nI o = 20 := fun e => absurd ((nI_eq (b := 20) (by omega) (by omega)).mp e) (by omega)
/-- too many, or too deep -/
theorem op38_4 (sz lim : Int32) (tp s : A1) (nm res : Nat → Int64) (p tk at_ sp nb2 ft fa : Int32) (wd2 : Int64) (got c t w x y z : Int32) (rd stk : A1) {o dp : Nat} (ho : o ≤ 20) (hd : dp ≤ 9) (h : o = 20 ∨ dp = 9) :
    bX12_operand_38 sz lim tp s nm res p tk at_ sp nb2 ft fa wd2 got c (nI o) t (nI dp) w rd stk x y z = some (0, p, tk, at_, sp, nb2, 4, at_, wd2, got, c, nI o, t, nI dp, w, rd, stk) := by
  unfold bX12_operand_38
  by_cases h20 : o = 20
  · rw [if_pos (show nI o = 20 by rw [h20]; rfl)]
    rfl
  · have e9 : dp = 9 := h.resolve_left h20
    rw [if_neg (show ¬ nI o = 20 from fun e => h20 ((nI_eq (b := 20) (by omega) (by omega)).mp e)), if_neg (show ¬ nI dp ≤ 8 by rw [e9]; decide)]
    rfl
/-- the reference pushes 'not' or a bracket -/
theorem op38_push (sz lim : Int32) (tp s : A1) (nm res : Nat → Int64) (p tk at_ sp nb2 ft fa : Int32) (wd2 : Int64) (got c w z : Int32) (rd stk : A1) {o dp t : Nat} (ho : o < 20) (hd : dp ≤ 8) (ht : t < 45) {p' tk' at' sp' nb' : Int32} {wd' : Int64} (hs : fX12_step sz lim tp p tk at_ sp nb2 wd2 = some (p', tk', at', sp', nb', wd')) {x y q : Int32} (h : (x = 1 ∧ y = 0 ∧ q = 20) ∨ (x = 0 ∧ y = 1 ∧ q = 23)) :
    bX12_operand_38 sz lim tp s nm res p tk at_ sp nb2 ft fa wd2 got c (nI o) (nI t) (nI dp) w rd stk x y z = some (1, p', tk', at', sp', nb', ft, fa, wd', got, c, nI (o + 1), nI (t + 1), nI (dp + 1), w, rd, upd stk t q) := by
  unfold bX12_operand_38
  rw [if_neg (n20 ho), if_pos (show nI dp ≤ 8 from nI_le (b := 8) hd (by omega)), hs, bind_eq]
  dsimp only
  unfold bX12_operand_84 bX12_operand_103
  rcases h with ⟨rfl, rfl, rfl⟩ | ⟨rfl, rfl, rfl⟩
  · rw [if_neg nn1, if_neg nn1, gI_ok ht (by omega), nmv_eq, ix0 (by omega), nI_1, nI_1, nI_1]
  · rw [if_pos rfl, if_neg nn1, if_pos rfl, gI_ok ht (by omega), nmv_eq, ix0 (by omega), nI_1, nI_1, nI_1]
/-- 'refuse' where no fault was told -/
theorem refuse0 (at_ fa x : Int32) : fX6_refuse at_ 0 fa x = some (0, x, at_) := by
  unfold fX6_refuse
  rw [if_pos rfl]
section
variable {n lim : Nat} {B : A1} {keys : Nat → Int64} {G : Nat} {gn : Nat → Int64}
theorem cl51_4 {gC gO : Int32 → Int32 → Int32 → Int32 → Int64 → Int32 → Int32 → Int32 → Int32 → Int32 → Int32 → A1 → A1 → A1 → Int32 → Option OC} (bh at1 kd nb : Int32) (wd : Int64) (ky ta fa L : Int32) (st sg va : A1) (x3 : Int32) {o w : Nat} (x2 : Int32) (ho : o ≤ 20) (hw : w ≤ 9) (h : o = 20 ∨ w = 9) :
    bX8_readOne_51 940 (nI lim) (nI n) B keys (nI G) gn gC gO bh at1 kd nb wd ky ta 0 fa L (nI o) st sg va (nI w) x2 x3 = some (0, bh, at1, kd, nb, wd, ky, ta, 4, at1, L, nI o, st, sg, va) := by
  unfold bX8_readOne_51
  by_cases h20 : o = 20
  · rw [if_pos (show (20 : Int32) ≤ nI o by rw [h20]; decide), refuse0, bind_eq]
  · have e9 : w = 9 := h.resolve_left h20
    rw [if_neg (show ¬ (20 : Int32) ≤ nI o from nI_ge (b := 20) (by omega) (by omega)), if_neg (show ¬ nI w ≤ 8 by rw [e9]; decide), refuse0, bind_eq]
/-- the sign that the class asks for -/
def sgn (kd : Int32) : Int32 := if kd = 60 then kd else if kd = 62 then kd else 61
theorem cl51_key {gC gO : Int32 → Int32 → Int32 → Int32 → Int64 → Int32 → Int32 → Int32 → Int32 → Int32 → Int32 → A1 → A1 → A1 → Int32 → Option OC} (bh at1 kd nb : Int32) (wd : Int64) (ky ta ft fa L : Int32) (st sg va : A1) (x3 : Int32) {o w : Nat} (ho : o < 20) (hw : w ≤ 8) {bh' at' kd' nb' : Int32} {wd' : Int64} {ky' : Int32} (hs : fX6_step 940 (nI lim) (nI n) B keys bh at1 kd nb wd ky = some (bh', at', kd', nb', wd', ky')) :
    bX8_readOne_51 940 (nI lim) (nI n) B keys (nI G) gn gC gO bh at1 kd nb wd ky ta ft fa L (nI o) st sg va (nI w) 0 x3 = bX8_readOne_166 940 (nI lim) (nI n) B keys (nI G) gn gC gO bh' at' kd' nb' wd' ky' ta ft fa L (nI (o + 1)) st sg va (nI w) x3 (sgn kd') := by
  unfold bX8_readOne_51 sgn
  rw [if_neg (show ¬ (20 : Int32) ≤ nI o from nI_ge (b := 20) (by omega) (by omega)), if_pos (show nI w ≤ 8 from nI_le (b := 8) hw (by omega)), nmv_eq, hs, bind_eq, nI_1]
  dsimp only
  rw [if_pos rfl]
  by_cases h60 : kd' = 60
  · rw [if_pos h60, if_pos h60]
  · rw [if_neg h60, if_neg h60]
    by_cases h62 : kd' = 62
    · rw [if_pos h62, if_pos h62]
    · rw [if_neg h62, if_neg h62]
end
theorem nlt9 {w : Nat} (h : w ≤ 8) : nI w ≤ 8 := nI_le (b := 8) h (by omega)

theorem one_leaf0 {n lim : Nat} {B tp : A1} {keys res : Nat → Int64} (hK : RKy keys res) (hn : n ≤ 940) (hl : lim ≤ 940) (hO : OneT B tp) {G D : Nat} {gn dn nm : Nat → Int64} {s : A1} (hN : RN2 G D gn dn s nm) (kk : KS) (th len fa fa2 : Int32) {gC gO : Int32 → Int32 → Int32 → Int32 → Int64 → Int32 → Int32 → Int32 → Int32 → Int32 → Int32 → A1 → A1 → A1 → Int32 → Option OC} {w : Nat} (hw : w ≤ 8) {n2 b L o t : Nat} {bh at1 kd nb : Int32} {wd : Int64} {ky : Int32} (ta : Int32) {p tk at2 : Int32} (sp : Int32) {nb2 : Int32} {wd2 : Int64} (got : Int32) {st sg va rd : A1} (stk : A1) (hR : RTok n b bh at1 kd nb wd ky p tk at2 nb2 wd2) (hf : 1000 ≤ phi b kd + n2) (hS : SI0 G L o t st sg va rd) (ho : o < 20) (hky : ky = nI (13 + 0)) :
    Res n lim G tp nm res kk th len fa fa2 s L o t w st sg va stk Q1 (bX8_readOne_51 940 (nI lim) (nI n) B keys (nI G) gn gC gO bh at1 kd nb wd ky ta 0 fa (nI L) (nI o) st sg va (nI w) 0 ky) (lX12_sentence_48 tp nm res kk n2 th len (nI n) p (nI lim) tk at2 sp nb2 0 fa2 wd2 got (nI L) (nI o) (nI t) (nI w) 0 s rd stk 1) := by
  obtain ⟨hb, rfl, rfl, ⟨a, ha, rfl, rfl⟩, hT⟩ := hR
  have hp : phi b kd = b := phi_97 (key_word hT (k := 13 + 0) (by omega) hky).1
  have hL : L < 40 := by have := hS.1; omega
  subst hky
  obtain ⟨m, rfl⟩ := sn (show 0 < n2 by omega)
  obtain ⟨b1, bh1, at11, kd1, nb1, wd1, ky1, p1, tk1, at21, sp1, nb21, wd21, y1, y2, y3, y4⟩ := sim_step (lim := lim) hK hn hl hO hb (nI a) kd nb wd (nI (13 + 0)) tk (nI a) sp nb2 wd2
  have hc := cl51_key (G := G) (gn := gn) (gC := gC) (gO := gO) (nI b) (nI a) kd nb wd (nI (13 + 0)) ta 0 fa (nI L) st sg va (nI (13 + 0)) ho hw y1
  have ho1 := op_leaf hT (j := 0) (by omega) rfl (nI n) (nI lim) tp s nm res (nI b) (nI a) sp 0 fa2 got (nI L) (nI o) (nI t) (nI w) 0 rd stk
  unfold bX12_operand_38 at ho1
  rw [if_neg (n20 ho), if_pos (nlt9 hw), y2, bind_eq] at ho1
  dsimp only at ho1
  rw [if_pos rfl, if_pos rfl] at ho1
  unfold bX8_readOne_166 at hc
  rw [if_neg (by decide), if_pos (show nI (13 + 0) = 13 from rfl), add_eq hL, bind_eq] at hc
  dsimp only at hc
  rw [if_neg (show ¬ (3 : Int32) ≤ nI 0 by decide), code_eq (by omega), bind_eq, nI_1] at ho1
  dsimp only at ho1
  left
  refine ⟨m, b1, bh1, at11, kd1, nb1, wd1, ky1, ta, p1, tk1, at21, sp1, nb21, wd21, got, L + 1, o + 1, L + 1, 0, 0, 0, upd st L (nI (13 + 0)), upd sg L 0, upd va L 0, upd (upd (upd rd (3 * L) (nI 0)) (3 * L + 1) 0) (3 * L + 2) 0, stk, hc, LS_op1 _ _ _ _ _ _ _ _ _ _ _ _ _ _ _ _ _ _ _ _ _ _ _ _ _ ho1, y3, by omega, ⟨rfl, rfl⟩, leaf_PO (j := 0) hS ho (by omega) (Or.inr (Or.inr (Or.inr (Or.inl ⟨0, by omega, rfl, rfl⟩))))⟩
theorem one_leaf1 {n lim : Nat} {B tp : A1} {keys res : Nat → Int64} (hK : RKy keys res) (hn : n ≤ 940) (hl : lim ≤ 940) (hO : OneT B tp) {G D : Nat} {gn dn nm : Nat → Int64} {s : A1} (hN : RN2 G D gn dn s nm) (kk : KS) (th len fa fa2 : Int32) {gC gO : Int32 → Int32 → Int32 → Int32 → Int64 → Int32 → Int32 → Int32 → Int32 → Int32 → Int32 → A1 → A1 → A1 → Int32 → Option OC} {w : Nat} (hw : w ≤ 8) {n2 b L o t : Nat} {bh at1 kd nb : Int32} {wd : Int64} {ky : Int32} (ta : Int32) {p tk at2 : Int32} (sp : Int32) {nb2 : Int32} {wd2 : Int64} (got : Int32) {st sg va rd : A1} (stk : A1) (hR : RTok n b bh at1 kd nb wd ky p tk at2 nb2 wd2) (hf : 1000 ≤ phi b kd + n2) (hS : SI0 G L o t st sg va rd) (ho : o < 20) (hky : ky = nI (13 + 1)) :
    Res n lim G tp nm res kk th len fa fa2 s L o t w st sg va stk Q1 (bX8_readOne_51 940 (nI lim) (nI n) B keys (nI G) gn gC gO bh at1 kd nb wd ky ta 0 fa (nI L) (nI o) st sg va (nI w) 0 ky) (lX12_sentence_48 tp nm res kk n2 th len (nI n) p (nI lim) tk at2 sp nb2 0 fa2 wd2 got (nI L) (nI o) (nI t) (nI w) 0 s rd stk 1) := by
  obtain ⟨hb, rfl, rfl, ⟨a, ha, rfl, rfl⟩, hT⟩ := hR
  have hp : phi b kd = b := phi_97 (key_word hT (k := 13 + 1) (by omega) hky).1
  have hL : L < 40 := by have := hS.1; omega
  subst hky
  obtain ⟨m, rfl⟩ := sn (show 0 < n2 by omega)
  obtain ⟨b1, bh1, at11, kd1, nb1, wd1, ky1, p1, tk1, at21, sp1, nb21, wd21, y1, y2, y3, y4⟩ := sim_step (lim := lim) hK hn hl hO hb (nI a) kd nb wd (nI (13 + 1)) tk (nI a) sp nb2 wd2
  have hc := cl51_key (G := G) (gn := gn) (gC := gC) (gO := gO) (nI b) (nI a) kd nb wd (nI (13 + 1)) ta 0 fa (nI L) st sg va (nI (13 + 1)) ho hw y1
  have ho1 := op_leaf hT (j := 1) (by omega) rfl (nI n) (nI lim) tp s nm res (nI b) (nI a) sp 0 fa2 got (nI L) (nI o) (nI t) (nI w) 0 rd stk
  unfold bX12_operand_38 at ho1
  rw [if_neg (n20 ho), if_pos (nlt9 hw), y2, bind_eq] at ho1
  dsimp only at ho1
  rw [if_pos rfl, if_pos rfl] at ho1
  unfold bX8_readOne_166 at hc
  rw [if_neg (by decide), if_neg (by decide), if_pos (show nI (13 + 1) = 14 from rfl), add_eq hL, bind_eq] at hc
  dsimp only at hc
  rw [if_neg (show ¬ (3 : Int32) ≤ nI 1 by decide), code_eq (by omega), bind_eq, nI_1] at ho1
  dsimp only at ho1
  left
  refine ⟨m, b1, bh1, at11, kd1, nb1, wd1, ky1, ta, p1, tk1, at21, sp1, nb21, wd21, got, L + 1, o + 1, L + 1, 0, 0, 0, upd st L (nI (13 + 1)), upd sg L 0, upd va L 0, upd (upd (upd rd (3 * L) (nI 1)) (3 * L + 1) 0) (3 * L + 2) 0, stk, hc, LS_op1 _ _ _ _ _ _ _ _ _ _ _ _ _ _ _ _ _ _ _ _ _ _ _ _ _ ho1, y3, by omega, ⟨rfl, rfl⟩, leaf_PO (j := 1) hS ho (by omega) (Or.inr (Or.inr (Or.inr (Or.inl ⟨1, by omega, rfl, rfl⟩))))⟩
theorem one_leaf2 {n lim : Nat} {B tp : A1} {keys res : Nat → Int64} (hK : RKy keys res) (hn : n ≤ 940) (hl : lim ≤ 940) (hO : OneT B tp) {G D : Nat} {gn dn nm : Nat → Int64} {s : A1} (hN : RN2 G D gn dn s nm) (kk : KS) (th len fa fa2 : Int32) {gC gO : Int32 → Int32 → Int32 → Int32 → Int64 → Int32 → Int32 → Int32 → Int32 → Int32 → Int32 → A1 → A1 → A1 → Int32 → Option OC} {w : Nat} (hw : w ≤ 8) {n2 b L o t : Nat} {bh at1 kd nb : Int32} {wd : Int64} {ky : Int32} (ta : Int32) {p tk at2 : Int32} (sp : Int32) {nb2 : Int32} {wd2 : Int64} (got : Int32) {st sg va rd : A1} (stk : A1) (hR : RTok n b bh at1 kd nb wd ky p tk at2 nb2 wd2) (hf : 1000 ≤ phi b kd + n2) (hS : SI0 G L o t st sg va rd) (ho : o < 20) (hky : ky = nI (13 + 2)) :
    Res n lim G tp nm res kk th len fa fa2 s L o t w st sg va stk Q1 (bX8_readOne_51 940 (nI lim) (nI n) B keys (nI G) gn gC gO bh at1 kd nb wd ky ta 0 fa (nI L) (nI o) st sg va (nI w) 0 ky) (lX12_sentence_48 tp nm res kk n2 th len (nI n) p (nI lim) tk at2 sp nb2 0 fa2 wd2 got (nI L) (nI o) (nI t) (nI w) 0 s rd stk 1) := by
  obtain ⟨hb, rfl, rfl, ⟨a, ha, rfl, rfl⟩, hT⟩ := hR
  have hp : phi b kd = b := phi_97 (key_word hT (k := 13 + 2) (by omega) hky).1
  have hL : L < 40 := by have := hS.1; omega
  subst hky
  obtain ⟨m, rfl⟩ := sn (show 0 < n2 by omega)
  obtain ⟨b1, bh1, at11, kd1, nb1, wd1, ky1, p1, tk1, at21, sp1, nb21, wd21, y1, y2, y3, y4⟩ := sim_step (lim := lim) hK hn hl hO hb (nI a) kd nb wd (nI (13 + 2)) tk (nI a) sp nb2 wd2
  have hc := cl51_key (G := G) (gn := gn) (gC := gC) (gO := gO) (nI b) (nI a) kd nb wd (nI (13 + 2)) ta 0 fa (nI L) st sg va (nI (13 + 2)) ho hw y1
  have ho1 := op_leaf hT (j := 2) (by omega) rfl (nI n) (nI lim) tp s nm res (nI b) (nI a) sp 0 fa2 got (nI L) (nI o) (nI t) (nI w) 0 rd stk
  unfold bX12_operand_38 at ho1
  rw [if_neg (n20 ho), if_pos (nlt9 hw), y2, bind_eq] at ho1
  dsimp only at ho1
  rw [if_pos rfl, if_pos rfl] at ho1
  unfold bX8_readOne_166 at hc
  rw [if_neg (by decide), if_neg (by decide), if_neg (by decide), if_pos (show nI (13 + 2) = 15 from rfl), add_eq hL, bind_eq] at hc
  dsimp only at hc
  rw [if_neg (show ¬ (3 : Int32) ≤ nI 2 by decide), code_eq (by omega), bind_eq, nI_1] at ho1
  dsimp only at ho1
  left
  refine ⟨m, b1, bh1, at11, kd1, nb1, wd1, ky1, ta, p1, tk1, at21, sp1, nb21, wd21, got, L + 1, o + 1, L + 1, 0, 0, 0, upd st L (nI (13 + 2)), upd sg L 0, upd va L 0, upd (upd (upd rd (3 * L) (nI 2)) (3 * L + 1) 0) (3 * L + 2) 0, stk, hc, LS_op1 _ _ _ _ _ _ _ _ _ _ _ _ _ _ _ _ _ _ _ _ _ _ _ _ _ ho1, y3, by omega, ⟨rfl, rfl⟩, leaf_PO (j := 2) hS ho (by omega) (Or.inr (Or.inr (Or.inr (Or.inl ⟨2, by omega, rfl, rfl⟩))))⟩
theorem one_leaf3 {n lim : Nat} {B tp : A1} {keys res : Nat → Int64} (hK : RKy keys res) (hn : n ≤ 940) (hl : lim ≤ 940) (hO : OneT B tp) {G D : Nat} {gn dn nm : Nat → Int64} {s : A1} (hN : RN2 G D gn dn s nm) (kk : KS) (th len fa fa2 : Int32) {gC gO : Int32 → Int32 → Int32 → Int32 → Int64 → Int32 → Int32 → Int32 → Int32 → Int32 → Int32 → A1 → A1 → A1 → Int32 → Option OC} {w : Nat} (hw : w ≤ 8) {n2 b L o t : Nat} {bh at1 kd nb : Int32} {wd : Int64} {ky : Int32} (ta : Int32) {p tk at2 : Int32} (sp : Int32) {nb2 : Int32} {wd2 : Int64} (got : Int32) {st sg va rd : A1} (stk : A1) (hR : RTok n b bh at1 kd nb wd ky p tk at2 nb2 wd2) (hf : 1000 ≤ phi b kd + n2) (hS : SI0 G L o t st sg va rd) (ho : o < 20) (hky : ky = nI (13 + 3)) :
    Res n lim G tp nm res kk th len fa fa2 s L o t w st sg va stk Q1 (bX8_readOne_51 940 (nI lim) (nI n) B keys (nI G) gn gC gO bh at1 kd nb wd ky ta 0 fa (nI L) (nI o) st sg va (nI w) 0 ky) (lX12_sentence_48 tp nm res kk n2 th len (nI n) p (nI lim) tk at2 sp nb2 0 fa2 wd2 got (nI L) (nI o) (nI t) (nI w) 0 s rd stk 1) := by
  obtain ⟨hb, rfl, rfl, ⟨a, ha, rfl, rfl⟩, hT⟩ := hR
  have hp : phi b kd = b := phi_97 (key_word hT (k := 13 + 3) (by omega) hky).1
  have hL : L < 40 := by have := hS.1; omega
  subst hky
  obtain ⟨m, rfl⟩ := sn (show 0 < n2 by omega)
  obtain ⟨b1, bh1, at11, kd1, nb1, wd1, ky1, p1, tk1, at21, sp1, nb21, wd21, y1, y2, y3, y4⟩ := sim_step (lim := lim) hK hn hl hO hb (nI a) kd nb wd (nI (13 + 3)) tk (nI a) sp nb2 wd2
  have hc := cl51_key (G := G) (gn := gn) (gC := gC) (gO := gO) (nI b) (nI a) kd nb wd (nI (13 + 3)) ta 0 fa (nI L) st sg va (nI (13 + 3)) ho hw y1
  have ho1 := op_leaf hT (j := 3) (by omega) rfl (nI n) (nI lim) tp s nm res (nI b) (nI a) sp 0 fa2 got (nI L) (nI o) (nI t) (nI w) 0 rd stk
  unfold bX12_operand_38 at ho1
  rw [if_neg (n20 ho), if_pos (nlt9 hw), y2, bind_eq] at ho1
  dsimp only at ho1
  rw [if_pos rfl, if_pos rfl] at ho1
  unfold bX8_readOne_166 at hc
  have hG7 := hN.1.1
  obtain ⟨q0, hq0⟩ := named_any hN.1.1 gn wd1
  rw [if_neg (by decide), if_neg (by decide), if_neg (by decide), if_neg (by decide), if_pos (show nI (13 + 3) = 16 from rfl), hq0, bind_eq] at hc
  rw [if_pos (show (3 : Int32) ≤ nI 3 by decide), if_neg (show ¬ (5 : Int32) ≤ nI 3 by decide)] at ho1
  obtain ⟨hb1, rfl, rfl, ⟨a1, ha1, rfl, rfl⟩, hT1⟩ := id y3
  rcases sim_looks hK hn hl hO y3 (show G ≤ 100 by have := hN.1; omega) (seekG hN hq0) ta fa fa2 got with ⟨r, i, hr, e1, e2, hi, rfl, h1, h2, h3⟩ | ⟨k, got', h0, h1, h2, -⟩
  · obtain ⟨b2, bh2, at12, kd2, nb2', wd2', ky2, p2, tk2, at22, sp2, nb22, wd22, z1, z2, z3, z4⟩ := sim_step (lim := lim) hK hn hl hO hb1 (nI a1) kd1 nb1 wd1 ky1 tk1 (nI a1) sp1 nb21 wd21
    have hp1 : phi b1 kd1 = b1 := phi_97 h1
    unfold fX6_takeNamed at hc
    rw [h2, bind_eq, if_neg nn1, if_neg (neg_nI i (by omega)), z1, bind_eq] at hc
    dsimp only at hc
    rw [bind_eq] at hc
    dsimp only at hc
    rw [if_neg nn1, add_eq hL, bind_eq] at hc
    dsimp only at hc
    rw [if_neg nn1] at hc
    rw [h3, bind_eq] at ho1
    dsimp only at ho1
    rw [if_neg nn1, code_eq (by omega), bind_eq] at ho1
    dsimp only at ho1
    rw [z2, bind_eq, nI_1] at ho1
    dsimp only at ho1
    left
    refine ⟨m, b2, bh2, at12, kd2, nb2', wd2', ky2, nI i, p2, tk2, at22, sp2, nb22, wd22, nI i, L + 1, o + 1, L + 1, 0, 0, 0, upd st L (nI (13 + 3)), upd sg L 0, upd va L (nI i), upd (upd (upd rd (3 * L) (nI 3)) (3 * L + 1) 0) (3 * L + 2) (nI i), stk, hc, LS_op1 _ _ _ _ _ _ _ _ _ _ _ _ _ _ _ _ _ _ _ _ _ _ _ _ _ ho1, z3, by omega, ⟨rfl, rfl⟩, leaf_PO (j := 3) hS ho (by omega) (Or.inr (Or.inr (Or.inr (Or.inr (Or.inl ⟨3, i, by omega, hi, rfl, rfl, rfl, rfl⟩)))))⟩
  · rw [h2, bind_eq] at hc
    dsimp only at hc
    rw [if_pos rfl] at hc
    rw [h1, bind_eq] at ho1
    dsimp only at ho1
    rw [if_pos rfl, nI_1] at ho1
    right
    exact ⟨k, nI a1, _, _, _, _, _, _, _, _, _, _, _, _, _, _, _, _, _, _, _, _, _, _, _, _, _, _, h0, hc, LS_op0 _ _ _ _ _ _ _ _ _ _ _ _ _ _ _ _ _ _ _ _ _ _ _ _ _ ho1⟩
theorem one_leaf4 {n lim : Nat} {B tp : A1} {keys res : Nat → Int64} (hK : RKy keys res) (hn : n ≤ 940) (hl : lim ≤ 940) (hO : OneT B tp) {G D : Nat} {gn dn nm : Nat → Int64} {s : A1} (hN : RN2 G D gn dn s nm) (kk : KS) (th len fa fa2 : Int32) {gC gO : Int32 → Int32 → Int32 → Int32 → Int64 → Int32 → Int32 → Int32 → Int32 → Int32 → Int32 → A1 → A1 → A1 → Int32 → Option OC} {w : Nat} (hw : w ≤ 8) {n2 b L o t : Nat} {bh at1 kd nb : Int32} {wd : Int64} {ky : Int32} (ta : Int32) {p tk at2 : Int32} (sp : Int32) {nb2 : Int32} {wd2 : Int64} (got : Int32) {st sg va rd : A1} (stk : A1) (hR : RTok n b bh at1 kd nb wd ky p tk at2 nb2 wd2) (hf : 1000 ≤ phi b kd + n2) (hS : SI0 G L o t st sg va rd) (ho : o < 20) (hky : ky = nI (13 + 4)) :
    Res n lim G tp nm res kk th len fa fa2 s L o t w st sg va stk Q1 (bX8_readOne_51 940 (nI lim) (nI n) B keys (nI G) gn gC gO bh at1 kd nb wd ky ta 0 fa (nI L) (nI o) st sg va (nI w) 0 ky) (lX12_sentence_48 tp nm res kk n2 th len (nI n) p (nI lim) tk at2 sp nb2 0 fa2 wd2 got (nI L) (nI o) (nI t) (nI w) 0 s rd stk 1) := by
  obtain ⟨hb, rfl, rfl, ⟨a, ha, rfl, rfl⟩, hT⟩ := hR
  have hp : phi b kd = b := phi_97 (key_word hT (k := 13 + 4) (by omega) hky).1
  have hL : L < 40 := by have := hS.1; omega
  subst hky
  obtain ⟨m, rfl⟩ := sn (show 0 < n2 by omega)
  obtain ⟨b1, bh1, at11, kd1, nb1, wd1, ky1, p1, tk1, at21, sp1, nb21, wd21, y1, y2, y3, y4⟩ := sim_step (lim := lim) hK hn hl hO hb (nI a) kd nb wd (nI (13 + 4)) tk (nI a) sp nb2 wd2
  have hc := cl51_key (G := G) (gn := gn) (gC := gC) (gO := gO) (nI b) (nI a) kd nb wd (nI (13 + 4)) ta 0 fa (nI L) st sg va (nI (13 + 4)) ho hw y1
  have ho1 := op_leaf hT (j := 4) (by omega) rfl (nI n) (nI lim) tp s nm res (nI b) (nI a) sp 0 fa2 got (nI L) (nI o) (nI t) (nI w) 0 rd stk
  unfold bX12_operand_38 at ho1
  rw [if_neg (n20 ho), if_pos (nlt9 hw), y2, bind_eq] at ho1
  dsimp only at ho1
  rw [if_pos rfl, if_pos rfl] at ho1
  unfold bX8_readOne_166 at hc
  have hG7 := hN.1.1
  obtain ⟨q0, hq0⟩ := named_any hN.1.1 gn wd1
  rw [if_neg (by decide), if_neg (by decide), if_neg (by decide), if_neg (by decide), if_neg (by decide), if_pos (show nI (13 + 4) = 17 from rfl), hq0, bind_eq] at hc
  rw [if_pos (show (3 : Int32) ≤ nI 4 by decide), if_neg (show ¬ (5 : Int32) ≤ nI 4 by decide)] at ho1
  obtain ⟨hb1, rfl, rfl, ⟨a1, ha1, rfl, rfl⟩, hT1⟩ := id y3
  rcases sim_looks hK hn hl hO y3 (show G ≤ 100 by have := hN.1; omega) (seekG hN hq0) ta fa fa2 got with ⟨r, i, hr, e1, e2, hi, rfl, h1, h2, h3⟩ | ⟨k, got', h0, h1, h2, -⟩
  · obtain ⟨b2, bh2, at12, kd2, nb2', wd2', ky2, p2, tk2, at22, sp2, nb22, wd22, z1, z2, z3, z4⟩ := sim_step (lim := lim) hK hn hl hO hb1 (nI a1) kd1 nb1 wd1 ky1 tk1 (nI a1) sp1 nb21 wd21
    have hp1 : phi b1 kd1 = b1 := phi_97 h1
    unfold fX6_takeNamed at hc
    rw [h2, bind_eq, if_neg nn1, if_neg (neg_nI i (by omega)), z1, bind_eq] at hc
    dsimp only at hc
    rw [bind_eq] at hc
    dsimp only at hc
    rw [if_neg nn1, add_eq hL, bind_eq] at hc
    dsimp only at hc
    rw [if_neg nn1] at hc
    rw [h3, bind_eq] at ho1
    dsimp only at ho1
    rw [if_neg nn1, code_eq (by omega), bind_eq] at ho1
    dsimp only at ho1
    rw [z2, bind_eq, nI_1] at ho1
    dsimp only at ho1
    left
    refine ⟨m, b2, bh2, at12, kd2, nb2', wd2', ky2, nI i, p2, tk2, at22, sp2, nb22, wd22, nI i, L + 1, o + 1, L + 1, 0, 0, 0, upd st L (nI (13 + 4)), upd sg L 0, upd va L (nI i), upd (upd (upd rd (3 * L) (nI 4)) (3 * L + 1) 0) (3 * L + 2) (nI i), stk, hc, LS_op1 _ _ _ _ _ _ _ _ _ _ _ _ _ _ _ _ _ _ _ _ _ _ _ _ _ ho1, z3, by omega, ⟨rfl, rfl⟩, leaf_PO (j := 4) hS ho (by omega) (Or.inr (Or.inr (Or.inr (Or.inr (Or.inl ⟨4, i, by omega, hi, rfl, rfl, rfl, rfl⟩)))))⟩
  · rw [h2, bind_eq] at hc
    dsimp only at hc
    rw [if_pos rfl] at hc
    rw [h1, bind_eq] at ho1
    dsimp only at ho1
    rw [if_pos rfl, nI_1] at ho1
    right
    exact ⟨k, nI a1, _, _, _, _, _, _, _, _, _, _, _, _, _, _, _, _, _, _, _, _, _, _, _, _, _, _, h0, hc, LS_op0 _ _ _ _ _ _ _ _ _ _ _ _ _ _ _ _ _ _ _ _ _ _ _ _ _ ho1⟩
/-- which sign stands there, both -/
theorem sgn_cases {kd nb : Int32} {wd : Int64} {ky tk nb2 : Int32} {wd2 : Int64} (hT : TokK kd nb wd ky tk nb2 wd2) : (∃ q, 60 ≤ q ∧ q ≤ 62 ∧ kd = nI q ∧ sgn kd = nI q ∧ tk = 3 ∧ nb2 = nI q) ∨ (¬ kd = sgn kd ∧ (¬ tk = 3 ∨ nb2 < 60 ∨ ¬ nb2 ≤ 62)) := by
  unfold sgn
  rcases hT with ⟨rfl, rfl, h⟩ | ⟨rfl, rfl, h⟩ | ⟨rfl, rfl, -, h⟩ | ⟨rfl, rfl, h⟩ | ⟨c, hc, rfl, rfl, rfl, h⟩
  · exact Or.inr ⟨by decide, Or.inl (by decide)⟩
  · exact Or.inr ⟨by decide, Or.inl (by decide)⟩
  · exact Or.inr ⟨by decide, Or.inl (by decide)⟩
  · exact Or.inr ⟨by decide, Or.inl (by decide)⟩
  · rcases hc with rfl | rfl | rfl | rfl | rfl | rfl
    · exact Or.inr ⟨by decide, Or.inr (Or.inl (by decide))⟩
    · exact Or.inl ⟨60, by omega, by omega, rfl, by decide, rfl, rfl⟩
    · exact Or.inl ⟨61, by omega, by omega, rfl, by decide, rfl, rfl⟩
    · exact Or.inl ⟨62, by omega, by omega, rfl, by decide, rfl, rfl⟩
    · exact Or.inr ⟨by decide, Or.inr (Or.inl (by decide))⟩
    · exact Or.inr ⟨by decide, Or.inr (Or.inl (by decide))⟩
theorem one_leaf5 {n lim : Nat} {B tp : A1} {keys res : Nat → Int64} (hK : RKy keys res) (hn : n ≤ 940) (hl : lim ≤ 940) (hO : OneT B tp) {G D : Nat} {gn dn nm : Nat → Int64} {s : A1} (hN : RN2 G D gn dn s nm) (kk : KS) (th len fa fa2 : Int32) {gC gO : Int32 → Int32 → Int32 → Int32 → Int64 → Int32 → Int32 → Int32 → Int32 → Int32 → Int32 → A1 → A1 → A1 → Int32 → Option OC} {w : Nat} (hw : w ≤ 8) {n2 b L o t : Nat} {bh at1 kd nb : Int32} {wd : Int64} {ky : Int32} (ta : Int32) {p tk at2 : Int32} (sp : Int32) {nb2 : Int32} {wd2 : Int64} (got : Int32) {st sg va rd : A1} (stk : A1) (hR : RTok n b bh at1 kd nb wd ky p tk at2 nb2 wd2) (hf : 1000 ≤ phi b kd + n2) (hS : SI0 G L o t st sg va rd) (ho : o < 20) (hky : ky = nI (13 + 5)) :
    Res n lim G tp nm res kk th len fa fa2 s L o t w st sg va stk Q1 (bX8_readOne_51 940 (nI lim) (nI n) B keys (nI G) gn gC gO bh at1 kd nb wd ky ta 0 fa (nI L) (nI o) st sg va (nI w) 0 ky) (lX12_sentence_48 tp nm res kk n2 th len (nI n) p (nI lim) tk at2 sp nb2 0 fa2 wd2 got (nI L) (nI o) (nI t) (nI w) 0 s rd stk 1) := by
  obtain ⟨hb, rfl, rfl, ⟨a, ha, rfl, rfl⟩, hT⟩ := hR
  have hp : phi b kd = b := phi_97 (key_word hT (k := 13 + 5) (by omega) hky).1
  have hL : L < 40 := by have := hS.1; omega
  subst hky
  obtain ⟨m, rfl⟩ := sn (show 0 < n2 by omega)
  obtain ⟨b1, bh1, at11, kd1, nb1, wd1, ky1, p1, tk1, at21, sp1, nb21, wd21, y1, y2, y3, y4⟩ := sim_step (lim := lim) hK hn hl hO hb (nI a) kd nb wd (nI (13 + 5)) tk (nI a) sp nb2 wd2
  have hc := cl51_key (G := G) (gn := gn) (gC := gC) (gO := gO) (nI b) (nI a) kd nb wd (nI (13 + 5)) ta 0 fa (nI L) st sg va (nI (13 + 5)) ho hw y1
  have ho1 := op_leaf hT (j := 5) (by omega) rfl (nI n) (nI lim) tp s nm res (nI b) (nI a) sp 0 fa2 got (nI L) (nI o) (nI t) (nI w) 0 rd stk
  unfold bX12_operand_38 at ho1
  rw [if_neg (n20 ho), if_pos (nlt9 hw), y2, bind_eq] at ho1
  dsimp only at ho1
  rw [if_pos rfl, if_pos rfl] at ho1
  unfold bX8_readOne_166 at hc
  rw [if_neg (by decide), if_neg (by decide), if_neg (by decide), if_neg (by decide), if_neg (by decide), if_neg (by decide), if_pos (show nI (13 + 5) = 18 from rfl)] at hc
  rw [if_pos (show (3 : Int32) ≤ nI 5 by decide), if_pos (show (5 : Int32) ≤ nI 5 by decide)] at ho1
  obtain ⟨hb1, rfl, rfl, ⟨a1, ha1, rfl, rfl⟩, hT1⟩ := id y3
  unfold fX6_takeSign fX6_takeNumber at hc
  rcases sgn_cases hT1 with ⟨q, q1, q2, q3, q4, q5, q6⟩ | ⟨q1, q2⟩
  · have hp1 : phi b1 kd1 = b1 := phi_of (by rw [q3]; rintro (e | e); · exact absurd ((nI_eq (b := 0) (by omega) (by omega)).mp e) (by omega)
                                             · exact absurd ((nI_eq (b := 1) (by omega) (by omega)).mp e) (by omega))
    obtain ⟨b2, bh2, at12, kd2, nb2', wd2', ky2, p2, tk2, at22, sp2, nb22, wd22, z1, z2, z3, z4⟩ := sim_step (lim := lim) hK hn hl hO hb1 (nI a1) kd1 nb1 wd1 ky1 tk1 (nI a1) sp1 nb21 wd21
    obtain ⟨hb2, rfl, rfl, ⟨a2, ha2, rfl, rfl⟩, hT2⟩ := id z3
    rw [if_pos (show kd1 = sgn kd1 by rw [q4]; exact q3), z1, bind_eq] at hc
    dsimp only at hc
    rw [bind_eq] at hc
    dsimp only at hc
    rw [if_neg nn1] at hc
    rw [if_pos q5, if_neg (show ¬ nb21 < 60 by rw [q6]; exact nI_nlt (b := 60) q1 (by omega)), if_pos (show nb21 ≤ 62 by rw [q6]; exact nI_le (b := 62) q2 (by omega)), z2, bind_eq] at ho1
    dsimp only at ho1
    rcases tok_num hT2 with ⟨h1, h2, v, hv, e1, e2⟩ | ⟨h1, h2⟩
    · have hp2 : phi b2 kd2 = b2 := phi_48 h1
      obtain ⟨b3, bh3, at13, kd3, nb3', wd3', ky3, p3, tk3, at23, sp3, nb23, wd23, x1, x2, x3, x4⟩ := sim_step (lim := lim) hK hn hl hO hb2 (nI a2) kd2 nb2' wd2' ky2 tk2 (nI a2) sp2 nb22 wd22
      rw [if_pos h1, if_neg (show ¬ nb2' < 0 by rw [e1]; exact nI_pos (by omega)), if_pos (show nb2' ≤ 999 by rw [e1]; exact nI_le (b := 999) hv (by omega)), x1, bind_eq] at hc
      dsimp only at hc
      rw [bind_eq] at hc
      dsimp only at hc
      rw [if_neg nn1, add_eq hL, bind_eq] at hc
      dsimp only at hc
      rw [if_neg nn1] at hc
      rw [if_pos h2, code_eq (by omega), bind_eq] at ho1
      dsimp only at ho1
      rw [x2, bind_eq, nI_1] at ho1
      dsimp only at ho1
      left
      refine ⟨m, b3, bh3, at13, kd3, nb3', wd3', ky3, nb2', p3, tk3, at23, sp3, nb23, wd23, got, L + 1, o + 1, L + 1, 0, 0, 0, upd st L (nI (13 + 5)), upd sg L (sgn kd1), upd va L nb2', upd (upd (upd rd (3 * L) (nI 5)) (3 * L + 1) nb21) (3 * L + 2) nb22, stk, hc, LS_op1 _ _ _ _ _ _ _ _ _ _ _ _ _ _ _ _ _ _ _ _ _ _ _ _ _ ho1, x3, by omega, ⟨rfl, rfl⟩, leaf_PO (j := 5) hS ho (by omega) (Or.inr (Or.inr (Or.inr (Or.inr (Or.inr ⟨5, q, v, ⟨by omega, by omega⟩, ⟨q1, q2⟩, hv, rfl, rfl, q4, q6, e1, e2⟩)))))⟩
    · rw [if_neg h1, refuse0, bind_eq] at hc
      dsimp only at hc
      rw [bind_eq] at hc
      dsimp only at hc
      rw [if_pos rfl] at hc
      rw [if_neg h2, nI_1] at ho1
      unfold fX12_bad at ho1
      rw [bind_eq] at ho1
      dsimp only at ho1
      right
      exact ⟨1, nI a2, _, _, _, _, _, _, _, _, _, _, _, _, _, _, _, _, _, _, _, _, _, _, _, _, _, _, nn1, hc, LS_op0 _ _ _ _ _ _ _ _ _ _ _ _ _ _ _ _ _ _ _ _ _ _ _ _ _ ho1⟩
  · rw [if_neg q1, refuse0, bind_eq] at hc
    dsimp only at hc
    rw [bind_eq] at hc
    dsimp only at hc
    rw [if_pos rfl] at hc
    have ho2 : fX12_operand (nI n) (nI lim) tp s nm res (nI b) tk (nI a) sp nb2 0 fa2 wd2 got (nI L) (nI o) (nI t) (nI w) 0 rd stk = some (0, nI b1, tk1, nI a1, sp1, nb21, 1, nI a1, wd21, got, nI L, nI (o + 1), nI t, nI w, 1, rd, stk) := by
      rw [ho1, nI_1]
      unfold fX12_bad
      by_cases e3 : tk1 = 3
      · rw [if_pos e3]
        by_cases e4 : nb21 < 60
        · rw [if_pos e4]
          rfl
        · rw [if_neg e4, if_neg ((q2.resolve_left (fun h => h e3)).resolve_left e4)]
          rfl
      · rw [if_neg e3]
        rfl
    right
    exact ⟨1, nI a1, _, _, _, _, _, _, _, _, _, _, _, _, _, _, _, _, _, _, _, _, _, _, _, _, _, _, nn1, hc, LS_op0 _ _ _ _ _ _ _ _ _ _ _ _ _ _ _ _ _ _ _ _ _ _ _ _ _ ho2⟩
theorem one_leaf6 {n lim : Nat} {B tp : A1} {keys res : Nat → Int64} (hK : RKy keys res) (hn : n ≤ 940) (hl : lim ≤ 940) (hO : OneT B tp) {G D : Nat} {gn dn nm : Nat → Int64} {s : A1} (hN : RN2 G D gn dn s nm) (kk : KS) (th len fa fa2 : Int32) {gC gO : Int32 → Int32 → Int32 → Int32 → Int64 → Int32 → Int32 → Int32 → Int32 → Int32 → Int32 → A1 → A1 → A1 → Int32 → Option OC} {w : Nat} (hw : w ≤ 8) {n2 b L o t : Nat} {bh at1 kd nb : Int32} {wd : Int64} {ky : Int32} (ta : Int32) {p tk at2 : Int32} (sp : Int32) {nb2 : Int32} {wd2 : Int64} (got : Int32) {st sg va rd : A1} (stk : A1) (hR : RTok n b bh at1 kd nb wd ky p tk at2 nb2 wd2) (hf : 1000 ≤ phi b kd + n2) (hS : SI0 G L o t st sg va rd) (ho : o < 20) (hky : ky = nI (13 + 6)) :
    Res n lim G tp nm res kk th len fa fa2 s L o t w st sg va stk Q1 (bX8_readOne_51 940 (nI lim) (nI n) B keys (nI G) gn gC gO bh at1 kd nb wd ky ta 0 fa (nI L) (nI o) st sg va (nI w) 0 ky) (lX12_sentence_48 tp nm res kk n2 th len (nI n) p (nI lim) tk at2 sp nb2 0 fa2 wd2 got (nI L) (nI o) (nI t) (nI w) 0 s rd stk 1) := by
  obtain ⟨hb, rfl, rfl, ⟨a, ha, rfl, rfl⟩, hT⟩ := hR
  have hp : phi b kd = b := phi_97 (key_word hT (k := 13 + 6) (by omega) hky).1
  have hL : L < 40 := by have := hS.1; omega
  subst hky
  obtain ⟨m, rfl⟩ := sn (show 0 < n2 by omega)
  obtain ⟨b1, bh1, at11, kd1, nb1, wd1, ky1, p1, tk1, at21, sp1, nb21, wd21, y1, y2, y3, y4⟩ := sim_step (lim := lim) hK hn hl hO hb (nI a) kd nb wd (nI (13 + 6)) tk (nI a) sp nb2 wd2
  have hc := cl51_key (G := G) (gn := gn) (gC := gC) (gO := gO) (nI b) (nI a) kd nb wd (nI (13 + 6)) ta 0 fa (nI L) st sg va (nI (13 + 6)) ho hw y1
  have ho1 := op_leaf hT (j := 6) (by omega) rfl (nI n) (nI lim) tp s nm res (nI b) (nI a) sp 0 fa2 got (nI L) (nI o) (nI t) (nI w) 0 rd stk
  unfold bX12_operand_38 at ho1
  rw [if_neg (n20 ho), if_pos (nlt9 hw), y2, bind_eq] at ho1
  dsimp only at ho1
  rw [if_pos rfl, if_pos rfl] at ho1
  unfold bX8_readOne_166 at hc
  rw [if_neg (by decide), if_neg (by decide), if_neg (by decide), if_neg (by decide), if_neg (by decide), if_neg (by decide), if_neg (by decide), if_pos (show nI (13 + 6) = 19 from rfl)] at hc
  rw [if_pos (show (3 : Int32) ≤ nI 6 by decide), if_pos (show (5 : Int32) ≤ nI 6 by decide)] at ho1
  obtain ⟨hb1, rfl, rfl, ⟨a1, ha1, rfl, rfl⟩, hT1⟩ := id y3
  unfold fX6_takeSign fX6_takeNumber at hc
  rcases sgn_cases hT1 with ⟨q, q1, q2, q3, q4, q5, q6⟩ | ⟨q1, q2⟩
  · have hp1 : phi b1 kd1 = b1 := phi_of (by rw [q3]; rintro (e | e); · exact absurd ((nI_eq (b := 0) (by omega) (by omega)).mp e) (by omega)
                                             · exact absurd ((nI_eq (b := 1) (by omega) (by omega)).mp e) (by omega))
    obtain ⟨b2, bh2, at12, kd2, nb2', wd2', ky2, p2, tk2, at22, sp2, nb22, wd22, z1, z2, z3, z4⟩ := sim_step (lim := lim) hK hn hl hO hb1 (nI a1) kd1 nb1 wd1 ky1 tk1 (nI a1) sp1 nb21 wd21
    obtain ⟨hb2, rfl, rfl, ⟨a2, ha2, rfl, rfl⟩, hT2⟩ := id z3
    rw [if_pos (show kd1 = sgn kd1 by rw [q4]; exact q3), z1, bind_eq] at hc
    dsimp only at hc
    rw [bind_eq] at hc
    dsimp only at hc
    rw [if_neg nn1] at hc
    rw [if_pos q5, if_neg (show ¬ nb21 < 60 by rw [q6]; exact nI_nlt (b := 60) q1 (by omega)), if_pos (show nb21 ≤ 62 by rw [q6]; exact nI_le (b := 62) q2 (by omega)), z2, bind_eq] at ho1
    dsimp only at ho1
    rcases tok_num hT2 with ⟨h1, h2, v, hv, e1, e2⟩ | ⟨h1, h2⟩
    · have hp2 : phi b2 kd2 = b2 := phi_48 h1
      obtain ⟨b3, bh3, at13, kd3, nb3', wd3', ky3, p3, tk3, at23, sp3, nb23, wd23, x1, x2, x3, x4⟩ := sim_step (lim := lim) hK hn hl hO hb2 (nI a2) kd2 nb2' wd2' ky2 tk2 (nI a2) sp2 nb22 wd22
      rw [if_pos h1, if_neg (show ¬ nb2' < 0 by rw [e1]; exact nI_pos (by omega)), if_pos (show nb2' ≤ 999 by rw [e1]; exact nI_le (b := 999) hv (by omega)), x1, bind_eq] at hc
      dsimp only at hc
      rw [bind_eq] at hc
      dsimp only at hc
      rw [if_neg nn1, add_eq hL, bind_eq] at hc
      dsimp only at hc
      rw [if_neg nn1] at hc
      rw [if_pos h2, code_eq (by omega), bind_eq] at ho1
      dsimp only at ho1
      rw [x2, bind_eq, nI_1] at ho1
      dsimp only at ho1
      left
      refine ⟨m, b3, bh3, at13, kd3, nb3', wd3', ky3, nb2', p3, tk3, at23, sp3, nb23, wd23, got, L + 1, o + 1, L + 1, 0, 0, 0, upd st L (nI (13 + 6)), upd sg L (sgn kd1), upd va L nb2', upd (upd (upd rd (3 * L) (nI 6)) (3 * L + 1) nb21) (3 * L + 2) nb22, stk, hc, LS_op1 _ _ _ _ _ _ _ _ _ _ _ _ _ _ _ _ _ _ _ _ _ _ _ _ _ ho1, x3, by omega, ⟨rfl, rfl⟩, leaf_PO (j := 6) hS ho (by omega) (Or.inr (Or.inr (Or.inr (Or.inr (Or.inr ⟨6, q, v, ⟨by omega, by omega⟩, ⟨q1, q2⟩, hv, rfl, rfl, q4, q6, e1, e2⟩)))))⟩
    · rw [if_neg h1, refuse0, bind_eq] at hc
      dsimp only at hc
      rw [bind_eq] at hc
      dsimp only at hc
      rw [if_pos rfl] at hc
      rw [if_neg h2, nI_1] at ho1
      unfold fX12_bad at ho1
      rw [bind_eq] at ho1
      dsimp only at ho1
      right
      exact ⟨1, nI a2, _, _, _, _, _, _, _, _, _, _, _, _, _, _, _, _, _, _, _, _, _, _, _, _, _, _, nn1, hc, LS_op0 _ _ _ _ _ _ _ _ _ _ _ _ _ _ _ _ _ _ _ _ _ _ _ _ _ ho1⟩
  · rw [if_neg q1, refuse0, bind_eq] at hc
    dsimp only at hc
    rw [bind_eq] at hc
    dsimp only at hc
    rw [if_pos rfl] at hc
    have ho2 : fX12_operand (nI n) (nI lim) tp s nm res (nI b) tk (nI a) sp nb2 0 fa2 wd2 got (nI L) (nI o) (nI t) (nI w) 0 rd stk = some (0, nI b1, tk1, nI a1, sp1, nb21, 1, nI a1, wd21, got, nI L, nI (o + 1), nI t, nI w, 1, rd, stk) := by
      rw [ho1, nI_1]
      unfold fX12_bad
      by_cases e3 : tk1 = 3
      · rw [if_pos e3]
        by_cases e4 : nb21 < 60
        · rw [if_pos e4]
          rfl
        · rw [if_neg e4, if_neg ((q2.resolve_left (fun h => h e3)).resolve_left e4)]
          rfl
      · rw [if_neg e3]
        rfl
    right
    exact ⟨1, nI a1, _, _, _, _, _, _, _, _, _, _, _, _, _, _, _, _, _, _, _, _, _, _, _, _, _, _, nn1, hc, LS_op0 _ _ _ _ _ _ _ _ _ _ _ _ _ _ _ _ _ _ _ _ _ _ _ _ _ ho2⟩
theorem one_leaf7 {n lim : Nat} {B tp : A1} {keys res : Nat → Int64} (hK : RKy keys res) (hn : n ≤ 940) (hl : lim ≤ 940) (hO : OneT B tp) {G D : Nat} {gn dn nm : Nat → Int64} {s : A1} (hN : RN2 G D gn dn s nm) (kk : KS) (th len fa fa2 : Int32) {gC gO : Int32 → Int32 → Int32 → Int32 → Int64 → Int32 → Int32 → Int32 → Int32 → Int32 → Int32 → A1 → A1 → A1 → Int32 → Option OC} {w : Nat} (hw : w ≤ 8) {n2 b L o t : Nat} {bh at1 kd nb : Int32} {wd : Int64} {ky : Int32} (ta : Int32) {p tk at2 : Int32} (sp : Int32) {nb2 : Int32} {wd2 : Int64} (got : Int32) {st sg va rd : A1} (stk : A1) (hR : RTok n b bh at1 kd nb wd ky p tk at2 nb2 wd2) (hf : 1000 ≤ phi b kd + n2) (hS : SI0 G L o t st sg va rd) (ho : o < 20) (hky : ky = nI (13 + 7)) :
    Res n lim G tp nm res kk th len fa fa2 s L o t w st sg va stk Q1 (bX8_readOne_51 940 (nI lim) (nI n) B keys (nI G) gn gC gO bh at1 kd nb wd ky ta 0 fa (nI L) (nI o) st sg va (nI w) 0 ky) (lX12_sentence_48 tp nm res kk n2 th len (nI n) p (nI lim) tk at2 sp nb2 0 fa2 wd2 got (nI L) (nI o) (nI t) (nI w) 0 s rd stk 1) := by
  obtain ⟨hb, rfl, rfl, ⟨a, ha, rfl, rfl⟩, hT⟩ := hR
  have hp : phi b kd = b := phi_97 (key_word hT (k := 13 + 7) (by omega) hky).1
  have hL : L < 40 := by have := hS.1; omega
  subst hky
  obtain ⟨m, rfl⟩ := sn (show 0 < n2 by omega)
  obtain ⟨b1, bh1, at11, kd1, nb1, wd1, ky1, p1, tk1, at21, sp1, nb21, wd21, y1, y2, y3, y4⟩ := sim_step (lim := lim) hK hn hl hO hb (nI a) kd nb wd (nI (13 + 7)) tk (nI a) sp nb2 wd2
  have hc := cl51_key (G := G) (gn := gn) (gC := gC) (gO := gO) (nI b) (nI a) kd nb wd (nI (13 + 7)) ta 0 fa (nI L) st sg va (nI (13 + 7)) ho hw y1
  have ho1 := op_leaf hT (j := 7) (by omega) rfl (nI n) (nI lim) tp s nm res (nI b) (nI a) sp 0 fa2 got (nI L) (nI o) (nI t) (nI w) 0 rd stk
  unfold bX12_operand_38 at ho1
  rw [if_neg (n20 ho), if_pos (nlt9 hw), y2, bind_eq] at ho1
  dsimp only at ho1
  rw [if_pos rfl, if_pos rfl] at ho1
  unfold bX8_readOne_166 at hc
  rw [if_neg (by decide), if_neg (by decide), if_neg (by decide), if_neg (by decide), if_neg (by decide), if_neg (by decide), if_neg (by decide), if_neg (by decide), if_pos (show nI (13 + 7) = 20 from rfl)] at hc
  rw [if_pos (show (3 : Int32) ≤ nI 7 by decide), if_pos (show (5 : Int32) ≤ nI 7 by decide)] at ho1
  obtain ⟨hb1, rfl, rfl, ⟨a1, ha1, rfl, rfl⟩, hT1⟩ := id y3
  unfold fX6_takeSign fX6_takeNumber at hc
  rcases sgn_cases hT1 with ⟨q, q1, q2, q3, q4, q5, q6⟩ | ⟨q1, q2⟩
  · have hp1 : phi b1 kd1 = b1 := phi_of (by rw [q3]; rintro (e | e); · exact absurd ((nI_eq (b := 0) (by omega) (by omega)).mp e) (by omega)
                                             · exact absurd ((nI_eq (b := 1) (by omega) (by omega)).mp e) (by omega))
    obtain ⟨b2, bh2, at12, kd2, nb2', wd2', ky2, p2, tk2, at22, sp2, nb22, wd22, z1, z2, z3, z4⟩ := sim_step (lim := lim) hK hn hl hO hb1 (nI a1) kd1 nb1 wd1 ky1 tk1 (nI a1) sp1 nb21 wd21
    obtain ⟨hb2, rfl, rfl, ⟨a2, ha2, rfl, rfl⟩, hT2⟩ := id z3
    rw [if_pos (show kd1 = sgn kd1 by rw [q4]; exact q3), z1, bind_eq] at hc
    dsimp only at hc
    rw [bind_eq] at hc
    dsimp only at hc
    rw [if_neg nn1] at hc
    rw [if_pos q5, if_neg (show ¬ nb21 < 60 by rw [q6]; exact nI_nlt (b := 60) q1 (by omega)), if_pos (show nb21 ≤ 62 by rw [q6]; exact nI_le (b := 62) q2 (by omega)), z2, bind_eq] at ho1
    dsimp only at ho1
    rcases tok_num hT2 with ⟨h1, h2, v, hv, e1, e2⟩ | ⟨h1, h2⟩
    · have hp2 : phi b2 kd2 = b2 := phi_48 h1
      obtain ⟨b3, bh3, at13, kd3, nb3', wd3', ky3, p3, tk3, at23, sp3, nb23, wd23, x1, x2, x3, x4⟩ := sim_step (lim := lim) hK hn hl hO hb2 (nI a2) kd2 nb2' wd2' ky2 tk2 (nI a2) sp2 nb22 wd22
      rw [if_pos h1, if_neg (show ¬ nb2' < 0 by rw [e1]; exact nI_pos (by omega)), if_pos (show nb2' ≤ 999 by rw [e1]; exact nI_le (b := 999) hv (by omega)), x1, bind_eq] at hc
      dsimp only at hc
      rw [bind_eq] at hc
      dsimp only at hc
      rw [if_neg nn1, add_eq hL, bind_eq] at hc
      dsimp only at hc
      rw [if_neg nn1] at hc
      rw [if_pos h2, code_eq (by omega), bind_eq] at ho1
      dsimp only at ho1
      rw [x2, bind_eq, nI_1] at ho1
      dsimp only at ho1
      left
      refine ⟨m, b3, bh3, at13, kd3, nb3', wd3', ky3, nb2', p3, tk3, at23, sp3, nb23, wd23, got, L + 1, o + 1, L + 1, 0, 0, 0, upd st L (nI (13 + 7)), upd sg L (sgn kd1), upd va L nb2', upd (upd (upd rd (3 * L) (nI 7)) (3 * L + 1) nb21) (3 * L + 2) nb22, stk, hc, LS_op1 _ _ _ _ _ _ _ _ _ _ _ _ _ _ _ _ _ _ _ _ _ _ _ _ _ ho1, x3, by omega, ⟨rfl, rfl⟩, leaf_PO (j := 7) hS ho (by omega) (Or.inr (Or.inr (Or.inr (Or.inr (Or.inr ⟨7, q, v, ⟨by omega, by omega⟩, ⟨q1, q2⟩, hv, rfl, rfl, q4, q6, e1, e2⟩)))))⟩
    · rw [if_neg h1, refuse0, bind_eq] at hc
      dsimp only at hc
      rw [bind_eq] at hc
      dsimp only at hc
      rw [if_pos rfl] at hc
      rw [if_neg h2, nI_1] at ho1
      unfold fX12_bad at ho1
      rw [bind_eq] at ho1
      dsimp only at ho1
      right
      exact ⟨1, nI a2, _, _, _, _, _, _, _, _, _, _, _, _, _, _, _, _, _, _, _, _, _, _, _, _, _, _, nn1, hc, LS_op0 _ _ _ _ _ _ _ _ _ _ _ _ _ _ _ _ _ _ _ _ _ _ _ _ _ ho1⟩
  · rw [if_neg q1, refuse0, bind_eq] at hc
    dsimp only at hc
    rw [bind_eq] at hc
    dsimp only at hc
    rw [if_pos rfl] at hc
    have ho2 : fX12_operand (nI n) (nI lim) tp s nm res (nI b) tk (nI a) sp nb2 0 fa2 wd2 got (nI L) (nI o) (nI t) (nI w) 0 rd stk = some (0, nI b1, tk1, nI a1, sp1, nb21, 1, nI a1, wd21, got, nI L, nI (o + 1), nI t, nI w, 1, rd, stk) := by
      rw [ho1, nI_1]
      unfold fX12_bad
      by_cases e3 : tk1 = 3
      · rw [if_pos e3]
        by_cases e4 : nb21 < 60
        · rw [if_pos e4]
          rfl
        · rw [if_neg e4, if_neg ((q2.resolve_left (fun h => h e3)).resolve_left e4)]
          rfl
      · rw [if_neg e3]
        rfl
    right
    exact ⟨1, nI a1, _, _, _, _, _, _, _, _, _, _, _, _, _, _, _, _, _, _, _, _, _, _, _, _, _, _, nn1, hc, LS_op0 _ _ _ _ _ _ _ _ _ _ _ _ _ _ _ _ _ _ _ _ _ _ _ _ _ ho2⟩
theorem one_leaf8 {n lim : Nat} {B tp : A1} {keys res : Nat → Int64} (hK : RKy keys res) (hn : n ≤ 940) (hl : lim ≤ 940) (hO : OneT B tp) {G D : Nat} {gn dn nm : Nat → Int64} {s : A1} (hN : RN2 G D gn dn s nm) (kk : KS) (th len fa fa2 : Int32) {gC gO : Int32 → Int32 → Int32 → Int32 → Int64 → Int32 → Int32 → Int32 → Int32 → Int32 → Int32 → A1 → A1 → A1 → Int32 → Option OC} {w : Nat} (hw : w ≤ 8) {n2 b L o t : Nat} {bh at1 kd nb : Int32} {wd : Int64} {ky : Int32} (ta : Int32) {p tk at2 : Int32} (sp : Int32) {nb2 : Int32} {wd2 : Int64} (got : Int32) {st sg va rd : A1} (stk : A1) (hR : RTok n b bh at1 kd nb wd ky p tk at2 nb2 wd2) (hf : 1000 ≤ phi b kd + n2) (hS : SI0 G L o t st sg va rd) (ho : o < 20) (hky : ky = nI (13 + 8)) :
    Res n lim G tp nm res kk th len fa fa2 s L o t w st sg va stk Q1 (bX8_readOne_51 940 (nI lim) (nI n) B keys (nI G) gn gC gO bh at1 kd nb wd ky ta 0 fa (nI L) (nI o) st sg va (nI w) 0 ky) (lX12_sentence_48 tp nm res kk n2 th len (nI n) p (nI lim) tk at2 sp nb2 0 fa2 wd2 got (nI L) (nI o) (nI t) (nI w) 0 s rd stk 1) := by
  obtain ⟨hb, rfl, rfl, ⟨a, ha, rfl, rfl⟩, hT⟩ := hR
  have hp : phi b kd = b := phi_97 (key_word hT (k := 13 + 8) (by omega) hky).1
  have hL : L < 40 := by have := hS.1; omega
  subst hky
  obtain ⟨m, rfl⟩ := sn (show 0 < n2 by omega)
  obtain ⟨b1, bh1, at11, kd1, nb1, wd1, ky1, p1, tk1, at21, sp1, nb21, wd21, y1, y2, y3, y4⟩ := sim_step (lim := lim) hK hn hl hO hb (nI a) kd nb wd (nI (13 + 8)) tk (nI a) sp nb2 wd2
  have hc := cl51_key (G := G) (gn := gn) (gC := gC) (gO := gO) (nI b) (nI a) kd nb wd (nI (13 + 8)) ta 0 fa (nI L) st sg va (nI (13 + 8)) ho hw y1
  have ho1 := op_leaf hT (j := 8) (by omega) rfl (nI n) (nI lim) tp s nm res (nI b) (nI a) sp 0 fa2 got (nI L) (nI o) (nI t) (nI w) 0 rd stk
  unfold bX12_operand_38 at ho1
  rw [if_neg (n20 ho), if_pos (nlt9 hw), y2, bind_eq] at ho1
  dsimp only at ho1
  rw [if_pos rfl, if_pos rfl] at ho1
  unfold bX8_readOne_166 at hc
  rw [if_neg (by decide), if_neg (by decide), if_neg (by decide), if_neg (by decide), if_neg (by decide), if_neg (by decide), if_neg (by decide), if_neg (by decide), if_neg (by decide), if_pos (show nI (13 + 8) = 21 from rfl)] at hc
  rw [if_pos (show (3 : Int32) ≤ nI 8 by decide), if_pos (show (5 : Int32) ≤ nI 8 by decide)] at ho1
  obtain ⟨hb1, rfl, rfl, ⟨a1, ha1, rfl, rfl⟩, hT1⟩ := id y3
  unfold fX6_takeSign fX6_takeNumber at hc
  rcases sgn_cases hT1 with ⟨q, q1, q2, q3, q4, q5, q6⟩ | ⟨q1, q2⟩
  · have hp1 : phi b1 kd1 = b1 := phi_of (by rw [q3]; rintro (e | e); · exact absurd ((nI_eq (b := 0) (by omega) (by omega)).mp e) (by omega)
                                             · exact absurd ((nI_eq (b := 1) (by omega) (by omega)).mp e) (by omega))
    obtain ⟨b2, bh2, at12, kd2, nb2', wd2', ky2, p2, tk2, at22, sp2, nb22, wd22, z1, z2, z3, z4⟩ := sim_step (lim := lim) hK hn hl hO hb1 (nI a1) kd1 nb1 wd1 ky1 tk1 (nI a1) sp1 nb21 wd21
    obtain ⟨hb2, rfl, rfl, ⟨a2, ha2, rfl, rfl⟩, hT2⟩ := id z3
    rw [if_pos (show kd1 = sgn kd1 by rw [q4]; exact q3), z1, bind_eq] at hc
    dsimp only at hc
    rw [bind_eq] at hc
    dsimp only at hc
    rw [if_neg nn1] at hc
    rw [if_pos q5, if_neg (show ¬ nb21 < 60 by rw [q6]; exact nI_nlt (b := 60) q1 (by omega)), if_pos (show nb21 ≤ 62 by rw [q6]; exact nI_le (b := 62) q2 (by omega)), z2, bind_eq] at ho1
    dsimp only at ho1
    rcases tok_num hT2 with ⟨h1, h2, v, hv, e1, e2⟩ | ⟨h1, h2⟩
    · have hp2 : phi b2 kd2 = b2 := phi_48 h1
      obtain ⟨b3, bh3, at13, kd3, nb3', wd3', ky3, p3, tk3, at23, sp3, nb23, wd23, x1, x2, x3, x4⟩ := sim_step (lim := lim) hK hn hl hO hb2 (nI a2) kd2 nb2' wd2' ky2 tk2 (nI a2) sp2 nb22 wd22
      rw [if_pos h1, if_neg (show ¬ nb2' < 0 by rw [e1]; exact nI_pos (by omega)), if_pos (show nb2' ≤ 999 by rw [e1]; exact nI_le (b := 999) hv (by omega)), x1, bind_eq] at hc
      dsimp only at hc
      rw [bind_eq] at hc
      dsimp only at hc
      rw [if_neg nn1, add_eq hL, bind_eq] at hc
      dsimp only at hc
      rw [if_neg nn1] at hc
      rw [if_pos h2, code_eq (by omega), bind_eq] at ho1
      dsimp only at ho1
      rw [x2, bind_eq, nI_1] at ho1
      dsimp only at ho1
      left
      refine ⟨m, b3, bh3, at13, kd3, nb3', wd3', ky3, nb2', p3, tk3, at23, sp3, nb23, wd23, got, L + 1, o + 1, L + 1, 0, 0, 0, upd st L (nI (13 + 8)), upd sg L (sgn kd1), upd va L nb2', upd (upd (upd rd (3 * L) (nI 8)) (3 * L + 1) nb21) (3 * L + 2) nb22, stk, hc, LS_op1 _ _ _ _ _ _ _ _ _ _ _ _ _ _ _ _ _ _ _ _ _ _ _ _ _ ho1, x3, by omega, ⟨rfl, rfl⟩, leaf_PO (j := 8) hS ho (by omega) (Or.inr (Or.inr (Or.inr (Or.inr (Or.inr ⟨8, q, v, ⟨by omega, by omega⟩, ⟨q1, q2⟩, hv, rfl, rfl, q4, q6, e1, e2⟩)))))⟩
    · rw [if_neg h1, refuse0, bind_eq] at hc
      dsimp only at hc
      rw [bind_eq] at hc
      dsimp only at hc
      rw [if_pos rfl] at hc
      rw [if_neg h2, nI_1] at ho1
      unfold fX12_bad at ho1
      rw [bind_eq] at ho1
      dsimp only at ho1
      right
      exact ⟨1, nI a2, _, _, _, _, _, _, _, _, _, _, _, _, _, _, _, _, _, _, _, _, _, _, _, _, _, _, nn1, hc, LS_op0 _ _ _ _ _ _ _ _ _ _ _ _ _ _ _ _ _ _ _ _ _ _ _ _ _ ho1⟩
  · rw [if_neg q1, refuse0, bind_eq] at hc
    dsimp only at hc
    rw [bind_eq] at hc
    dsimp only at hc
    rw [if_pos rfl] at hc
    have ho2 : fX12_operand (nI n) (nI lim) tp s nm res (nI b) tk (nI a) sp nb2 0 fa2 wd2 got (nI L) (nI o) (nI t) (nI w) 0 rd stk = some (0, nI b1, tk1, nI a1, sp1, nb21, 1, nI a1, wd21, got, nI L, nI (o + 1), nI t, nI w, 1, rd, stk) := by
      rw [ho1, nI_1]
      unfold fX12_bad
      by_cases e3 : tk1 = 3
      · rw [if_pos e3]
        by_cases e4 : nb21 < 60
        · rw [if_pos e4]
          rfl
        · rw [if_neg e4, if_neg ((q2.resolve_left (fun h => h e3)).resolve_left e4)]
          rfl
      · rw [if_neg e3]
        rfl
    right
    exact ⟨1, nI a1, _, _, _, _, _, _, _, _, _, _, _, _, _, _, _, _, _, _, _, _, _, _, _, _, _, _, nn1, hc, LS_op0 _ _ _ _ _ _ _ _ _ _ _ _ _ _ _ _ _ _ _ _ _ _ _ _ _ ho2⟩
