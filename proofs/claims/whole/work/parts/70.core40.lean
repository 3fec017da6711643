/-! ===== pure: a SENTENCE: what comes behind an operand, both ===== -/
section
variable {sz lim : Int32} {tp : A1} {p tk at_ sp nb ft fa : Int32} {wd : Int64} {c t dp : Int32} {rd stk : A1} {c1 d1 : Int32} {t1 : Int32} {r1 : A1} {c2 : Int32} {r2 : A1} {p' tk' at' sp' nb' : Int32} {wd' : Int64}
theorem bh_and {t2 : Nat} (ht : t2 < 45) {kd nb1 : Int32} {wd1 : Int64} {ky : Int32} (hT : TokK kd nb1 wd1 ky tk nb wd) (h : ky = 11) (h1 : fX12_nots stk c t dp rd = some (c1, t1, d1, r1)) (h2 : fX12_joins stk c1 t1 r1 21 = some (c2, nI t2, r2)) (hs : fX12_step sz lim tp p tk at_ sp nb wd = some (p', tk', at', sp', nb', wd')) :
    fX12_behind sz lim tp p tk at_ sp nb ft fa wd c t dp 1 rd stk = some (1, p', tk', at', sp', nb', ft, fa, wd', c2, nI (t2 + 1), d1, 0, r2, upd stk t2 21) := by
  have e := wrd hT (k := 11) (by omega) kW11 (c := 11) rfl
  rw [if_pos h] at e
  unfold fX12_behind
  rw [h1, bind_eq]
  dsimp only
  rw [e, bind_eq, if_neg nn1]
  unfold bX12_behind_24
  rw [e, bind_eq, if_neg nn1]
  unfold bX12_behind_42
  rw [h2, bind_eq]
  dsimp only
  rw [e, bind_eq, if_neg nn1]
  unfold bX12_behind_70
  rw [gI_ok ht (by omega), nmv_eq, ix0 (by omega), hs, bind_eq, nI_1]
theorem bh_or {t2 : Nat} (ht : t2 < 45) {kd nb1 : Int32} {wd1 : Int64} {ky : Int32} (hT : TokK kd nb1 wd1 ky tk nb wd) (h : ky = 10) (h1 : fX12_nots stk c t dp rd = some (c1, t1, d1, r1)) (h2 : fX12_joins stk c1 t1 r1 22 = some (c2, nI t2, r2)) (hs : fX12_step sz lim tp p tk at_ sp nb wd = some (p', tk', at', sp', nb', wd')) :
    fX12_behind sz lim tp p tk at_ sp nb ft fa wd c t dp 1 rd stk = some (1, p', tk', at', sp', nb', ft, fa, wd', c2, nI (t2 + 1), d1, 0, r2, upd stk t2 22) := by
  have e := wrd hT (k := 11) (by omega) kW11 (c := 11) rfl
  have e2 := wrd hT (k := 10) (by omega) kW10 (c := 10) rfl
  rw [if_neg (show ¬ ky = 11 by rw [h]; decide)] at e
  rw [if_pos h] at e2
  unfold fX12_behind
  rw [h1, bind_eq]
  dsimp only
  rw [e, bind_eq, if_pos rfl, e2, bind_eq, if_neg nn1]
  unfold bX12_behind_24
  rw [e, bind_eq, if_pos rfl]
  unfold bX12_behind_42
  rw [h2, bind_eq]
  dsimp only
  rw [e, bind_eq, if_pos rfl]
  unfold bX12_behind_70
  rw [gI_ok ht (by omega), nmv_eq, ix0 (by omega), hs, bind_eq, nI_1]
theorem bh_close {t2 d2 : Nat} {kd nb1 : Int32} {wd1 : Int64} {ky : Int32} (hT : TokK kd nb1 wd1 ky tk nb wd) (h11 : ¬ ky = 11) (h10 : ¬ ky = 10) (h41 : tk = 3 ∧ nb = 41) (h1 : fX12_nots stk c t dp rd = some (c1, t1, nI (d2 + 1), r1)) (h2 : fX12_joins stk c1 t1 r1 22 = some (c2, nI (t2 + 1), r2)) (ht : t2 < 100) (hs : fX12_step sz lim tp p tk at_ sp nb wd = some (p', tk', at', sp', nb', wd')) :
    fX12_behind sz lim tp p tk at_ sp nb ft fa wd c t dp 1 rd stk = some (1, p', tk', at', sp', nb', ft, fa, wd', c2, nI t2, nI d2, 1, r2, stk) := by
  have e := wrd hT (k := 11) (by omega) kW11 (c := 11) rfl
  have e2 := wrd hT (k := 10) (by omega) kW10 (c := 10) rfl
  rw [if_neg h11] at e
  rw [if_neg h10] at e2
  unfold fX12_behind
  rw [h1, bind_eq]
  dsimp only
  rw [e, bind_eq, if_pos rfl, e2, bind_eq, if_pos rfl, h2, bind_eq]
  dsimp only
  rw [isSign_yes h41.1 h41.2, bind_eq, if_neg nn1, if_neg (nI_ne0 (by omega) (by omega)), hs, bind_eq]
  dsimp only
  rw [sub1 (show 1 ≤ t2 + 1 by omega), sub1 (show 1 ≤ d2 + 1 by omega)]
  rfl
theorem bh_bad {kd nb1 : Int32} {wd1 : Int64} {ky : Int32} (hT : TokK kd nb1 wd1 ky tk nb wd) (h11 : ¬ ky = 11) (h10 : ¬ ky = 10) {t2 : Int32} (h41 : ¬ (tk = 3 ∧ nb = 41) ∨ t2 = 0) (h1 : fX12_nots stk c t dp rd = some (c1, t1, d1, r1)) (h2 : fX12_joins stk c1 t1 r1 22 = some (c2, t2, r2)) :
    fX12_behind sz lim tp p tk at_ sp nb ft fa wd c t dp 1 rd stk = some (0, p, tk, at_, sp, nb, 1, at_, wd, c2, t2, d1, 1, r2, stk) := by
  have e := wrd hT (k := 11) (by omega) kW11 (c := 11) rfl
  have e2 := wrd hT (k := 10) (by omega) kW10 (c := 10) rfl
  rw [if_neg h11] at e
  rw [if_neg h10] at e2
  unfold fX12_behind fX12_bad
  rw [h1, bind_eq]
  dsimp only
  rw [e, bind_eq, if_pos rfl, e2, bind_eq, if_pos rfl, h2, bind_eq]
  dsimp only
  by_cases h3 : tk = 3 ∧ nb = 41
  · rw [isSign_yes h3.1 h3.2, bind_eq, if_neg nn1, if_pos (h41.resolve_left (fun h => h h3)), bind_eq]
  · rw [isSign_no h3, bind_eq, if_pos rfl, bind_eq]
end
/-- the numbers behind a piece -/
theorem PO_num {G L o t po pa k L' o' c' : Nat} {st sg va rd st' sg' va' rd' stk stk' : A1} (hS : SI0 G L o t st sg va rd) (hP : POs G L o t po pa k L' o' c' st sg va st' sg' va' rd' stk stk') : t + po + pa + k ≤ 42 ∧ L' ≤ 39 ∧ k ≤ 40 ∧ c' + k + pa + po = L' := by
  obtain ⟨⟨h1, h2, h3, h4⟩, hW, hR⟩ := hS
  obtain ⟨⟨a1, a2, a3, a4⟩, ⟨b1, b2, b3, b4⟩, ⟨c1, c2⟩, -⟩ := hP
  omega
/-- the piece as the next one begins -/
theorem PO_SI {G L o t po pa k L' o' c' : Nat} {st sg va rd st' sg' va' rd' stk stk' r2 : A1} (hS : SI0 G L o t st sg va rd) (hP : POs G L o t po pa k L' o' c' st sg va st' sg' va' rd' stk stk') (hr : CRs G L' st' sg' va' r2) : SI0 G L' o' (t + 1) st' sg' va' r2 := by
  obtain ⟨⟨h1, h2, h3, h4⟩, hW, hR⟩ := hS
  obtain ⟨⟨a1, a2, a3, a4⟩, ⟨b1, b2, b3, b4⟩, ⟨c1, c2⟩, -⟩ := hP
  exact ⟨⟨by omega, by omega, by omega, by omega⟩, c2, hr⟩
/-- 'nots' by what is pending -/
theorem fl_nots {G L o t po pa k L' o' c' w : Nat} {st sg va rd st' sg' va' rd' stk stk' : A1} (hS : SI0 G L o t st sg va rd) (hP : POs G L o t po pa k L' o' c' st sg va st' sg' va' rd' stk stk') (hw : w ≤ 9) (hb : t = 0 ∨ stk (t - 1) = 22 ∨ stk (t - 1) = 23) : ∃ r1, fX12_nots stk' (nI c') (nI (t + po + pa + k)) (nI (w + k)) rd' = some (nI (c' + k), nI (t + po + pa), nI w, r1) ∧ CRs G (c' + k) st' sg' va' r1 := by
  obtain ⟨m1, m2, m3, m4⟩ := PO_num hS hP
  obtain ⟨⟨a1, a2, a3, a4⟩, ⟨b1, b2, b3, b4⟩, ⟨c1, c2⟩, hf, hR, ⟨p1, p2, p3⟩, ⟨q1, q2, q3⟩, hs⟩ := hP
  refine nots_run (T := t + po + pa) (dp := w) ?_ k c' 5000 rd' (by omega) (by omega) (by omega) (by omega) q3 p1 hR
  by_cases e1 : pa = 1
  · right
    rw [show t + po + pa - 1 = t + po by omega, q2 e1]
    decide
  · by_cases e2 : po = 1
    · right
      rw [show t + po + pa - 1 = t by omega, q1 e2]
      decide
    · rcases hb with hb | hb
      · left
        omega
      · by_cases e3 : t = 0
        · left
          omega
        · right
          rw [show t + po + pa - 1 = t - 1 by omega, hs (t - 1) (by omega)]
          rcases hb with hb | hb <;> rw [hb] <;> decide
/-- all that is pending is emitted at an 'or', at a bracket's end, at the end -/
theorem fl_or {G L o t po pa k L' o' c' w : Nat} {st sg va rd st' sg' va' rd' stk stk' : A1} (hS : SI0 G L o t st sg va rd) (hP : POs G L o t po pa k L' o' c' st sg va st' sg' va' rd' stk stk') (hw : w ≤ 9) (hb : t = 0 ∨ stk (t - 1) = 23) : ∃ r1 r2, fX12_nots stk' (nI c') (nI (t + po + pa + k)) (nI (w + k)) rd' = some (nI (c' + k), nI (t + po + pa), nI w, r1) ∧ fX12_joins stk' (nI (c' + k)) (nI (t + po + pa)) r1 22 = some (nI L', nI t, r2) ∧ CRs G L' st' sg' va' r2 := by
  obtain ⟨r1, y1, y2⟩ := fl_nots hS hP hw (hb.imp id Or.inr)
  obtain ⟨m1, m2, m3, m4⟩ := PO_num hS hP
  obtain ⟨⟨a1, a2, a3, a4⟩, ⟨b1, b2, b3, b4⟩, ⟨c1, c2⟩, hf, hR, ⟨p1, p2, p3⟩, ⟨q1, q2, q3⟩, hs⟩ := hP
  obtain ⟨r2, z1, z2⟩ := joins_or (T := t) (c := c' + k) a2 a1 (by omega) (by omega) q2 q1 p2 p3 (by
    by_cases e3 : t = 0
    · exact Or.inl e3
    · rw [hs (t - 1) (by omega), hb.resolve_left e3]
      exact Or.inr ⟨by decide, by decide⟩) y2
  rw [m4] at z1 z2
  exact ⟨r1, r2, y1, z1, z2⟩
/-- .. at an 'and' -/
theorem fl_and {G L o t pa k L' o' c' w : Nat} {st sg va rd st' sg' va' rd' stk stk' : A1} (hS : SI0 G L o t st sg va rd) (hP : POs G L o t 0 pa k L' o' c' st sg va st' sg' va' rd' stk stk') (hw : w ≤ 9) (hb : t = 0 ∨ stk (t - 1) = 22 ∨ stk (t - 1) = 23) : ∃ r1 r2, fX12_nots stk' (nI c') (nI (t + 0 + pa + k)) (nI (w + k)) rd' = some (nI (c' + k), nI (t + 0 + pa), nI w, r1) ∧ fX12_joins stk' (nI (c' + k)) (nI (t + 0 + pa)) r1 21 = some (nI L', nI t, r2) ∧ CRs G L' st' sg' va' r2 := by
  obtain ⟨r1, y1, y2⟩ := fl_nots hS hP hw hb
  obtain ⟨m1, m2, m3, m4⟩ := PO_num hS hP
  obtain ⟨⟨a1, a2, a3, a4⟩, ⟨b1, b2, b3, b4⟩, ⟨c1, c2⟩, hf, hR, ⟨p1, p2, p3⟩, ⟨q1, q2, q3⟩, hs⟩ := hP
  obtain ⟨r2, z1, z2⟩ := joins_and (T := t) (c := c' + k) (pa := pa) a2 (by omega) (by omega) q2 p2 (by
    by_cases e3 : t = 0
    · exact Or.inl e3
    · rw [hs (t - 1) (by omega)]
      rcases hb.resolve_left e3 with h | h <;> rw [h] <;> exact Or.inr (by decide)) y2
  rw [show c' + k + pa = L' by omega] at z1 z2
  exact ⟨r1, r2, y1, z1, z2⟩
/-- two pieces joined -/
theorem join_PO {G L o t po pa k L' o' c' pa2 k2 L2 o2 c2 : Nat} {st sg va rd st' sg' va' rd' st2 sg2 va2 rd2 stk stk' stk2 : A1} (hS : SI0 G L o t st sg va rd) (hP : POs G L o t po pa k L' o' c' st sg va st' sg' va' rd' stk stk') {x a : Int32} {pr qr : Nat} (hx : (x = 22 ∧ a = 10 ∧ pr = 1 ∧ qr = pa2) ∨ (x = 21 ∧ a = 11 ∧ pr = 0 ∧ qr = 1 ∧ pa2 = 0)) (hP2 : POs G L' o' (t + 1) 0 pa2 k2 L2 o2 c2 st' sg' va' st2 sg2 va2 rd2 (upd stk' t x) stk2) (y z : Int32) :
    POs G L o t pr qr k2 (L2 + 1) o2 c2 st sg va (upd st2 L2 a) (upd sg2 L2 y) (upd va2 L2 z) rd2 stk stk2 := by
  obtain ⟨⟨h1, h2, h3, h4⟩, hW, hR⟩ := hS
  obtain ⟨⟨a1, a2, a3, a4⟩, ⟨b1, b2, b3, b4⟩, ⟨c1, c2'⟩, hf, -, -, -, hs⟩ := hP
  obtain ⟨⟨A1, A2, A3, A4⟩, ⟨B1, B2, B3, B4⟩, ⟨C1, C2⟩, hf2, hR2, ⟨P1, P2, P3⟩, ⟨Q1, Q2, Q3⟩, hs2⟩ := hP2
  have ha : a = 11 ∨ a = 10 := by
    rcases hx with ⟨-, h, -⟩ | ⟨-, h, -⟩
    · exact Or.inr h
    · exact Or.inl h
  have ha12 : ¬ a = 12 := by
    rcases ha with h | h <;> rw [h] <;> decide
  have hg2 : hg (upd st2 L2 a) (L2 + 1) = hg st L + 1 := by
    rw [hg, pk_us, if_neg ha12, if_pos ha, hg_upd]
    omega
  have hq1 : pr ≤ 1 ∧ qr ≤ 1 ∧ c2 + k2 + qr + pr = L2 + 1 := by
    rcases hx with ⟨-, -, h5, h6⟩ | ⟨-, -, h5, h6, h7⟩ <;> omega
  have ht : stk2 t = x := by
    rw [hs2 t (by omega), pk_us]
  refine ⟨⟨hq1.1, hq1.2.1, hq1.2.2, by omega⟩, ⟨by omega, by omega, by omega, by omega⟩, ⟨hg2, WFs_add C2 (fun e => absurd e ha12) (fun _ => by omega)⟩, fun i hi => ?_, CRs_cg hR2 (fun i hi => ⟨pk_un (by omega), pk_un (by omega), pk_un (by omega)⟩), ⟨fun i hi => ?_, fun e => ?_, fun e => ?_⟩, ⟨fun e => ?_, fun e => ?_, fun i hi => ?_⟩, fun i hi => ?_⟩
  · rw [pk_un (by omega), pk_un (by omega), pk_un (by omega)]
    obtain ⟨u1, u2, u3⟩ := hf i hi
    obtain ⟨v1, v2, v3⟩ := hf2 i (by omega)
    exact ⟨v1.trans u1, v2.trans u2, v3.trans u3⟩
  · rw [pk_un (by omega)]
    exact P1 i hi
  · rcases hx with ⟨-, h5, h6, h7⟩ | ⟨-, h5, h6, h7, h8⟩
    · rw [pk_un (by omega)]
      exact P2 (by omega)
    · rw [show c2 + k2 = L2 by omega, pk_us, h5]
  · rcases hx with ⟨-, h5, h6, h7⟩ | ⟨-, h5, h6, h7, h8⟩
    · rw [show c2 + k2 + qr = L2 by omega, pk_us, h5]
    · omega
  · rcases hx with ⟨h5, -, h6, h7⟩ | ⟨-, h5, h6, h7, h8⟩
    · rw [ht, h5]
    · omega
  · rcases hx with ⟨h5, -, h6, h7⟩ | ⟨h5, -, h6, h7, h8⟩
    · have := Q2 (by omega)
      rw [show t + 1 + 0 = t + pr by omega] at this
      exact this
    · rw [show t + pr = t by omega, ht, h5]
  · have := Q3 i hi
    rw [show t + 1 + 0 + pa2 + i = t + pr + qr + i by rcases hx with ⟨-, -, h6, h7⟩ | ⟨-, -, h6, h7, h8⟩ <;> omega] at this
    exact this
  · rw [hs2 i (by omega), pk_un (by omega)]
    exact hs i hi
/-- a bracket, closed -/
theorem brk_PO {G L o t po pa k L' o' c' : Nat} {st sg va st' sg' va' rd' r2 stk stk' : A1} {x : Int32} (hP : POs G L (o + 1) (t + 1) po pa k L' o' c' st sg va st' sg' va' rd' (upd stk t x) stk') (hr : CRs G L' st' sg' va' r2) :
    POs G L o t 0 0 0 L' o' L' st sg va st' sg' va' r2 stk stk' := by
  obtain ⟨⟨a1, a2, a3, a4⟩, ⟨b1, b2, b3, b4⟩, ⟨c1, c2⟩, hf, hR, -, -, hs⟩ := hP
  refine ⟨⟨by omega, by omega, rfl, a4⟩, ⟨by omega, by omega, b3, by omega⟩, ⟨c1, c2⟩, hf, hr, ⟨fun i hi => absurd hi (by omega), fun e => absurd e (by omega), fun e => absurd e (by omega)⟩, ⟨fun e => absurd e (by omega), fun e => absurd e (by omega), fun i hi => absurd hi (by omega)⟩, fun i hi => ?_⟩
  rw [hs i (by omega), pk_un (by omega)]
