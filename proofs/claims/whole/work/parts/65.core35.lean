/-! ===== pure: a BOOK, read and judged ===== -/
abbrev OB : Type := Int32 × Int32 × Int32 × Int32 × Int32 × Int32 × Int32 × Int32 × Int32 × Int32 × Int32 × Int32 × Int64 × Int32 × Int32 × Int32 × Int32 × A1 × A1 × A1 × A1 × A1
abbrev KB : Type := Int32 → Int32 → Int32 → Int32 → Int32 → Int32 → Int32 → Int32 → Int32 → Int32 → Int32 → Int64 → Int32 → Int32 → Int32 → Int32 → A1 → A1 → A1 → A1 → A1 → Int32 → Int32 → Option OB
abbrev OL : Type := Int32 × Int32 × Int32 × Int32 × Int32 × Int32 × Int32 × Int64 × Int32 × Int32 × Int32 × Int32 × A1 × A1
/-- what a BOOK's text comes to, both -/
def HBr (n lim G D : Nat) (kk : KB) (th len um ht x : Int32) (s un bf tat : A1) (rC : Option OL) (rM : Option OB) : Prop :=
    (∃ (l' : Nat) (bh' at1' kd' nb' : Int32) (wd' : Int64) (ky' ta' fa' : Int32) (dd' ww' : A1) (p' tk' at2' sp' nb2' fa2' : Int32) (wd2' : Int64) (got' : Int32) (rd' : A1), l' ≤ 40 ∧ (∀ i, i < l' → RLn G D (dd' i) (ww' i) (rd' (3 * i)) (rd' (3 * i + 1))) ∧
      rC = some (1, nI l', nI lim, bh', at1', kd', nb', wd', ky', ta', 0, fa', dd', ww') ∧
      rM = (fX12_tries s bf).bind (fun bf' => kk th len (nI n) p' (nI lim) tk' at2' sp' nb2' 0 fa2' wd2' got' um (nI l') ht s rd' un bf' tat x 0)) ∨
    (∃ (k f : Int32) (ln' bh' at1' kd' nb' : Int32) (wd' : Int64) (ky' ta' : Int32) (dd' ww' : A1) (p' tk' at2' sp' nb2' : Int32) (wd2' : Int64) (got' tm' : Int32) (rd' : A1), ¬ k = 0 ∧
      rC = some (0, ln', nI lim, bh', at1', kd', nb', wd', ky', ta', k, f, dd', ww') ∧
      rM = some (-2 - f, th, len, nI n, p', nI lim, tk', at2', sp', nb2', k, f, wd2', got', um, tm', ht, s, rd', un, bf, tat))
theorem book_loop {n lim : Nat} {B tp : A1} {keys res : Nat → Int64} (hK : RKy keys res) (hn : n ≤ 940) (hl : lim ≤ 940) (hO : OneT B tp) {G D : Nat} {gn dn : Nat → Int64} {s : A1} {nm : Nat → Int64} (hN : RN2 G D gn dn s nm) (kk : KB) (th len um ht x : Int32) (un bf tat : A1) : ∀ (m n1 n2 b l : Nat) (bh at1 kd nb : Int32) (wd : Int64) (ky p tk at2 sp nb2 : Int32) (wd2 : Int64) (ta fa fa2 got : Int32) (dd ww rd : A1), 942 ≤ phi b kd + m → m < n1 → m < n2 → l ≤ 40 → RTok n b bh at1 kd nb wd ky p tk at2 nb2 wd2 → (∀ i, i < l → RLn G D (dd i) (ww i) (rd (3 * i)) (rd (3 * i + 1))) →
    HBr n lim G D kk th len um ht x s un bf tat (lX5_read_17 940 (nI n) B keys (nI G) (nI D) gn dn n1 (nI l) (nI lim) bh at1 kd nb wd ky ta 0 fa dd ww (nI l)) (lX12_book_39 tp nm res kk n2 th len (nI n) p (nI lim) tk at2 sp nb2 0 fa2 wd2 got um (nI l) ht s rd un bf tat x) := by
  intro m
  induction m with
  | zero =>
    intro n1 n2 b l bh at1 kd nb wd ky p tk at2 sp nb2 wd2 ta fa fa2 got dd ww rd hm hn1 hn2 hl2 hR
    have : phi b kd ≤ b + 1 := by
      unfold phi
      split <;> omega
    have := hR.1
    omega
  | succ m ih =>
    intro n1 n2 b l bh at1 kd nb wd ky p tk at2 sp nb2 wd2 ta fa fa2 got dd ww rd hm hn1 hn2 hl2 hR hLs
    obtain ⟨n1, rfl⟩ := sn hn1
    obtain ⟨n2, rfl⟩ := sn hn2
    have h40 : ¬ (40 : Int32) < nI l := nI_nlt (a := 40) (by omega) (by omega)
    rw [lX5_read_17, if_neg h40, lX12_book_39]
    rcases tok_end hR.2.2.2.2 with ⟨e1, e2⟩ | ⟨e1, e2⟩
    · left
      rw [if_pos e1, if_pos e2]
      exact ⟨l, bh, at1, kd, nb, wd, ky, ta, fa, dd, ww, p, tk, at2, sp, nb2, fa2, wd2, got, rd, hl2, hLs, rfl, rfl⟩
    · rw [if_neg e1, if_neg e2]
      rcases sim_bline hK hn hl hO hR hN hl2 sp ta fa fa2 got dd ww rd with ⟨b1, bh1, at11, kd1, nb1, wd1, ky1, p1, tk1, at21, sp1, nb21, wd21, ta', got', dd', ww', rd', x1, x2, x3, x4, x5, x6, x7⟩ | ⟨q, f, ln', bh', at1', kd', nb', wd', ky', ta', dd', ww', p', tk', at2', sp', nb2', wd2', got', rd', q0, x1, x2⟩
      · rw [x1, x2, bind_eq]
        dsimp only
        rw [if_neg nn1]
        unfold bX5_readLine_114
        rcases sim_sign (c := 59) hK hn hl hO x6 (Or.inl rfl) sp1 fa fa2 with ⟨b', bh', at1', kd', nb', wd', ky', p', tk', at2', sp', nb2', wd2', z1, z2, z3, z4, z5⟩ | ⟨z1, z2, z3⟩
        · rw [show nI 59 = 59 from rfl] at z1 z2 z3
          rw [z1, z2, bind_eq, bind_eq, bind_eq]
          dsimp only
          rw [if_neg nn1, if_neg nn1, nI_1]
          have l1 : phi b1 kd1 = b1 := phi_of (by rw [z3]; decide)
          have l0 : phi b kd = b := phi_97 x4
          refine ih n1 n2 b' (l + 1) bh' at1' kd' nb' wd' ky' p' tk' at2' sp' nb2' wd2' ta' fa fa2 got' dd' ww' rd' (by omega) (by omega) (by omega) (by omega) z4 (fun i hi => ?_)
          by_cases e : i = l
          · rw [e]
            exact x5.1
          · obtain ⟨f1, f2, f3, f4⟩ := x5.2 i (by omega)
            rw [f1, f2, f3, f4]
            exact hLs i (by omega)
        · right
          rw [show nI 59 = 59 from rfl] at z1 z2
          rw [z1, z2, bind_eq, bind_eq, bind_eq]
          dsimp only
          rw [if_pos rfl, if_pos rfl]
          exact ⟨1, _, _, _, _, _, _, _, _, _, _, _, _, _, _, _, _, _, _, _, _, by decide, rfl, rfl⟩
      · right
        rw [x1, x2, bind_eq, bind_eq]
        dsimp only
        rw [if_pos rfl, if_pos rfl]
        exact ⟨q, _, _, _, _, _, _, _, _, _, _, _, _, _, _, _, _, _, _, _, _, q0, rfl, rfl⟩
theorem book89 (tp : A1) (nm res : Nat → Int64) (kk : Int32 → Int32 → Int32 → Int32 → Int32 → Int32 → Int32 → Int32 → Int32 → Int32 → Int32 → Int64 → Int32 → Int32 → Int32 → Int32 → A1 → A1 → A1 → A1 → A1 → Int32 → Int32 → Int32 → Option OB) (th len sz p lim tk at_ sp nb ft fa : Int32) (wd : Int64) (got um tm ht : Int32) (s rd un bf : A1) (x : Int32) : ∀ (m j n : Nat), j + m = 4 → m < n → ∀ ta : A1, (∀ i, i < j → ta i = 0) → ∃ ta', (∀ i, i < 4 → ta' i = 0) ∧ lX12_book_89 tp nm res kk n th len sz p lim tk at_ sp nb ft fa wd got um tm ht s rd un bf ta x (nI j) = kk th len sz p lim tk at_ sp nb ft fa wd got um tm ht s rd un bf ta' x (-1) 0 := by
  intro m
  induction m with
  | zero =>
    intro j n hj hn ta h
    obtain ⟨n, rfl⟩ := sn hn
    have e : j = 4 := by omega
    subst e
    exact ⟨ta, h, by rw [lX12_book_89, if_pos (by decide)]⟩
  | succ m ih =>
    intro j n hj hn ta h
    obtain ⟨n, rfl⟩ := sn hn
    obtain ⟨ta', h1, h2⟩ := ih (j + 1) n (by omega) (by omega) (upd ta j 0) (fun i hi => by
      by_cases e : i = j
      · rw [e, pk_us]
      · rw [pk_un e]
        exact h i (by omega))
    refine ⟨ta', h1, ?_⟩
    rw [lX12_book_89, if_neg (show ¬ (4 : Int32) ≤ nI j from nI_ge (b := 4) (by omega) (by omega)), gI_ok (show j < 4 by omega) (by omega), nmv_eq, ix0 (by omega), nI_1]
    exact h2
/-- the LINES up to the first that is WRONG, both -/
theorem judge_loop {C G D L : Nat} {pride speed payer cost : A1} (hL40 : L ≤ 40) {dd ww rd : A1} (hLs : ∀ i, i < L → RLn G D (dd i) (ww i) (rd (3 * i)) (rd (3 * i + 1))) (tp : A1) (nm res : Nat → Int64) (kk : KB) (jd rth sth th len sz p lim tk at_ sp nb ft fa : Int32) (wd : Int64) (got um ht : Int32) (un bf : A1) (x : Int32) (s0 : A1) : ∀ (m i n1 n2 : Nat), i + m = L → m + 1 < n1 → m + 1 < n2 → ∀ (sit tak ser hid rnd ovr hst pia : Int32) (coins chairOf tired hosted owed paid : A1) (s ta : A1), RH C G D pride speed payer cost s → RFp C G D sit tak ser hid rnd ovr hst pia coins chairOf tired hosted owed paid s → (∀ j, (j < 44 ∨ 92 ≤ j) → s j = s0 j) → (i = 0 → s = s0) → ta 0 = 0 → ta 1 = nI i →
    ∃ (why' x' : Int32) (lv : Nat) (t1' t2' t3' t4' t5' t6' t7' t8' : Int32) (u1' u2' u3' u4' u5' u6' : A1) (s' ta' : A1), lX5_judge_17 (nI L) dd ww (nI C) (nI G) (nI D) pride speed payer cost n1 jd 0 (nI i) rth sth sit tak ser hid rnd ovr hst pia coins chairOf tired hosted owed paid (nI i) = some (jd, why', nI lv, t5', t1', t1', t2', t3', t4', t5', t6', t7', t8', u1', u2', u3', u4', u5', u6') ∧ lX12_book_111 tp nm res kk n2 th len sz p lim tk at_ sp nb ft fa wd got um (nI L) ht s rd un bf ta x (-1) (nI i) = kk th len sz p lim tk at_ sp nb ft fa wd got um (nI L) ht s' rd un bf ta' x x' ∧ RFp C G D t1' t2' t3' t4' t5' t6' t7' t8' u1' u2' u3' u4' u5' u6' s' ∧ (∀ j, (j < 44 ∨ 92 ≤ j) → s' j = s0 j) ∧ lv ≤ 40 ∧ (lv = 0 → s' = s0) ∧ ta' 0 = why' ∧ ta' 1 = nI lv ∧ ((why' = 0 ∧ x' = -1) ∨ (¬ why' = 0 ∧ x' = nI lv)) := by
  intro m
  induction m with
  | zero =>
    intro i n1 n2 hi hn1 hn2 sit tak ser hid rnd ovr hst pia coins chairOf tired hosted owed paid s ta hH hF hfr h0 ht0 ht1
    obtain ⟨n1, rfl⟩ := sn hn1
    obtain ⟨n2, rfl⟩ := sn hn2
    have e : i = L := by omega
    subst e
    refine ⟨0, -1, i, sit, tak, ser, hid, rnd, ovr, hst, pia, coins, chairOf, tired, hosted, owed, paid, s, ta, ?_, ?_, hF, hfr, hL40, h0, ht0, ht1, Or.inl ⟨rfl, rfl⟩⟩
    · rw [lX5_judge_17, if_pos (nI_le (Nat.le_refl _) (by omega))]
    · rw [lX12_book_111, if_pos (nI_le (Nat.le_refl _) (by omega))]
  | succ m ih =>
    intro i n1 n2 hi hn1 hn2 sit tak ser hid rnd ovr hst pia coins chairOf tired hosted owed paid s ta hH hF hfr h0 ht0 ht1
    obtain ⟨n1, rfl⟩ := sn hn1
    obtain ⟨n2, rfl⟩ := sn hn2
    have e3 : (3 : Int32) * nI i = nI (3 * i) := pk_mul 3 i
    obtain ⟨r, t1, t2, t3, t4, t5, t6, t7, t8, u1, u2, u3, u4, u5, u6, s2, y1, y2, y3, y4, y5⟩ := sim_live hH hF (hLs i (by omega))
    have eC : lX5_judge_17 (nI L) dd ww (nI C) (nI G) (nI D) pride speed payer cost (n1 + 1) jd 0 (nI i) rth sth sit tak ser hid rnd ovr hst pia coins chairOf tired hosted owed paid (nI i) = if r = 0 then lX5_judge_17 (nI L) dd ww (nI C) (nI G) (nI D) pride speed payer cost n1 jd r (nI (i + 1)) rth sth t1 t2 t3 t4 t5 t6 t7 t8 u1 u2 u3 u4 u5 u6 (nI (i + 1)) else lX5_judge_17 (nI L) dd ww (nI C) (nI G) (nI D) pride speed payer cost n1 jd r (nI i) rth sth t1 t2 t3 t4 t5 t6 t7 t8 u1 u2 u3 u4 u5 u6 (nI (i + 1)) := by
      rw [lX5_judge_17, if_neg (nI_ge (by omega) (by omega)), if_pos rfl, gI_ok (show i < 40 by omega) (by omega), gI_ok (show i < 40 by omega) (by omega), nmv_eq, ix0 (by omega), y1, bind_eq]
      dsimp only
      rw [nI_1]
    have eM : lX12_book_111 tp nm res kk (n2 + 1) th len sz p lim tk at_ sp nb ft fa wd got um (nI L) ht s rd un bf ta x (-1) (nI i) = if r ≤ 0 then lX12_book_111 tp nm res kk n2 th len sz p lim tk at_ sp nb ft fa wd got um (nI L) ht s2 rd un bf (upd (upd ta 0 r) 1 (nI (i + 1))) x (-1) (nI (i + 1)) else lX12_book_111 tp nm res kk n2 th len sz p lim tk at_ sp nb ft fa wd got um (nI L) ht s2 rd un bf (upd ta 0 r) x (nI i) (nI (i + 1)) := by
      rw [lX12_book_111, if_neg (nI_ge (by omega) (by omega)), if_neg (by decide), e3, gI_ok (show 3 * i < 135 by omega) (by omega), nI_1, gI_ok (show 3 * i + 1 < 135 by omega) (by omega), nmv_eq, ix0 (show 3 * i < 1000 by omega), ix0 (show 3 * i + 1 < 1000 by omega), y2, bind_eq]
      dsimp only
      rw [nmv_eq, pk_us, nmv_eq, pk_un (show (1 : Nat) ≠ 0 by omega), ht1, nI_1]
    rw [eC, eM]
    rcases y5 with rfl | ⟨y5, y6⟩
    · rw [if_pos rfl, if_pos (by decide)]
      exact ih (i + 1) n1 n2 (by omega) (by omega) (by omega) t1 t2 t3 t4 t5 t6 t7 t8 u1 u2 u3 u4 u5 u6 s2 _ (hH.congr (fun j hj => y4 j (Or.inl hj))) y3 (fun j hj => by rw [y4 j hj, hfr j hj]) (fun h => absurd h (by omega)) (by rw [pk_un (by omega), pk_us]) pk_us
    · have hr0 : ¬ r = 0 := fun e => absurd y5 (by rw [e]; decide)
      rw [if_neg hr0, if_neg (fa_of_lt y5).2.1]
      obtain ⟨n1, rfl⟩ := sn (show m < n1 by omega)
      obtain ⟨n2, rfl⟩ := sn (show m < n2 by omega)
      refine ⟨r, nI i, i, t1, t2, t3, t4, t5, t6, t7, t8, u1, u2, u3, u4, u5, u6, s2, upd ta 0 r, ?_, ?_, y3, fun j hj => by rw [y4 j hj, hfr j hj], by omega, fun h => by rw [y6, h0 h], pk_us, by rw [pk_un (by omega), ht1], Or.inr ⟨hr0, rfl⟩⟩
      · rw [lX5_judge_17]
        by_cases h : L ≤ i + 1
        · rw [if_pos (nI_le h (by omega))]
        · rw [if_neg (nI_ge (by omega) (by omega)), if_neg hr0]
      · rw [lX12_book_111]
        by_cases h : L ≤ i + 1
        · rw [if_pos (nI_le h (by omega))]
        · rw [if_neg (nI_ge (by omega) (by omega)), if_pos (show (0 : Int32) ≤ nI i from nI_le (a := 0) (by omega) (by omega))]
