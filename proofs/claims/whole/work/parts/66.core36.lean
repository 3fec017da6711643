/-! ===== pure: promise 37: book ===== -/
theorem book232 (tp : A1) (nm res : Nat → Int64) (kk : KB) (th len sz p lim tk at_ sp nb ft fa : Int32) (wd : Int64) (got tm ht : Int32) (s rd bf ta : A1) (x x2 : Int32) {k : Nat} (hk : 1 ≤ k) (hk8 : k ≤ 8) : ∀ (m j n : Nat), j + m = 48 → m < n → ∀ un : A1, ∃ un', lX12_book_232 tp nm res kk n th len sz p lim tk at_ sp nb ft fa wd got (nI k) tm ht s rd un bf ta x x2 (nI j) = kk th len sz p lim tk at_ sp nb ft fa wd got (nI k) tm ht s rd un' bf ta x x2 ∧ (∀ i, j ≤ i → i < 48 → un' (48 * (k - 1) + i) = bf i) ∧ ∀ i, i < 48 * (k - 1) + j → un' i = un i := by
  intro m
  induction m with
  | zero =>
    intro j n hj hn un
    obtain ⟨n, rfl⟩ := sn hn
    have e : j = 48 := by omega
    subst e
    refine ⟨un, ?_, fun i h1 h2 => absurd h1 (by omega), fun _ _ => rfl⟩
    rw [lX12_book_232, if_pos (by decide)]
  | succ m ih =>
    intro j n hj hn un
    obtain ⟨n, rfl⟩ := sn hn
    obtain ⟨un', h1, h2, h3⟩ := ih (j + 1) n (by omega) (by omega) (upd un (48 * (k - 1) + j) (bf j))
    have h48 : ¬ (48 : Int32) ≤ nI j := nI_ge (b := 48) (by omega) (by omega)
    have e1 : nI k - 1 = nI (k - 1) := pk_sub (b := 1) (by omega)
    have e48 : (48 : Int32) * nI (k - 1) = nI (48 * (k - 1)) := pk_mul 48 (k - 1)
    refine ⟨un', ?_, ?_, ?_⟩
    · rw [lX12_book_232, if_neg h48, gI_ok (show j < 48 by omega) (by omega), nmv_eq, e1, e48, gI_oka (show 48 * (k - 1) + j < 384 by omega) (by omega), nmv_eq, ixa (by omega), ix0 (by omega), nI_1]
      exact h1
    · intro i hi1 hi2
      by_cases e : i = j
      · subst e
        rw [h3 _ (by omega), pk_us]
      · exact h2 i (by omega) hi2
    · intro i hi
      rw [h3 i (by omega), pk_un (by omega)]
/-- an act is kept, both; what the reference keeps is put there behind it -/
theorem sim_keep2 {C G D : Nat} {sit tak ser hid rnd ovr hst pia : Int32} {coins chairOf tired hosted owed paid s : A1} (hG : G ≤ 7) (hF : RFp C G D sit tak ser hid rnd ovr hst pia coins chairOf tired hosted owed paid s) {kept last um : Int32} {ah : Nat → E9} {un : A1} (hA : RA C G D kept last um ah un) (s1 : A1) :
    ∃ (kept' last' : Int32) (k' : Nat) (ah' : Nat → E9) (un' : A1), fX0_keep sit tak ser hid rnd ovr hst pia coins chairOf tired hosted owed paid kept last ah = some (kept', last', ah') ∧ fX12_keep s1 um un = some (nI k', un') ∧ 1 ≤ k' ∧ k' ≤ 8 ∧ ∀ un2 : A1, (∀ i, i < 48 → un2 (48 * (k' - 1) + i) = s (44 + i)) → (∀ i, i < 48 * (k' - 1) → un2 i = un' i) → RA C G D kept' last' (nI k') ah' un2 := by
  obtain ⟨k, l, hk, hl, rfl, rfl, rfl, hr⟩ := hA
  have hC := keepC sit tak ser hid rnd ovr hst pia coins chairOf tired hosted owed paid (nI k) ah hl
  have newest : ∀ (q : Nat) (un' : A1), (∀ i, i < 48 → un' (48 * q + i) = s (44 + i)) → RFe C G D (cpyE sit tak ser hid rnd ovr hst pia coins chairOf tired hosted owed paid (ah ((l + 1) % 8))) (fun i => un' (48 * q + (i - 44))) := fun q un' h =>
    RFe_cs hG (RFe_cpy hG _ hF) (fun i h1 h2 => by rw [h (i - 44) (by omega), show 44 + (i - 44) = i by omega])
  by_cases h8 : k = 8
  · subst h8
    obtain ⟨un1, z1, z2, -⟩ := keep11 (s := s1) (lX12_keep_47 s1 5000) (nI 8) 336 0 5000 (by omega) (by omega) un
    obtain ⟨un2, y1, y2, y3⟩ := keep47 (s := s1) (k := 7) (by omega) 48 0 5000 (by omega) (by omega) un1
    rw [show nI 0 = 0 from rfl] at z1 y1
    rw [if_neg (show ¬ nI 8 + 1 < 8 by decide)] at hC
    refine ⟨_, _, 8, _, _, hC, by unfold fX12_keep; rw [if_pos (show nI 8 = 8 from rfl), z1]; exact y1, by omega, by omega, fun un3 v1 v2 => ⟨8, (l + 1) % 8, by omega, by omega, rfl, rfl, rfl, ?_⟩⟩
    intro j hj
    by_cases h0 : j = 0
    · subst h0
      rw [show ((l + 1) % 8 + 8 - 0) % 8 = (l + 1) % 8 by omega, updE_s]
      exact newest 7 un3 (fun i hi => v1 i hi)
    · rw [show ((l + 1) % 8 + 8 - j) % 8 = (l + 8 - (j - 1)) % 8 by omega, updE_n (by omega)]
      refine RFe_cs hG (hr (j - 1) (by omega)) (fun i h1 h2 => ?_)
      rw [v2 _ (by omega), y3 _ (by omega), z2 _ (by omega) (by omega)]
      exact congrArg un (by omega)
  · obtain ⟨un2, y1, y2, y3⟩ := keep47 (s := s1) (k := k) (by omega) 48 0 5000 (by omega) (by omega) un
    rw [show nI 0 = 0 from rfl] at y1
    have e : (if nI k + 1 < 8 then nI k + 1 else 8) = nI (k + 1) := by
      rw [nI_1]
      by_cases h : k + 1 < 8
      · rw [if_pos (show nI (k + 1) < 8 from nI_lt (b := 8) h (by omega))]
      · have e : k = 7 := by omega
        subst e
        rfl
    rw [e] at hC
    refine ⟨_, _, k + 1, _, _, hC, by unfold fX12_keep; rw [if_neg (show ¬ nI k = 8 from fun e => h8 ((nI_eq (b := 8) (by omega) (by omega)).mp e))]; exact y1, by omega, by omega, fun un3 v1 v2 => ⟨k + 1, (l + 1) % 8, by omega, by omega, rfl, rfl, rfl, ?_⟩⟩
    intro j hj
    by_cases h0 : j = 0
    · subst h0
      rw [show ((l + 1) % 8 + 8 - 0) % 8 = (l + 1) % 8 by omega, updE_s]
      exact newest k un3 (fun i hi => v1 i hi)
    · rw [show ((l + 1) % 8 + 8 - j) % 8 = (l + 8 - (j - 1)) % 8 by omega, updE_n (by omega)]
      refine RFe_cs hG (hr (j - 1) (by omega)) (fun i h1 h2 => ?_)
      rw [v2 _ (by omega), y3 _ (by omega)]
      exact congrArg un (by omega)
theorem in01 (x : Int32) : (x = 0 ∧ fX12_isIn x 0 1 = some 1) ∨ (x = 1 ∧ fX12_isIn x 0 1 = some 1) ∨ (fX12_isIn x 0 1 = some 0 ∧ (x < 0 ∨ ¬ x ≤ 1)) := by
  rcases in_eq (N := 2) (by omega) x with ⟨g, h1, h2, h3, h4, h5⟩ | ⟨h3, h4⟩
  · have : g = 0 ∨ g = 1 := by omega
    rcases this with rfl | rfl
    · exact Or.inl ⟨h2, h3⟩
    · exact Or.inr (Or.inl ⟨h2, h3⟩)
  · refine Or.inr (Or.inr ⟨h3, ?_⟩)
    rcases h4 with h4 | h4
    · exact Or.inl h4
    · refine Or.inr (fun h => ?_)
      rw [fa_le] at h h4
      have e1 : (nI 2).toInt = 2 := by decide
      have e2 : (1 : Int32).toInt = 1 := by decide
      omega
theorem back_one {s bf : A1} (h : ∀ i, i < 48 → bf i = s (44 + i)) {s' : A1} (h2 : ∀ i, (i < 44 ∨ 92 ≤ i) → s' i = s i) : fX12_back bf s' = some s := back_eq h h2
theorem b266_1 (tp : A1) (nm res : Nat → Int64) (th len sz p lim tk at_ sp nb ft fa : Int32) (wd : Int64) (got um tm ht : Int32) (s rd un bf ta : A1) (x2 : Int32) : bX12_book_266 tp nm res th len sz p lim tk at_ sp nb ft fa wd got um tm ht s rd un bf ta 1 x2 = some (x2, th, len, sz, p, lim, tk, at_, sp, nb, ft, fa, wd, got, um, tm, ht, s, rd, un, bf, ta) := by
  unfold bX12_book_266
  rw [if_neg nn1]
theorem b266_0 (tp : A1) (nm res : Nat → Int64) (th len sz p lim tk at_ sp nb ft fa : Int32) (wd : Int64) (got um tm ht : Int32) {s s' : A1} (rd un : A1) {bf : A1} (hs : fX12_back bf s = some s') (ta : A1) (x2 : Int32) : bX12_book_266 tp nm res th len sz p lim tk at_ sp nb ft fa wd got um tm ht s rd un bf ta 0 x2 = some (x2, th, len, sz, p, lim, tk, at_, sp, nb, ft, fa, wd, got, um, tm, ht, s', rd, un, bf, ta) := by
  unfold bX12_book_266
  rw [if_pos rfl, hs, bind_eq]
/-- promise 37: book -/
theorem T_book {C G D : Nat} {pride speed payer cost s : A1} (hH : RH C G D pride speed payer cost s) {sit tak ser hid rnd ovr hst pia : Int32} {coins chairOf tired hosted owed paid : A1} (hF : RFp C G D sit tak ser hid rnd ovr hst pia coins chairOf tired hosted owed paid s) {kept last um : Int32} {ah : Nat → E9} {un : A1} (hA : RA C G D kept last um ah un) {n nb : Nat} {tz len : Int32} {B tp : A1} (hT : RT n nb tz len B tp) {keys res : Nat → Int64} (hK : RKy keys res) {gn dn nm : Nat → Int64} (hN1 : RNm G 0 gn nm) (hN2 : RNm D 7 dn nm) {jd why liv rth sth ht : Int32} {tat : A1} (hTd : RTd jd why liv rth sth ht tat) (lf ms bh at1 kd nbr : Int32) (wd : Int64) (ky ta ft fa : Int32) (t1 t2 t3 t4 t5 t6 t7 t8 : Int32) (u1 u2 u3 u4 u5 u6 : A1) (ln : Int32) (dd ww : A1) (th sz p lim tk at2 sp nb2 fa2 : Int32) (wd2 : Int64) (got tm : Int32) (rd bf : A1) (x : Int32) :
    ∃ (r lf' tz' sit' tak' ser' hid' rnd' ovr' hst' pia' : Int32) (coins' chairOf' tired' hosted' owed' paid' : A1) (ms' bh' at1' kd' nbr' : Int32) (wd' : Int64) (ky' ta' ft' fa' kept' last' : Int32) (ah' : Nat → E9) (t1' t2' t3' t4' t5' t6' t7' t8' : Int32) (u1' u2' u3' u4' u5' u6' : A1) (ln' jd' why' liv' rth' sth' : Int32) (dd' ww' : A1) (len' sz' p' lim' tk' at2' sp' nb2' fa2' : Int32) (wd2' : Int64) (got' um' tm' ht' : Int32) (s' rd' un' bf' tat' : A1),
      fX11_book nb B (nI C) (nI G) (nI D) gn pride speed payer dn cost keys lf tz sit tak ser hid rnd ovr hst pia coins chairOf tired hosted owed paid ms bh at1 kd nbr wd ky ta ft fa kept last ah t1 t2 t3 t4 t5 t6 t7 t8 u1 u2 u3 u4 u5 u6 ln jd why liv rth sth dd ww x = some (r, lf', tz', sit', tak', ser', hid', rnd', ovr', hst', pia', coins', chairOf', tired', hosted', owed', paid', ms', bh', at1', kd', nbr', wd', ky', ta', ft', fa', kept', last', ah', t1', t2', t3', t4', t5', t6', t7', t8', u1', u2', u3', u4', u5', u6', ln', jd', why', liv', rth', sth', dd', ww') ∧
      fX12_book tp nm res th len sz p lim tk at2 sp nb2 lf fa2 wd2 got um tm ht s rd un bf tat x = some (r, 0, len', sz', p', lim', tk', at2', sp', nb2', lf', fa2', wd2', got', um', tm', ht', s', rd', un', bf', tat') ∧
      (∃ n', RT n' nb tz' len' B tp) ∧ RFp C G D sit' tak' ser' hid' rnd' ovr' hst' pia' coins' chairOf' tired' hosted' owed' paid' s' ∧ RA C G D kept' last' um' ah' un' ∧ (∀ i, (i < 44 ∨ 92 ≤ i) → s' i = s i) ∧ RTd jd' why' liv' rth' sth' ht' tat' := by
  obtain ⟨⟨hC2, hC9, hG, hGC, hD⟩, ⟨e0, e1, e2⟩, -, -⟩ := id hH
  obtain ⟨hnb, hn, htz, hlen, hBt, hby⟩ := id hT
  have hO : OneT B tp := ⟨hBt, hby⟩
  unfold fX11_book fX12_book
  by_cases hx : x < 0 ∨ ¬ x ≤ 1
  · have h1 : fX12_isIn x 0 1 = some 0 := by
      rcases in01 x with ⟨rfl, -⟩ | ⟨rfl, -⟩ | ⟨h, -⟩
      · exact absurd hx (by decide)
      · exact absurd hx (by decide)
      · exact h
    rw [h1, bind_eq, if_pos rfl]
    by_cases h0 : x < 0
    · rw [if_pos h0]
      exact ⟨_, _, _, _, _, _, _, _, _, _, _, _, _, _, _, _, _, _, _, _, _, _, _, _, _, _, _, _, _, _, _, _, _, _, _, _, _, _, _, _, _, _, _, _, _, _, _, _, _, _, _, _, _, _, _, _, _, _, _, _, _, _, _, _, _, _, _, _, _, _, _, rfl, rfl, ⟨n, hT⟩, hF, hA, fun _ _ => rfl, hTd⟩
    · rw [if_neg h0, if_neg (fun h => hx.elim h0 (fun h2 => h2 h))]
      exact ⟨_, _, _, _, _, _, _, _, _, _, _, _, _, _, _, _, _, _, _, _, _, _, _, _, _, _, _, _, _, _, _, _, _, _, _, _, _, _, _, _, _, _, _, _, _, _, _, _, _, _, _, _, _, _, _, _, _, _, _, _, _, _, _, _, _, _, _, _, _, _, _, rfl, rfl, ⟨n, hT⟩, hF, hA, fun _ _ => rfl, hTd⟩
  · have hx01 : (x = 0 ∨ x = 1) ∧ fX12_isIn x 0 1 = some 1 := by
      rcases in01 x with ⟨h, h2⟩ | ⟨h, h2⟩ | ⟨-, h⟩
      · exact ⟨Or.inl h, h2⟩
      · exact ⟨Or.inr h, h2⟩
      · exact absurd h hx
    have hx0 : ¬ x < 0 := fun h => hx (Or.inl h)
    have hx1 : x ≤ 1 := Decidable.not_not.mp (fun h => hx (Or.inr h))
    subst hnb htz hlen
    obtain ⟨b1, bh1, at11, kd1, nb1, wd1, ky1, p1, tk1, at21, sp1, nb21, wd21, y1, y2, y3, y4⟩ := sim_step (lim := 400) (b := 0) hK hn (by omega) hO (by omega) at1 kd nbr wd ky tk at2 sp nb2 wd2
    rw [show nI 0 = 0 from rfl, show nI 400 = 400 from rfl] at y1 y2
    have eC : fX5_read 940 (nI n) B keys (nI G) (nI D) gn dn ln ms bh at1 kd nbr wd ky ta ft fa dd ww = lX5_read_17 940 (nI n) B keys (nI G) (nI D) gn dn 5000 0 400 bh1 at11 kd1 nb1 wd1 ky1 ta 0 0 dd ww 0 := by
      unfold fX5_read fX6_open
      rw [y1, bind_eq, bind_eq]
    have eM : (fX12_taken (nI n) sz p lim 400).bind (fun (u8_length, u8_size, u8_p, u8_limit) => (fX12_step u8_size u8_limit tp u8_p tk at2 sp nb2 wd2).bind (fun (u9_p, u9_token, u9_at, u9_span, u9_number, u9_word) => lX12_book_39 tp nm res (lX12_book_89 tp nm res (lX12_book_111 tp nm res (bX12_book_181 tp nm res) 5000) 5000) 5000 0 u8_length u8_size u9_p u8_limit u9_token u9_at u9_span u9_number 0 fa2 u9_word got um 0 ht s rd un bf tat x)) = lX12_book_39 tp nm res (lX12_book_89 tp nm res (lX12_book_111 tp nm res (bX12_book_181 tp nm res) 5000) 5000) 5000 0 0 (nI n) p1 400 tk1 at21 sp1 nb21 0 fa2 wd21 got um 0 ht s rd un bf tat x := by
      unfold fX12_taken
      rw [bind_eq]
      dsimp only
      rw [y2, bind_eq]
    rw [if_neg hx0, if_pos hx1, hx01.2, bind_eq, if_neg nn1, eC, eM]
    have hRT0 : ∃ n', RT n' 940 0 0 B tp := ⟨0, rfl, by omega, rfl, rfl, hBt, hby⟩
    rcases book_loop hK hn (show 400 ≤ 940 by omega) hO (G := G) (D := D) (gn := gn) (dn := dn) (s := s) (nm := nm) ⟨⟨hG, hD⟩, ⟨e1, e2⟩, hN1, hN2⟩ (lX12_book_89 tp nm res (lX12_book_111 tp nm res (bX12_book_181 tp nm res) 5000) 5000) 0 0 um ht x un bf tat 942 5000 5000 b1 0 bh1 at11 kd1 nb1 wd1 ky1 p1 tk1 at21 sp1 nb21 wd21 ta 0 fa2 got dd ww rd (by omega) (by omega) (by omega) (by omega) y3 (fun i h => absurd h (by omega)) with ⟨l', bh', at1', kd', nb', wd', ky', ta', fa', dd', ww', p', tk', at2', sp', nb2', fa2', wd2', got', rd', hl', hLs, x1, x2⟩ | ⟨k, f, ln', bh', at1', kd', nb', wd', ky', ta', dd', ww', p', tk', at2', sp', nb2', wd2', got', tm', rd', hk, x1, x2⟩
    · rw [show nI 0 = 0 from rfl, show nI 400 = 400 from rfl] at x1 x2
      obtain ⟨bf1, z1, z2⟩ := tries_eq s bf
      obtain ⟨ta1, c1, c2⟩ := book89 tp nm res (lX12_book_111 tp nm res (bX12_book_181 tp nm res) 5000) 0 0 (nI n) p' 400 tk' at2' sp' nb2' 0 fa2' wd2' got' um (nI l') ht s rd' un bf1 x 4 0 5000 (by omega) (by omega) tat (fun i h => absurd h (by omega))
      rw [show nI 0 = 0 from rfl] at c2
      obtain ⟨why', x', lv, v1, v2, v3, v4, v5, v6, v7, v8, w1, w2, w3, w4, w5, w6, s2, ta2, j1, j2, j3, j4, j5, j6, j7, j8, j9⟩ := judge_loop hl' hLs tp nm res (bX12_book_181 tp nm res) 1 rth sth 0 0 (nI n) p' 400 tk' at2' sp' nb2' 0 fa2' wd2' got' um ht un bf1 x s l' 0 5000 5000 (by omega) (by omega) (by omega) sit tak ser hid rnd ovr hst pia (va_cpy coins u1 0 0 7) (va_cpy chairOf u2 0 0 7) (va_cpy tired u3 0 0 7) (va_cpy hosted u4 0 0 7) (va_cpy owed u5 0 0 7) (va_cpy paid u6 0 0 7) s ta1 hH ⟨hF.1, hF.2.1, RF_copy hG hF.2.2⟩ (fun _ _ => rfl) (fun _ => rfl) (c1 0 (by omega)) (by rw [c1 1 (by omega)]; rfl)
      rw [show nI 0 = 0 from rfl] at j1 j2
      have eJ : fX5_judge (nI l') dd' ww' (nI C) (nI G) (nI D) pride speed payer cost jd why liv rth sth sit tak ser hid rnd ovr hst pia (va_cpy coins u1 0 0 7) (va_cpy chairOf u2 0 0 7) (va_cpy tired u3 0 0 7) (va_cpy hosted u4 0 0 7) (va_cpy owed u5 0 0 7) (va_cpy paid u6 0 0 7) = some (1, why', nI lv, v5, v1, v1, v2, v3, v4, v5, v6, v7, v8, w1, w2, w3, w4, w5, w6) := by
        unfold fX5_judge
        exact j1
      have e44 : s2 44 = v5 := j3.2.2.1.1.1
      have e63 : s2 63 = v1 := j3.2.2.1.1.2.2.2.2.2
      have t0 : upd (upd ta2 2 (s2 44)) 3 (s2 63) 0 = why' := by rw [pk_un (by omega), pk_un (by omega), j7]
      have t1 : upd (upd ta2 2 (s2 44)) 3 (s2 63) 1 = nI lv := by rw [pk_un (by omega), pk_un (by omega), j8]
      have t2 : upd (upd ta2 2 (s2 44)) 3 (s2 63) 2 = v5 := by rw [pk_un (by omega), pk_us, e44]
      have t3 : upd (upd ta2 2 (s2 44)) 3 (s2 63) 3 = v1 := by rw [pk_us, e63]
      have hTd' : RTd 1 why' (nI lv) v5 v1 1 (upd (upd ta2 2 (s2 44)) 3 (s2 63)) := Or.inr ⟨rfl, rfl, t0, t1, t2, t3⟩
      have eR : (if why' = 0 then (-1 : Int32) else nI lv) = x' := by
        rcases j9 with ⟨h1, h2⟩ | ⟨h1, h2⟩
        · rw [if_pos h1, h2]
        · rw [if_neg h1, h2]
      have e129 : ∀ (q1 q2 q3 : Int32) (q4 : Nat → E9) (a1 a2 a3 a4 a5 a6 a7 a8 : Int32) (c1 c2 c3 c4 c5 c6 : A1), bX11_book_129 940 B (nI C) (nI G) (nI D) gn pride speed payer dn cost keys 0 0 a1 a2 a3 a4 a5 a6 a7 a8 c1 c2 c3 c4 c5 c6 400 bh' at1' kd' nb' wd' ky' ta' 0 fa' q1 q2 q4 v1 v2 v3 v4 v5 v6 v7 v8 w1 w2 w3 w4 w5 w6 (nI l') 1 why' (nI lv) v5 v1 dd' ww' = some (x', 0, 0, a1, a2, a3, a4, a5, a6, a7, a8, c1, c2, c3, c4, c5, c6, 400, bh', at1', kd', nb', wd', ky', ta', 0, fa', q1, q2, q4, v1, v2, v3, v4, v5, v6, v7, v8, w1, w2, w3, w4, w5, w6, nI l', 1, why', nI lv, v5, v1, dd', ww') := by
        intro q1 q2 q3 q4 a1 a2 a3 a4 a5 a6 a7 a8 c1 c2 c3 c4 c5 c6
        unfold bX11_book_129
        rcases j9 with ⟨h1, h2⟩ | ⟨h1, h2⟩
        · rw [if_pos h1, h2]
        · rw [if_neg h1, h2]
      rw [x1, x2, z1, bind_eq, bind_eq, c2, j2]
      dsimp only
      rw [if_neg nn1]
      unfold fX1_copyFrom
      rw [bind_eq]
      dsimp only
      rw [eJ, bind_eq]
      dsimp only
      unfold bX12_book_181
      rw [nmv_eq, nmv_eq, t1]
      rcases hx01.1 with rfl | rfl
      · rw [if_neg (by decide), if_neg (by decide), b266_0 tp nm res _ _ _ _ _ _ _ _ _ _ _ _ _ _ _ _ _ _ (back_one z2 (fun i hi => j4 i hi)), e129 kept last 0 ah]
        exact ⟨_, _, _, _, _, _, _, _, _, _, _, _, _, _, _, _, _, _, _, _, _, _, _, _, _, _, _, _, _, _, _, _, _, _, _, _, _, _, _, _, _, _, _, _, _, _, _, _, _, _, _, _, _, _, _, _, _, _, _, _, _, _, _, _, _, _, _, _, _, _, _, rfl, rfl, hRT0, hF, hA, fun _ _ => rfl, hTd'⟩
      · rw [if_pos rfl, if_pos rfl]
        by_cases h0 : lv = 0
        · have es : s2 = s := j6 h0
          have hz : nI lv ≤ 0 := by rw [h0]; decide
          rw [if_pos hz, if_pos hz, b266_1, e129 kept last 0 ah]
          refine ⟨_, _, _, _, _, _, _, _, _, _, _, _, _, _, _, _, _, _, _, _, _, _, _, _, _, _, _, _, _, _, _, _, _, _, _, _, _, _, _, _, _, _, _, _, _, _, _, _, _, _, _, _, _, _, _, _, _, _, _, _, _, _, _, _, _, _, _, _, _, _, _, rfl, rfl, hRT0, ?_, hA, j4, hTd'⟩
          rw [es]
          exact hF
        · have hn0 : ¬ nI lv ≤ 0 := nI_nle (by omega) (by omega)
          obtain ⟨kept', last', k', ah', un', k1, k2, k3, k4, k5⟩ := sim_keep2 hG hF hA s2
          obtain ⟨un2, d1, d2, d3⟩ := book232 tp nm res (bX12_book_266 tp nm res) 0 0 (nI n) p' 400 tk' at2' sp' nb2' 0 fa2' wd2' got' (nI l') 1 s2 rd' bf1 (upd (upd ta2 2 (s2 44)) 3 (s2 63)) 1 x' k3 k4 48 0 5000 (by omega) (by omega) un'
          rw [show nI 0 = 0 from rfl] at d1
          rw [if_neg hn0, if_neg hn0, k1, k2, bind_eq, bind_eq]
          dsimp only
          rw [bind_eq]
          dsimp only
          rw [d1, e129 kept' last' 0 ah', b266_1]
          refine ⟨_, _, _, _, _, _, _, _, _, _, _, _, _, _, _, _, _, _, _, _, _, _, _, _, _, _, _, _, _, _, _, _, _, _, _, _, _, _, _, _, _, _, _, _, _, _, _, _, _, _, _, _, _, _, _, _, _, _, _, _, _, _, _, _, _, _, _, _, _, _, _, rfl, rfl, hRT0, ⟨j3.1, j3.2.1, RF_copy hG j3.2.2⟩, k5 un2 (fun i hi => ?_) (fun i hi => d3 i (by omega)), j4, hTd'⟩
          rw [d2 i (by omega) hi, z2 i hi]
    · rw [show nI 0 = 0 from rfl, show nI 400 = 400 from rfl] at x1 x2
      rw [x1, x2, bind_eq]
      dsimp only
      rw [if_pos rfl]
      exact ⟨_, _, _, _, _, _, _, _, _, _, _, _, _, _, _, _, _, _, _, _, _, _, _, _, _, _, _, _, _, _, _, _, _, _, _, _, _, _, _, _, _, _, _, _, _, _, _, _, _, _, _, _, _, _, _, _, _, _, _, _, _, _, _, _, _, _, _, _, _, _, _, rfl, rfl, hRT0, hF, hA, fun _ _ => rfl, hTd⟩
