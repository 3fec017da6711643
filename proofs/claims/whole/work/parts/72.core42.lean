/-! ===== pure: promise 39: sentence ===== -/
/-- the SENTENCE that holds, both -/
def RSy (G : Nat) (sl : Int32) (st sg va s : A1) : Prop := ∃ L, L ≤ 39 ∧ sl = nI L ∧ s 92 = nI L ∧ (L = 0 ∨ hg st L = 1) ∧ WFs st L ∧ ∀ i, i < L → CRel G (st i) (sg i) (va i) (s (93 + 3 * i)) (s (93 + 3 * i + 1)) (s (93 + 3 * i + 2))
theorem sent145 (tp : A1) (nm res : Nat → Int64) (th len sz p lim tk at_ sp nb ft fa : Int32) (wd : Int64) (got o t dp w : Int32) (rd stk : A1) {c : Nat} (hc : c ≤ 39) : ∀ (m j n : Nat), j + m = 3 * c → m < n → ∀ s : A1, ∃ s', lX12_sentence_145 tp nm res n th len sz p lim tk at_ sp nb ft fa wd got (nI c) o t dp w s rd stk (nI j) = some (o, th, len, sz, p, lim, tk, at_, sp, nb, ft, fa, wd, got, nI c, o, t, dp, w, s', rd, stk) ∧ (∀ i, j ≤ i → i < 3 * c → s' (93 + i) = rd i) ∧ ∀ i, i < 93 + j → s' i = s i := by
  have e3 : (3 : Int32) * nI c = nI (3 * c) := pk_mul 3 c
  intro m
  induction m with
  | zero =>
    intro j n hj hn s
    obtain ⟨n, rfl⟩ := sn hn
    refine ⟨s, ?_, fun i h1 h2 => absurd h1 (by omega), fun i _ => rfl⟩
    rw [lX12_sentence_145, e3, if_pos (nI_le (by omega) (by omega))]
  | succ m ih =>
    intro j n hj hn s
    obtain ⟨n, rfl⟩ := sn hn
    have e93 : (93 : Int32) + nI j = nI (93 + j) := nI_add 93 j
    obtain ⟨s', y1, y2, y3⟩ := ih (j + 1) n (by omega) (by omega) (upd s (93 + j) (rd j))
    refine ⟨s', ?_, fun i h1 h2 => ?_, fun i hi => ?_⟩
    · rw [lX12_sentence_145, e3, if_neg (nI_ge (by omega) (by omega)), gI_ok (show j < 135 by omega) (by omega), nmv_eq, e93, gI_ok (show 93 + j < 273 by omega) (by omega), nmv_eq, ix0 (show j < 1000 by omega), ix0 (show 93 + j < 1000 by omega), nI_1]
      exact y1
    · by_cases e : i = j
      · subst e
        rw [y3 (93 + i) (by omega), pk_us]
      · exact y2 i (by omega) h2
    · rw [y3 i (by omega), pk_un (by omega)]
theorem SI0_0 (G : Nat) (st sg va rd : A1) : SI0 G 0 0 0 st sg va rd := ⟨⟨by omega, by omega, Nat.le_refl 0, by omega⟩, fun i hi => absurd hi (by omega), fun i hi => absurd hi (by omega)⟩
/-- promise 39: sentence -/
theorem T_sentence {C G D : Nat} {pride speed payer cost s : A1} (hH : RH C G D pride speed payer cost s) {n nb : Nat} {tz len : Int32} {B tp : A1} (hT : RT n nb tz len B tp) {keys res : Nat → Int64} (hK : RKy keys res) {gn dn nm : Nat → Int64} (hN1 : RNm G 0 gn nm) (hN2 : RNm D 7 dn nm) {sl : Int32} {st sg va : A1} (hY : RSy G sl st sg va s) (lf ms bh at1 kd nbr : Int32) (wd : Int64) (ky ta ft fa so tl to : Int32) (tst tsg tva : A1) (th sz p lim tk at2 sp nb2 fa2 : Int32) (wd2 : Int64) (got cd on top dp wh : Int32) (rd stk : A1) :
    ∃ (r lf' tz' ms' bh' at1' kd' nbr' : Int32) (wd' : Int64) (ky' ta' ft' fa' sl' so' : Int32) (st' sg' va' : A1) (tl' to' : Int32) (tst' tsg' tva' : A1) (len' sz' p' lim' tk' at2' sp' nb2' fa2' : Int32) (wd2' : Int64) (got' cd' on' top' dp' wh' : Int32) (s' rd' stk' : A1),
      fX11_sentence nb B (nI G) gn keys lf tz ms bh at1 kd nbr wd ky ta ft fa sl so st sg va tl to tst tsg tva = some (r, lf', tz', ms', bh', at1', kd', nbr', wd', ky', ta', ft', fa', sl', so', st', sg', va', tl', to', tst', tsg', tva') ∧
      fX12_sentence tp nm res th len sz p lim tk at2 sp nb2 lf fa2 wd2 got cd on top dp wh s rd stk = some (r, 0, len', sz', p', lim', tk', at2', sp', nb2', lf', fa2', wd2', got', cd', on', top', dp', wh', s', rd', stk') ∧
      (∃ n', RT n' nb tz' len' B tp) ∧ RSy G sl' st' sg' va' s' ∧ ∀ i, i < 92 → s' i = s i := by
  obtain ⟨⟨hC2, hC9, hG, hGC, hD⟩, ⟨e0, e1, e2⟩, -, -⟩ := id hH
  obtain ⟨hnb, hn, htz, hlen, hBt, hby⟩ := id hT
  have hO : OneT B tp := ⟨hBt, hby⟩
  subst hnb htz hlen
  have hRT0 : ∃ n', RT n' 940 0 0 B tp := ⟨0, rfl, by omega, rfl, rfl, hBt, hby⟩
  obtain ⟨b1, bh1, at11, kd1, nb1, wd1, ky1, p1, tk1, at21, sp1, nb21, wd21, y1, y2, y3, y4⟩ := sim_step (lim := 200) (b := 0) hK hn (by omega) hO (by omega) at1 kd nbr wd ky tk at2 sp nb2 wd2
  have hRN : RN2 G D gn dn s nm := ⟨⟨hG, hD⟩, ⟨e1, e2⟩, hN1, hN2⟩
  have hS0 := SI0_0 G tst tsg tva rd
  have hX := (sent_all hK hn (show 200 ≤ 940 by omega) hO hRN (lX12_sentence_145 tp nm res 5000) 0 0 0 fa2 12 1 (by omega) (by omega)).2 5000 b1 0 0 0 bh1 at11 kd1 nb1 wd1 ky1 ta p1 tk1 at21 sp1 nb21 wd21 got tst tsg tva rd stk y3 (by omega) hS0 (Or.inl rfl)
  rw [show nI 0 = 0 from rfl, show nI 200 = 200 from rfl] at y1 y2
  rw [show nI 0 = 0 from rfl, show nI 200 = 200 from rfl, show nI 1 = 1 from rfl] at hX
  unfold fX11_sentence fX12_sentence fX8_read fX6_open fX7_clear fX12_taken fX8_readCond fX8_readAll
  rw [y1]
  simp only [bind_eq]
  rw [y2]
  simp only [bind_eq]
  rcases hX with ⟨n2', b', bh', at1', kd', nb', wd', ky', ta', p', tk', at2', sp', nb2', wd2', got', L', o', c', po, pa, k, st', sg', va', rd', stk', r1, r2, r3, r4, r5, r6⟩ | ⟨q, f, bh', at1', kd', nb', wd', ky', ta', L', o', st', sg', va', p', tk', at2', sp', nb2', wd2', got', c', o2', t', dp', w', rd', stk', r0, r1, r2⟩
  · rw [r1, bind_eq, r2]
    dsimp only
    rw [if_neg nn1]
    obtain ⟨m1, m2, m3, m4⟩ := PO_num hS0 r6
    obtain ⟨q1, q2, f1, f2, f3⟩ := fl_or (w := 1) hS0 r6 (by omega) (Or.inl rfl)
    obtain ⟨hb', rfl, rfl, ⟨a', ha', rfl, rfl⟩, hT'⟩ := id r3
    have hph := phi_le (kd := kd') hn hb'
    rcases tok_end hT' with ⟨j1, j2⟩ | ⟨j1, j2⟩
    · obtain ⟨n2', rfl⟩ : ∃ z, n2' = z + 2 := ⟨n2' - 2, by omega⟩
      rw [if_pos j1, bind_eq]
      dsimp only
      rw [if_neg nn1]
      unfold fX7_copyFrom
      rw [bind_eq]
      dsimp only
      rw [LS_fin _ _ _ _ _ _ _ _ _ _ _ _ _ _ _ _ _ _ _ _ _ _ _ _ _ j2 f1 f2 (by decide)]
      obtain ⟨s', z1, z2, z3⟩ := sent145 tp nm res 0 0 (nI n) (nI b') (nI 200) tk' (nI a') sp' nb2' 0 fa2 wd2' got' (nI o') (nI 0) (nI 1) 1 q2 stk' m2 (3 * L') 0 5000 (by omega) (by omega) (upd s 92 (nI L'))
      rw [show nI 0 = 0 from rfl] at z1
      rw [show nI 0 = 0 from rfl, z1]
      have hcp : ∀ (f g : A1) (i : Nat), i < L' → va_cpy f g 0 0 40 i = f i := fun f g i hi => cpyG (by omega)
      refine ⟨_, _, _, _, _, _, _, _, _, _, _, _, _, _, _, _, _, _, _, _, _, _, _, _, _, _, _, _, _, _, _, _, _, _, _, _, _, _, _, _, _, _, rfl, rfl, hRT0, ⟨L', m2, rfl, ?_, Or.inr ?_, ?_, fun i hi => ?_⟩, fun i hi => ?_⟩
      · rw [z3 92 (by omega), pk_us]
      · rw [hg_congr (hcp st' st)]
        exact r6.2.2.1.1
      · exact WFs_congr (hcp st' st) r6.2.2.1.2
      · rw [hcp _ _ i hi, hcp _ _ i hi, hcp _ _ i hi, z2 (3 * i) (by omega) (by omega), show 93 + 3 * i + 1 = 93 + (3 * i + 1) by omega, show 93 + 3 * i + 2 = 93 + (3 * i + 2) by omega, z2 (3 * i + 1) (by omega) (by omega), z2 (3 * i + 2) (by omega) (by omega)]
        exact f3 i hi
      · rw [z3 i (by omega), pk_un (by omega)]
    · obtain ⟨n2', rfl⟩ := sn (show 0 < n2' by omega)
      rw [if_neg j1, refuse0, bind_eq]
      dsimp only
      rw [if_pos rfl, bind_eq]
      dsimp only
      rw [if_pos rfl, LS_bh0 _ _ _ _ _ _ _ _ _ _ _ _ _ _ _ _ _ _ _ _ _ _ _ _ _ j2 (bh_bad hT' r5.1 r5.2 (Or.inr rfl) f1 f2)]
      exact ⟨_, _, _, _, _, _, _, _, _, _, _, _, _, _, _, _, _, _, _, _, _, _, _, _, _, _, _, _, _, _, _, _, _, _, _, _, _, _, _, _, _, _, rfl, rfl, hRT0, hY, fun i _ => rfl⟩
  · rw [r1, bind_eq, r2]
    dsimp only
    rw [if_pos rfl, bind_eq]
    dsimp only
    rw [if_pos rfl]
    exact ⟨_, _, _, _, _, _, _, _, _, _, _, _, _, _, _, _, _, _, _, _, _, _, _, _, _, _, _, _, _, _, _, _, _, _, _, _, _, _, _, _, _, _, rfl, rfl, hRT0, hY, fun i _ => rfl⟩
