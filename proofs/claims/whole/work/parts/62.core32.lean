/-! ===== pure: promise 4, hall ===== -/
theorem clears_loop : ∀ (m j n : Nat), j + m = 44 → m < n → ∀ h : A1, (∀ i, i < j → h i = 0) → ∃ h', lX12_clears_2 n h (nI j) = some h' ∧ h' 0 = 6 ∧ ∀ i, 0 < i → i < 44 → h' i = 0 := by
  intro m
  induction m with
  | zero =>
    intro j n hj hn h hh
    obtain ⟨n, rfl⟩ := sn hn
    have e : j = 44 := by omega
    subst e
    refine ⟨upd h 0 6, ?_, pk_us, fun i h1 h2 => by rw [pk_un (by omega)]; exact hh i h2⟩
    rw [lX12_clears_2, if_pos (by decide), nmv_eq]
  | succ m ih =>
    intro j n hj hn h hh
    obtain ⟨n, rfl⟩ := sn hn
    rw [lX12_clears_2, if_neg (show ¬ (44 : Int32) ≤ nI j from nI_ge (b := 44) (by omega) (by omega)), gI_ok (by omega) (by omega), nmv_eq, ix0 (by omega), nI_1]
    exact ih (j + 1) n (by omega) (by omega) _ (lt_s (fun i hi => by rw [pk_un (by omega)]; exact hh i hi) pk_us)
theorem hall80 (tp : A1) (res : Nat → Int64) (kk : Int32 → Int32 → Int32 → Int32 → Int32 → Int32 → Int32 → Int32 → Int32 → Int32 → Int32 → Int64 → Int32 → Int32 → Int32 → Int32 → A1 → A1 → (Nat → Int64) → Int32 → Option (Int32 × Int32 × Int32 × Int32 × Int32 × Int32 × Int32 × Int32 × Int32 × Int32 × Int32 × Int32 × Int64 × Int32 × Int32 × Int32 × Int32 × A1 × A1 × (Nat → Int64))) (th len sz p lim tk at_ sp nb ft fa : Int32) (wd : Int64) (got ln ct um : Int32) (h : A1) (nm : Nat → Int64) : ∀ (m j n : Nat), j + m = 273 → m < n → ∀ s : A1, (∀ i, i < j → s i = if i < 44 then h i else 0) → ∃ s', (∀ i, i < 273 → s' i = if i < 44 then h i else 0) ∧ lX12_hall_80 tp res kk n th len sz p lim tk at_ sp nb ft fa wd got ln ct um s h nm (nI j) = kk th len sz p lim tk at_ sp nb ft fa wd got ln ct um s' h nm 0 := by
  intro m
  induction m with
  | zero =>
    intro j n hj hn s hs
    obtain ⟨n, rfl⟩ := sn hn
    have e : j = 273 := by omega
    subst e
    exact ⟨s, hs, by rw [lX12_hall_80, if_pos (by decide)]⟩
  | succ m ih =>
    intro j n hj hn s hs
    obtain ⟨n, rfl⟩ := sn hn
    rw [lX12_hall_80, if_neg (show ¬ (273 : Int32) ≤ nI j from nI_ge (b := 273) (by omega) (by omega))]
    by_cases h44 : 44 ≤ j
    · rw [if_pos (show (44 : Int32) ≤ nI j from nI_le (a := 44) h44 (by omega)), gI_ok (by omega) (by omega), nmv_eq, ix0 (by omega), nI_1]
      exact ih (j + 1) n (by omega) (by omega) _ (lt_s (fun i hi => by rw [pk_un (by omega)]; exact hs i hi) (by rw [pk_us, if_neg (by omega)]))
    · rw [if_neg (show ¬ (44 : Int32) ≤ nI j from nI_ge (b := 44) (by omega) (by omega)), gI_ok (by omega) (by omega), nmv_eq, gI_ok (by omega) (by omega), nmv_eq, ix0 (by omega), nI_1]
      exact ih (j + 1) n (by omega) (by omega) _ (lt_s (fun i hi => by rw [pk_un (by omega)]; exact hs i hi) (by rw [pk_us, if_pos (by omega)]))
theorem hall117 (tp : A1) (res : Nat → Int64) (kk : Int32 → Int32 → Int32 → Int32 → Int32 → Int32 → Int32 → Int32 → Int32 → Int32 → Int32 → Int64 → Int32 → Int32 → Int32 → Int32 → A1 → A1 → (Nat → Int64) → Int32 → Option (Int32 × Int32 × Int32 × Int32 × Int32 × Int32 × Int32 × Int32 × Int32 × Int32 × Int32 × Int32 × Int64 × Int32 × Int32 × Int32 × Int32 × A1 × A1 × (Nat → Int64))) (th len sz p lim tk at_ sp nb ft fa : Int32) (wd : Int64) (got ln ct um : Int32) (s h : A1) (nm0 : Nat → Int64) : ∀ (m j n : Nat), j + m = 13 → m < n → ∀ nm : Nat → Int64, (∀ i, i < j → nm i = nm0 (13 + i)) → (∀ i, 13 ≤ i → nm i = nm0 i) → ∃ nm', (∀ i, i < 13 → nm' i = nm0 (13 + i)) ∧ lX12_hall_117 tp res kk n th len sz p lim tk at_ sp nb ft fa wd got ln ct um s h nm (nI j) = kk th len sz p lim tk at_ sp nb ft fa wd got ln ct um s h nm' 0 := by
  intro m
  induction m with
  | zero =>
    intro j n hj hn nm h1 h2
    obtain ⟨n, rfl⟩ := sn hn
    have e : j = 13 := by omega
    subst e
    exact ⟨nm, h1, by rw [lX12_hall_117, if_pos (by decide)]⟩
  | succ m ih =>
    intro j n hj hn nm h1 h2
    obtain ⟨n, rfl⟩ := sn hn
    rw [lX12_hall_117, if_neg (show ¬ (13 : Int32) ≤ nI j from nI_ge (b := 13) (by omega) (by omega)), show (13 : Int32) = nI 13 from rfl, gI_oka (by omega) (by omega), ixa (by omega), nmv_eq, gI_ok (by omega) (by omega), nmv_eq, ix0 (by omega), nI_1]
    refine ih (j + 1) n (by omega) (by omega) _ (fun i hi => ?_) (fun i hi => by rw [pk_uLn (by omega)]; exact h2 i hi)
    by_cases e : i = j
    · subst e
      rw [pk_uLs, h2 (13 + i) (by omega)]
    · rw [pk_uLn e]
      exact h1 i (by omega)
theorem hall146 (tp : A1) (res : Nat → Int64) (th len sz p lim tk at_ sp nb ft fa : Int32) (wd : Int64) (got ln ct um : Int32) (h : A1) (nm : Nat → Int64) : ∀ (m j n : Nat), j + m = 7 → m < n → ∀ s : A1, ∃ s', lX12_hall_146 tp res n th len sz p lim tk at_ sp nb ft fa wd got ln ct um s h nm (nI j) = some (ln, th, len, sz, p, lim, tk, at_, sp, nb, ft, fa, wd, got, ln, ct, 0, s', h, nm) ∧ (∀ i, j ≤ i → i < 7 → s' (49 + i) = s (3 + i) ∧ s' (56 + i) = s (24 + i)) ∧ ∀ i, (i < 49 + j ∨ (56 ≤ i ∧ i < 56 + j) ∨ 63 ≤ i) → s' i = s i := by
  intro m
  induction m with
  | zero =>
    intro j n hj hn s
    obtain ⟨n, rfl⟩ := sn hn
    have e : j = 7 := by omega
    subst e
    exact ⟨s, by rw [lX12_hall_146, if_pos (by decide)], fun i h1 h2 => absurd h1 (by omega), fun _ _ => rfl⟩
  | succ m ih =>
    intro j n hj hn s
    obtain ⟨n, rfl⟩ := sn hn
    obtain ⟨s', y1, y2, y3⟩ := ih (j + 1) n (by omega) (by omega) (upd (upd s (49 + j) (s (3 + j))) (56 + j) (s (24 + j)))
    refine ⟨s', ?_, fun i h1 h2 => ?_, fun i hi => ?_⟩
    · rw [lX12_hall_146, if_neg (show ¬ (7 : Int32) ≤ nI j from nI_ge (b := 7) (by omega) (by omega)), show (3 : Int32) = nI 3 from rfl, gI_oka (by omega) (by omega), ixa (by omega), nmv_eq, c49, gI_oka (by omega) (by omega), ixa (by omega), nmv_eq, show (24 : Int32) = nI 24 from rfl, gI_oka (by omega) (by omega), ixa (by omega), nmv_eq, c56, gI_oka (by omega) (by omega), ixa (by omega), nmv_eq, pk_un (show 24 + j ≠ 49 + j by omega), nI_1]
      exact y1
    · by_cases e : i = j
      · subst e
        constructor
        · rw [y3 _ (by omega), pk_un (by omega), pk_us]
        · rw [y3 _ (by omega), pk_us]
      · obtain ⟨z1, z2⟩ := y2 i (by omega) h2
        constructor
        · rw [z1, pk_un (by omega), pk_un (by omega)]
        · rw [z2, pk_un (by omega), pk_un (by omega)]
    · rw [y3 i (by omega), pk_un (by omega), pk_un (by omega)]
theorem begin_loop (hc hp : A1) (a1 a2 a3 a4 a5 a6 a7 a8 : Int32) : ∀ (m j n : Nat), j + m = 7 → m < n → ∀ (c1 c2 c3 c4 c5 c6 : A1), (∀ i, i < j → c1 i = hc i ∧ c2 i = hp i ∧ c3 i = 0 ∧ c4 i = 0 ∧ c5 i = 0 ∧ c6 i = 0) → ∃ (d1 d2 d3 d4 d5 d6 : A1), (∀ i, i < 7 → d1 i = hc i ∧ d2 i = hp i ∧ d3 i = 0 ∧ d4 i = 0 ∧ d5 i = 0 ∧ d6 i = 0) ∧ lX1_begin_2 hc hp n a1 a2 a3 a4 a5 a6 a7 a8 c1 c2 c3 c4 c5 c6 (nI j) = some (0, 0, 0, 0, 0, 0, -1, 0, d1, d2, d3, d4, d5, d6) := by
  intro m
  induction m with
  | zero =>
    intro j n hj hn c1 c2 c3 c4 c5 c6 hc
    obtain ⟨n, rfl⟩ := sn hn
    have e : j = 7 := by omega
    subst e
    exact ⟨c1, c2, c3, c4, c5, c6, hc, by rw [lX1_begin_2, if_pos (by decide)]⟩
  | succ m ih =>
    intro j n hj hn c1 c2 c3 c4 c5 c6 hc
    obtain ⟨n, rfl⟩ := sn hn
    simp only [lX1_begin_2, if_neg (show ¬ (7 : Int32) ≤ nI j from nI_ge (b := 7) (by omega) (by omega)), gI_ok (show j < 7 by omega) (show 7 ≤ 1000 by omega), nmv_eq, ix0 (show j < 1000 by omega), nI_1]
    refine ih (j + 1) n (by omega) (by omega) _ _ _ _ _ _ (fun i hi => ?_)
    by_cases e : i = j
    · subst e
      exact ⟨pk_us, pk_us, pk_us, pk_us, pk_us, pk_us⟩
    · rw [pk_un e, pk_un e, pk_un e, pk_un e, pk_un e, pk_un e]
      exact hc i (by omega)
theorem psum_0 {f : A1} : ∀ {n : Nat}, (∀ i, i < n → f i = 0) → psum f n = 0
  | 0, _ => rfl
  | n + 1, h => by
    rw [psum, psum_0 (fun i hi => h i (by omega)), h n (by omega)]
    rfl
/-- the HALL as it lies, both -/
def RHl (C G D : Nat) (ch gu di : Int32) (gn : Nat → Int64) (pr spd py : A1) (dn : Nat → Int64) (cs s : A1) (nm : Nat → Int64) : Prop := ch = nI C ∧ gu = nI G ∧ di = nI D ∧ RH C G D pr spd py cs s ∧ RNm G 0 gn nm ∧ RNm D 7 dn nm
/-- a HALL that was told becomes the one that is -/
theorem new_hall {C G D : Nat} {gn : Nat → Int64} {co pr spd pl py : A1} {dn : Nat → Int64} {cs h : A1} {nm nm' : Nat → Int64} (hP : PH C G D gn co pr spd pl py dn cs h nm) (hnm : ∀ i, i < 13 → nm' i = nm (13 + i)) {s0 s : A1} (h0 : ∀ i, i < 273 → s0 i = if i < 44 then h i else 0) (h1 : ∀ i, i < 7 → s (49 + i) = s0 (3 + i) ∧ s (56 + i) = s0 (24 + i)) (h2 : ∀ i, (i < 49 ∨ 63 ≤ i) → s i = s0 i) {d1 d2 d3 d4 d5 d6 : A1} {oc1 op1 : A1} {gn0 dn0 : Nat → Int64} {pr0 spd0 py0 cs0 : A1} (hd : ∀ i, i < 7 → d1 i = (va_cpy co oc1 0 0 7) i ∧ d2 i = (va_cpy pl op1 0 0 7) i ∧ d3 i = 0 ∧ d4 i = 0 ∧ d5 i = 0 ∧ d6 i = 0) :
    RHl C G D (nI C) (nI G) (nI D) (va_cpy gn gn0 0 0 7) (va_cpy pr pr0 0 0 7) (va_cpy spd spd0 0 0 7) (va_cpy py py0 0 0 7) (va_cpy dn dn0 0 0 6) (va_cpy cs cs0 0 0 6) s nm' ∧ RFp C G D 0 0 0 0 0 0 (-1) 0 d1 d2 d3 d4 d5 d6 s := by
  obtain ⟨⟨hC2, hC9, hG, hGC, hD⟩, ⟨e0, e1, e2⟩, p1, p2, p3, p4, n1, n2⟩ := id hP
  have lo : ∀ i, i < 44 → s i = h i := fun i hi => by rw [h2 i (by omega), h0 i (by omega), if_pos hi]
  have hi0 : ∀ i, 44 ≤ i → i < 273 → (i < 49 ∨ 63 ≤ i) → s i = 0 := fun i h3 h4 h5 => by rw [h2 i h5, h0 i h4, if_neg (by omega)]
  refine ⟨⟨rfl, rfl, rfl, ⟨⟨hC2, hC9, hG, hGC, hD⟩, ⟨by rw [lo 0 (by omega), e0], by rw [lo 1 (by omega), e1], by rw [lo 2 (by omega), e2]⟩, fun g hg => ?_, fun d hd => ?_⟩, fun g hg => ?_, fun d hd => ?_⟩, ⟨0, by omega, rfl⟩, by rw [show pop 0 = 0 by decide]; omega, ?_, ?_, ?_⟩
  · obtain ⟨-, ⟨a2, h3, h4, h5⟩, ⟨a3, h6, h7, h8⟩, -⟩ := p1 g hg
    rw [cpyG (by omega), cpyG (by omega), cpyG (by omega), lo (10 + g) (by omega), lo (17 + g) (by omega), lo (37 + g) (by omega)]
    refine ⟨by rw [h4, h5], by rw [h7, h8], ⟨a2, h3, h4⟩, ⟨a3, h6, h7⟩, ?_⟩
    rcases p2 g hg with ⟨h9, h10⟩ | ⟨q, h9, -, h10, h11⟩
    · exact ⟨g, hg, h9, Or.inl ⟨h10, rfl⟩⟩
    · exact ⟨q, h9, h10, Or.inr h11⟩
  · obtain ⟨k, h3, h4, h5, h6⟩ := p4 d hd
    rw [cpyG (by omega), lo (31 + d) (by omega)]
    exact ⟨by rw [h5, h6], k, h3, h4, h5⟩
  · obtain ⟨r, h3, h4, h5⟩ := n1 g hg
    exact ⟨r, h3, by rw [cpyG (by omega), h4], by rw [hnm _ (by omega), ← h5]; exact congrArg nm (by omega)⟩
  · obtain ⟨r, h3, h4, h5⟩ := n2 d hd
    exact ⟨r, h3, by rw [cpyG (by omega), h4], by rw [hnm _ (by omega), ← h5]; exact congrArg nm (by omega)⟩
  · refine ⟨⟨hi0 44 (by omega) (by omega) (by omega), hi0 45 (by omega) (by omega) (by omega), hi0 46 (by omega) (by omega) (by omega), hi0 47 (by omega) (by omega) (by omega), by rw [hi0 48 (by omega) (by omega) (by omega)]; rfl, hi0 63 (by omega) (by omega) (by omega)⟩, fun g hg => ?_⟩
    obtain ⟨⟨a1, h3, h4, h5⟩, -, -, ⟨a4, h6, h7, h8⟩⟩ := p1 g hg
    obtain ⟨b1, b2, b3, b4, b5, b6⟩ := hd g (by omega)
    obtain ⟨c1, c2⟩ := h1 g (by omega)
    rw [b1, b2, b3, b4, b5, b6, c1, c2, cpyG (by omega), cpyG (by omega), h0 (3 + g) (by omega), h0 (24 + g) (by omega), if_pos (by omega), if_pos (by omega), h4, h5, h7, h8]
    exact ⟨rfl, rfl, hi0 _ (by omega) (by omega) (by omega), hi0 _ (by omega) (by omega) (by omega), hi0 _ (by omega) (by omega) (by omega), hi0 _ (by omega) (by omega) (by omega)⟩
  · refine ⟨sm_0 G, sm_0 C, sm_0 D, sm_0 C, fun g hg => ?_, fun c hc => ?_, fun g g' _ _ hb => by rw [b_0] at hb; cases hb⟩
    · obtain ⟨-, -, -, ⟨a4, h6, h7, h8⟩⟩ := p1 g hg
      exact ⟨a4, h6, by rw [(hd g (by omega)).2.1, cpyG (by omega), h7]⟩
    · rw [b_0]
      constructor
      · intro h
        cases h
      · rintro ⟨g, -, h, -⟩
        rw [b_0] at h
        cases h
  · refine ⟨fun g hg => ?_, (psum_0 (fun i hi => (hd i (by omega)).2.2.2.2.2)).symm⟩
    obtain ⟨⟨a1, h3, h4, h5⟩, -, -, -⟩ := p1 g hg
    obtain ⟨b1, b2, b3, b4, b5, b6⟩ := hd g (by omega)
    exact ⟨⟨0, by omega, b3⟩, a1, 0, 0, by omega, by omega, by rw [b1, cpyG (by omega), h4], b6, b5⟩
/-- promise 4: hall -/
theorem T_hall {n nb : Nat} {tz len : Int32} {B tp : A1} (hT : RT n nb tz len B tp) {keys res : Nat → Int64} (hK : RKy keys res) (lf ch gu di : Int32) (gn : Nat → Int64) (co pr spd pl py : A1) (dn : Nat → Int64) (cs : A1) (sit tak ser hid rnd ovr hst pia : Int32) (coins chairOf tired hosted owed paid : A1) (ct ms bh at1 kd nbr : Int32) (wd : Int64) (ky ta ft fa tC tG tD : Int32) (tgn : Nat → Int64) (tco tpr tsp tpl tpy : A1) (tdn : Nat → Int64) (tcs : A1) (kept sl so : Int32) (th sz p lim tk at2 sp nb2 ft2 fa2 : Int32) (wd2 : Int64) (got ln ct2 um : Int32) (s h : A1) (nm : Nat → Int64) :
    ∃ (r f ch' gu' di' : Int32) (gn' : Nat → Int64) (co' pr' spd' pl' py' : A1) (dn' : Nat → Int64) (cs' : A1) (sit' tak' ser' hid' rnd' ovr' hst' pia' : Int32) (coins' chairOf' tired' hosted' owed' paid' : A1) (ct' ms' bh' at1' kd' nbr' : Int32) (wd' : Int64) (ky' ta' ft' fa' tC' tG' tD' : Int32) (tgn' : Nat → Int64) (tco' tpr' tsp' tpl' tpy' : A1) (tdn' : Nat → Int64) (tcs' : A1) (kept' sl' so' : Int32) (sz' p' lim' tk' at2' sp' nb2' fa2' : Int32) (wd2' : Int64) (got' ln' ct2' um' : Int32) (s' h' : A1) (nm' : Nat → Int64),
      fX11_hall nb B keys lf tz ch gu di gn co pr spd pl py dn cs sit tak ser hid rnd ovr hst pia coins chairOf tired hosted owed paid ct ms bh at1 kd nbr wd ky ta ft fa tC tG tD tgn tco tpr tsp tpl tpy tdn tcs kept sl so = some (r, f, 0, ch', gu', di', gn', co', pr', spd', pl', py', dn', cs', sit', tak', ser', hid', rnd', ovr', hst', pia', coins', chairOf', tired', hosted', owed', paid', ct', ms', bh', at1', kd', nbr', wd', ky', ta', ft', fa', tC', tG', tD', tgn', tco', tpr', tsp', tpl', tpy', tdn', tcs', kept', sl', so') ∧
      fX12_hall tp res th len sz p lim tk at2 sp nb2 ft2 fa2 wd2 got ln ct2 um s h nm = some (r, 0, 0, sz', p', lim', tk', at2', sp', nb2', f, fa2', wd2', got', ln', ct2', um', s', h', nm') ∧
      ((ch' = ch ∧ gu' = gu ∧ di' = di ∧ gn' = gn ∧ co' = co ∧ pr' = pr ∧ spd' = spd ∧ pl' = pl ∧ py' = py ∧ dn' = dn ∧ cs' = cs ∧ sit' = sit ∧ tak' = tak ∧ ser' = ser ∧ hid' = hid ∧ rnd' = rnd ∧ ovr' = ovr ∧ hst' = hst ∧ pia' = pia ∧ coins' = coins ∧ chairOf' = chairOf ∧ tired' = tired ∧ hosted' = hosted ∧ owed' = owed ∧ paid' = paid ∧ kept' = kept ∧ sl' = sl ∧ so' = so ∧ um' = um ∧ s' = s ∧ ∀ i, i < 13 → nm' i = nm i) ∨
       (∃ C G D, RHl C G D ch' gu' di' gn' pr' spd' py' dn' cs' s' nm' ∧ RFp C G D sit' tak' ser' hid' rnd' ovr' hst' pia' coins' chairOf' tired' hosted' owed' paid' s' ∧ kept' = 0 ∧ um' = 0 ∧ sl' = 0 ∧ so' = 0 ∧ s' 92 = 0)) := by
  obtain ⟨rfl, hn, rfl, rfl, hBt, hby⟩ := hT
  have hO : OneT B tp := ⟨hBt, hby⟩
  obtain ⟨h1, z1, z2, z3⟩ := clears_loop 44 0 5000 (by omega) (by omega) h (fun i h => absurd h (by omega))
  rw [show nI 0 = 0 from rfl] at z1
  obtain ⟨b1, bh1, at11, kd1, nb1, wd1, ky1, p1, tk1, at21, sp1, nb21, wd21, y1, y2, y3, y4⟩ := sim_step (lim := 900) (b := 0) hK hn (by omega) hO (by omega) at1 kd nbr wd ky tk at2 sp nb2 wd2
  rw [show nI 0 = 0 from rfl, show nI 900 = 900 from rfl] at y1 y2
  have eC : fX3_read 940 (nI n) B keys ct ms bh at1 kd nbr wd ky ta ft fa tC tG tD tgn tco tpr tsp tpl tpy tdn tcs = lX3_read_24 940 (nI n) B keys 5000 0 900 bh1 at11 kd1 nb1 wd1 ky1 ta 0 0 6 0 0 tgn tco tpr tsp tpl tpy tdn tcs 0 := by
    unfold fX3_read fX6_open fX2_clear
    rw [y1, bind_eq, bind_eq]
    dsimp only
    rw [bind_eq]
  have eM : fX12_hall tp res th (nI n) sz p lim tk at2 sp nb2 ft2 fa2 wd2 got ln ct2 um s h nm = lX12_hall_35 tp res (lX12_hall_80 tp res (lX12_hall_117 tp res (lX12_hall_146 tp res 5000) 5000) 5000) 5000 0 0 (nI n) p1 900 tk1 at21 sp1 nb21 0 fa2 wd21 got 0 0 um s h1 nm := by
    unfold fX12_hall fX12_taken fX12_clears
    rw [bind_eq]
    dsimp only
    rw [z1, bind_eq, y2, bind_eq]
  unfold fX11_hall
  rw [eC, eM]
  have hP0 : PH 6 0 0 tgn tco tpr tsp tpl tpy tdn tcs h1 nm := ⟨⟨by omega, by omega, by omega, by omega, by omega⟩, ⟨z2, z3 1 (by omega) (by omega), z3 2 (by omega) (by omega)⟩, fun g hg => absurd hg (by omega), fun g hg => absurd hg (by omega), fun g _ h2 => z3 _ (by omega) (by omega), fun d hd => absurd hd (by omega), fun g hg => absurd hg (by omega), fun g hg => absurd hg (by omega)⟩
  rcases hall_loop hK hn (show 900 ≤ 940 by omega) hO (lX12_hall_80 tp res (lX12_hall_117 tp res (lX12_hall_146 tp res 5000) 5000) 5000) 0 0 um s nm 942 5000 5000 b1 0 6 0 0 bh1 at11 kd1 nb1 wd1 ky1 p1 tk1 at21 sp1 nb21 wd21 0 ta 0 fa2 got tgn tco tpr tsp tpl tpy tdn tcs h1 nm (by omega) (by omega) (by omega) (by omega) y3 (Or.inl rfl) hP0 (fun _ _ => rfl) with ⟨l', C', G', D', ct', bh', at1', kd', nb', wd', ky', ta', fa', gn', co', pr', spd', pl', py', dn', cs', p', tk', at2', sp', nb2', fa2', wd2', got', h', nm', hP, hl', hnm, x1, x2⟩ | ⟨k, f, ct', bh', at1', kd', nb', wd', ky', ta', C', G', D', gn', co', pr', spd', pl', py', dn', cs', p', tk', at2', sp', nb2', wd2', got', ln', ct2', h', nm', hk, hnm, x1, x2⟩
  · rw [show nI 0 = 0 from rfl, show nI 900 = 900 from rfl] at x1 x2
    rw [show nI 6 = 6 from rfl] at x1
    rw [x1, x2, bind_eq]
    dsimp only
    rw [if_neg (neg_nI l' (by omega))]
    unfold fX2_copyFrom fX1_begin fX7_clear
    obtain ⟨s1, u1, u2⟩ := hall80 tp res (lX12_hall_117 tp res (lX12_hall_146 tp res 5000) 5000) 0 0 (nI n) p' 900 tk' at2' sp' nb2' 0 fa2' wd2' got' (nI l') ct' um h' nm' 273 0 5000 (by omega) (by omega) s (fun i h => absurd h (by omega))
    obtain ⟨nm2, v1, v2⟩ := hall117 tp res (lX12_hall_146 tp res 5000) 0 0 (nI n) p' 900 tk' at2' sp' nb2' 0 fa2' wd2' got' (nI l') ct' um s1 h' nm' 13 0 5000 (by omega) (by omega) nm' (fun i h => absurd h (by omega)) (fun _ _ => rfl)
    obtain ⟨s2, w1, w2, w3⟩ := hall146 tp res 0 0 (nI n) p' 900 tk' at2' sp' nb2' 0 fa2' wd2' got' (nI l') ct' um h' nm2 7 0 5000 (by omega) (by omega) s1
    obtain ⟨d1, d2, d3, d4, d5, d6, g1, g2⟩ := begin_loop (va_cpy co' co 0 0 7) (va_cpy pl' pl 0 0 7) sit tak ser hid rnd ovr hst pia 7 0 5000 (by omega) (by omega) coins chairOf tired hosted owed paid (fun i h => absurd h (by omega))
    rw [show nI 0 = 0 from rfl] at u2 v2 w1 g2
    rw [u2, v2, w1]
    rw [bind_eq]
    dsimp only
    rw [g2, bind_eq, bind_eq]
    obtain ⟨q1, q2⟩ := new_hall hP v1 u1 (fun i hi => w2 i (by omega) hi) (fun i hi => w3 i (by omega)) g1 (gn0 := gn) (dn0 := dn) (pr0 := pr) (spd0 := spd) (py0 := py) (cs0 := cs)
    exact ⟨_, _, _, _, _, _, _, _, _, _, _, _, _, _, _, _, _, _, _, _, _, _, _, _, _, _, _, _, _, _, _, _, _, _, _, _, _, _, _, _, _, _, _, _, _, _, _, _, _, _, _, _, _, _, _, _, _, _, _, _, _, _, _, _, _, _, _, _, rfl, rfl, Or.inr ⟨C', G', D', q1, q2, rfl, rfl, rfl, rfl, by rw [w3 92 (by omega), u1 92 (by omega), if_neg (by omega)]⟩⟩
  · rw [show nI 0 = 0 from rfl, show nI 900 = 900 from rfl] at x1 x2
    rw [show nI 6 = 6 from rfl] at x1
    rw [x1, x2, bind_eq]
    dsimp only
    rw [if_pos rfl]
    exact ⟨_, _, _, _, _, _, _, _, _, _, _, _, _, _, _, _, _, _, _, _, _, _, _, _, _, _, _, _, _, _, _, _, _, _, _, _, _, _, _, _, _, _, _, _, _, _, _, _, _, _, _, _, _, _, _, _, _, _, _, _, _, _, _, _, _, _, _, _, rfl, rfl, Or.inl ⟨rfl, rfl, rfl, rfl, rfl, rfl, rfl, rfl, rfl, rfl, rfl, rfl, rfl, rfl, rfl, rfl, rfl, rfl, rfl, rfl, rfl, rfl, rfl, rfl, rfl, rfl, rfl, rfl, rfl, rfl, hnm⟩⟩
