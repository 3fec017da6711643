/-! ===== pure: promise 37: book ===== -/
theorem book232 (tp : A1) (nm res : Nat → Int64) (kk : KB) (th len sz p lim tk at_ sp nb ft fa : Int32) (wd : Int64) (got tm ht : Int32) (s rd bf ta : A1) (x x2 : Int32) {k : Nat} (hk : 1 ≤ k) (hk8 : k ≤ 8) : ∀ (m j n : Nat), j + m = 48 → m < n → ∀ un : A1, ∃ un', lX12_book_232 tp nm res kk n th len sz p lim tk at_ sp nb ft fa wd got (nI k) tm ht s rd un bf ta x x2 (nI j) = kk th len sz p lim tk at_ sp nb ft fa wd got (nI k) tm ht s rd un' bf ta x x2 ∧ (∀ i, j ≤ i → i < 48 → un' (48 * (k - 1) + i) = bf i) ∧ ∀ i, i < 48 * (k - 1) + j → un' i = un i := by
  intro m
  induction m with
  | zero =>
    intro j n hj hn un
    obtain ⟨n, rfl⟩ := sn hn
    have e : j = 48 := by omega
    subst e
    refine ⟨un, ?_, fun i h1 h2 => absurd h1 (by omega), fun _ _ => rfl⟩
    rw [lX12_book_232, if_pos (by decide)]
  | succ m ih =>
    intro j n hj hn un
    obtain ⟨n, rfl⟩ := sn hn
    obtain ⟨un', h1, h2, h3⟩ := ih (j + 1) n (by omega) (by omega) (upd un (48 * (k - 1) + j) (bf j))
    have h48 : ¬ (48 : Int32) ≤ nI j := nI_ge (b := 48) (by omega) (by omega)
    have e1 : nI k - 1 = nI (k - 1) := pk_sub (b := 1) (by omega)
    have e48 : (48 : Int32) * nI (k - 1) = nI (48 * (k - 1)) := pk_mul 48 (k - 1)
    refine ⟨un', ?_, ?_, ?_⟩
    · rw [lX12_book_232, if_neg h48, gI_ok (show j < 48 by omega) (by omega), nmv_eq, e1, e48, gI_oka (show 48 * (k - 1) + j < 384 by omega) (by omega), nmv_eq, ixa (by omega), ix0 (by omega), nI_1]
      exact h1
    · intro i hi1 hi2
      by_cases e : i = j
      · subst e
        rw [h3 _ (by omega), pk_us]
      · exact h2 i (by omega) hi2
    · intro i hi
      rw [h3 i (by omega), pk_un (by omega)]
/-- an act is kept, both; what the reference keeps is put there behind it -/
theorem sim_keep2 {C G D : Nat} {sit tak ser hid rnd ovr hst pia : Int32} {coins chairOf tired hosted owed paid s : A1} (hG : G ≤ 7) (hF : RFp C G D sit tak ser hid rnd ovr hst pia coins chairOf tired hosted owed paid s) {kept last um : Int32} {ah : Nat → E9} {un : A1} (hA : RA C G D kept last um ah un) (s1 : A1) :
    ∃ (kept' last' : Int32) (k' : Nat) (ah' : Nat → E9) (un' : A1), fX0_keep sit tak ser hid rnd ovr hst pia coins chairOf tired hosted owed paid kept last ah = some (kept', last', ah') ∧ fX12_keep s1 um un = some (nI k', un') ∧ 1 ≤ k' ∧ k' ≤ 8 ∧ ∀ un2 : A1, (∀ i, i < 48 → un2 (48 * (k' - 1) + i) = s (44 + i)) → (∀ i, i < 48 * (k' - 1) → un2 i = un' i) → RA C G D kept' last' (nI k') ah' un2 := by
  obtain ⟨k, l, hk, hl, rfl, rfl, rfl, hr⟩ := hA
  have hC := keepC sit tak ser hid rnd ovr hst pia coins chairOf tired hosted owed paid (nI k) ah hl
  have newest : ∀ (q : Nat) (un' : A1), (∀ i, i < 48 → un' (48 * q + i) = s (44 + i)) → RFe C G D (cpyE sit tak ser hid rnd ovr hst pia coins chairOf tired hosted owed paid (ah ((l + 1) % 8))) (fun i => un' (48 * q + (i - 44))) := fun q un' h =>
    RFe_cs hG (RFe_cpy hG _ hF) (fun i h1 h2 => by rw [h (i - 44) (by omega), show 44 + (i - 44) = i by omega])
  by_cases h8 : k = 8
  · subst h8
    obtain ⟨un1, z1, z2, -⟩ := keep11 (s := s1) (lX12_keep_47 s1 5000) (nI 8) 336 0 5000 (by omega) (by omega) un
    obtain ⟨un2, y1, y2, y3⟩ := keep47 (s := s1) (k := 7) (by omega) 48 0 5000 (by omega) (by omega) un1
    rw [show nI 0 = 0 from rfl] at z1 y1
    rw [if_neg (show ¬ nI 8 + 1 < 8 by decide)] at hC
    refine ⟨_, _, 8, _, _, hC, by unfold fX12_keep; rw [if_pos (show nI 8 = 8 from rfl), z1]; exact y1, by omega, by omega, fun un3 v1 v2 => ⟨8, (l + 1) % 8, by omega, by omega, rfl, rfl, rfl, ?_⟩⟩
    intro j hj
    by_cases h0 : j = 0
    · subst h0
      rw [show ((l + 1) % 8 + 8 - 0) % 8 = (l + 1) % 8 by omega, updE_s]
      exact newest 7 un3 (fun i hi => v1 i hi)
    · rw [show ((l + 1) % 8 + 8 - j) % 8 = (l + 8 - (j - 1)) % 8 by omega, updE_n (by omega)]
      refine RFe_cs hG (hr (j - 1) (by omega)) (fun i h1 h2 => ?_)
      rw [v2 _ (by omega), y3 _ (by omega), z2 _ (by omega) (by omega)]
      exact congrArg un (by omega)
  · obtain ⟨un2, y1, y2, y3⟩ := keep47 (s := s1) (k := k) (by omega) 48 0 5000 (by omega) (by omega) un
    rw [show nI 0 = 0 from rfl] at y1
    have e : (if nI k + 1 < 8 then nI k + 1 else 8) = nI (k + 1) := by
      rw [nI_1]
      by_cases h : k + 1 < 8
      · rw [if_pos (show nI (k + 1) < 8 from nI_lt (b := 8) h (by omega))]
      · have e : k = 7 := by omega
        subst e
        rfl
    rw [e] at hC
    refine ⟨_, _, k + 1, _, _, hC, by unfold fX12_keep; rw [if_neg (show ¬ nI k = 8 from fun e => h8 ((nI_eq (b := 8) (by omega) (by omega)).mp e))]; exact y1, by omega, by omega, fun un3 v1 v2 => ⟨k + 1, (l + 1) % 8, by omega, by omega, rfl, rfl, rfl, ?_⟩⟩
    intro j hj
    by_cases h0 : j = 0
    · subst h0
      rw [show ((l + 1) % 8 + 8 - 0) % 8 = (l + 1) % 8 by omega, updE_s]
      exact newest k un3 (fun i hi => v1 i hi)
    · rw [show ((l + 1) % 8 + 8 - j) % 8 = (l + 8 - (j - 1)) % 8 by omega, updE_n (by omega)]
      refine RFe_cs hG (hr (j - 1) (by omega)) (fun i h1 h2 => ?_)
      rw [v2 _ (by omega), y3 _ (by omega)]
      exact congrArg un (by omega)
theorem in01 (x : Int32) : (x = 0 ∧ fX12_isIn x 0 1 = some 1) ∨ (x = 1 ∧ fX12_isIn x 0 1 = some 1) ∨ (fX12_isIn x 0 1 = some 0 ∧ (x < 0 ∨ ¬ x ≤ 1)) := by
  rcases in_eq (N := 2) (by omega) x with ⟨g, h1, h2, h3, h4, h5⟩ | ⟨h3, h4⟩
  · have : g = 0 ∨ g = 1 := by omega
    rcases this with rfl | rfl
    · exact Or.inl ⟨h2, h3⟩
    · exact Or.inr (Or.inl ⟨h2, h3⟩)
  · refine Or.inr (Or.inr ⟨h3, ?_⟩)
    rcases h4 with h4 | h4
    · exact Or.inl h4
    · refine Or.inr (fun h => ?_)
      rw [fa_le] at h h4
      have e1 : (nI 2).toInt = 2 := by decide
      have e2 : (1 : Int32).toInt = 1 := by decide
      omega
theorem back_one {s bf : A1} (h : ∀ i, i < 48 → bf i = s (44 + i)) {s' : A1} (h2 : ∀ i, (i < 44 ∨ 92 ≤ i) → s' i = s i) : fX12_back bf s' = some s := back_eq h h2
theorem b266_1 (tp : A1) (nm res : Nat → Int64) (th len sz p lim tk at_ sp nb ft fa : Int32) (wd : Int64) (got um tm ht : Int32) (s rd un bf ta : A1) (x2 : Int32) : bX12_book_266 tp nm res th len sz p lim tk at_ sp nb ft fa wd got um tm ht s rd un bf ta 1 x2 = some (x2, th, len, sz, p, lim, tk, at_, sp, nb, ft, fa, wd, got, um, tm, ht, s, rd, un, bf, ta) := by
  unfold bX12_book_266
  rw [if_neg nn1]
theorem b266_0 (tp : A1) (nm res : Nat → Int64) (th len sz p lim tk at_ sp nb ft fa : Int32) (wd : Int64) (got um tm ht : Int32) {s s' : A1} (rd un : A1) {bf : A1} (hs : fX12_back bf s = some s') (ta : A1) (x2 : Int32) : bX12_book_266 tp nm res th len sz p lim tk at_ sp nb ft fa wd got um tm ht s rd un bf ta 0 x2 = some (x2, th, len, sz, p, lim, tk, at_, sp, nb, ft, fa, wd, got, um, tm, ht, s', rd, un, bf, ta) := by
  unfold bX12_book_266
  rw [if_pos rfl, hs, bind_eq]
/-- promise 37: book -/
theorem T_book {C G D : Nat} {pride speed payer cost s : A1} (hH : RH C G D pride speed payer cost s) {sit tak ser hid rnd ovr hst pia : Int32} {coins chairOf tired hosted owed paid : A1} (hF : RFp C G D sit tak ser hid rnd ovr hst pia coins chairOf tired hosted owed paid s) {kept last um : Int32} {ah : Nat → E9} {un : A1} (hA : RA C G D kept last um ah un) {n nb : Nat} {tz len : Int32} {B tp : A1} (hT : RT n nb tz len B tp) {keys res : Nat → Int64} (hK : RKy keys res) {gn dn nm : Nat → Int64} (hN1 : RNm G 0 gn nm) (hN2 : RNm D 7 dn nm) {jd why liv rth sth ht : Int32} {tat : A1} (hTd : RTd jd why liv rth sth ht tat) (lf ms bh at1 kd nbr : Int32) (wd : Int64) (ky ta ft fa : Int32) (t1 t2 t3 t4 t5 t6 t7 t8 : Int32) (u1 u2 u3 u4 u5 u6 : A1) (ln : Int32) (dd ww : A1) (th sz p lim tk at2 sp nb2 fa2 : Int32) (wd2 : Int64) (got tm : Int32) (rd bf : A1) (x : Int32) :
    ∃ (r lf' tz' sit' tak' ser' hid' rnd' ovr' hst' pia' : Int32) (coins' chairOf' tired' hosted' owed' paid' : A1) (ms' bh' at1' kd' nbr' : Int32) (wd' : Int64) (ky' ta' ft' fa' kept' last' : Int32) (ah' : Nat → E9) (t1' t2' t3' t4' t5' t6' t7' t8' : Int32) (u1' u2' u3' u4' u5' u6' : A1) (ln' jd' why' liv' rth' sth' : Int32) (dd' ww' : A1) (len' sz' p' lim' tk' at2' sp' nb2' fa2' : Int32) (wd2' : Int64) (got' um' tm' ht' : Int32) (s' rd' un' bf' tat' : A1),
      fX11_book nb B (nI C) (nI G) (nI D) gn pride speed payer dn cost keys lf tz sit tak ser hid rnd ovr hst pia coins chairOf tired hosted owed paid ms bh at1 kd nbr wd ky ta ft fa kept last ah t1 t2 t3 t4 t5 t6 t7 t8 u1 u2 u3 u4 u5 u6 ln jd why liv rth sth dd ww x = some (r, lf', tz', sit', tak', ser', hid', rnd', ovr', hst', pia', coins', chairOf', tired', hosted', owed', paid', ms', bh', at1', kd', nbr', wd', ky', ta', ft', fa', kept', last', ah', t1', t2', t3', t4', t5', t6', t7', t8', u1', u2', u3', u4', u5', u6', ln', jd', why', liv', rth', sth', dd', ww') ∧
      fX12_book tp nm res th len sz p lim tk at2 sp nb2 lf fa2 wd2 got um tm ht s rd un bf tat x = some (r, 0, len', sz', p', lim', tk', at2', sp', nb2', lf', fa2', wd2', got', um', tm', ht', s', rd', un', bf', tat') ∧
      (∃ n', RT n' nb tz' len' B tp) ∧ RFp C G D sit' tak' ser' hid' rnd' ovr' hst' pia' coins' chairOf' tired' hosted' owed' paid' s' ∧ RA C G D kept' last' um' ah' un' ∧ (∀ i, (i < 44 ∨ 92 ≤ i) → s' i = s i) ∧ RTd jd' why' liv' rth' sth' ht' tat' := sorry


































































































