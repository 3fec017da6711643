/-! ===== pure: a round, rising ===== -/
theorem RF_rnd {C G D : Nat} {sit tak ser hid rnd ovr hst pia : Int32} {coins chairOf tired hosted owed paid s : A1} (hG : G ≤ 7) (hF : RF C G D sit tak ser hid rnd ovr hst pia coins chairOf tired hosted owed paid s) (x : Int32) : RF C G D sit tak ser hid x ovr hst pia coins chairOf tired hosted owed paid (upd s 44 x) := by
  obtain ⟨⟨⟨e44, e45, e46, e47, e48, e63⟩, eg⟩, hS, hM⟩ := hF
  refine ⟨⟨⟨pk_us, ?_, ?_, ?_, ?_, ?_⟩, ?_⟩, hS, hM⟩
  · rw [pk_un (by omega), e45]
  · rw [pk_un (by omega), e46]
  · rw [pk_un (by omega), e47]
  · rw [pk_un (by omega), e48]
  · rw [pk_un (by omega), e63]
  · intro i hi
    rw [pk_un (by omega), pk_un (by omega), pk_un (by omega), pk_un (by omega), pk_un (by omega), pk_un (by omega)]
    exact eg i hi
theorem sim_round {C G D : Nat} {pride speed payer cost s : A1} (hH : RH C G D pride speed payer cost s) {sit tak ser hid rnd ovr hst pia : Int32} {coins chairOf tired hosted owed paid : A1} (hF : RF C G D sit tak ser hid rnd ovr hst pia coins chairOf tired hosted owed paid s) (lin : Int32) :
    ∃ (r sit' tak' ser' ovr' hst' pia' : Int32) (coins' chairOf' tired' hosted' owed' paid' s' : A1),
      fX1_goRound hid (nI C) (nI G) (nI D) pride speed payer cost sit tak ser rnd ovr hst pia coins chairOf tired hosted owed paid lin = some (r, sit', tak', ser', rnd + 1, ovr', hst', pia', coins', chairOf', tired', hosted', owed', paid') ∧
      fX12_round s lin = some (r, s') ∧ RF C G D sit' tak' ser' hid (rnd + 1) ovr' hst' pia' coins' chairOf' tired' hosted' owed' paid' s' ∧ (∀ i, (i < 44 ∨ 92 ≤ i) → s' i = s i) ∧ ((r = 0 ∧ ovr' = ovr) ∨ (r = 1 ∧ ovr' = ovr + 1)) := by
  obtain ⟨r, a1, a2, a3, a4, a5, a6, a7, a8, a9, a10, a11, a12, s', q1, q2, q3, q4, q5⟩ := round_loop (rnd1 := rnd + 1) (lin := lin) (b := ovr) G 0 5000 5000 (by omega) (by have := hH.1; omega) (by have := hH.1; omega) 0 sit tak ser ovr hst pia coins chairOf tired hosted owed paid s hH hF (Or.inl ⟨rfl, rfl⟩)
  have e44 : s' 44 = rnd := q3.1.1.1
  refine ⟨r, a1, a2, a3, a4, a5, a6, a7, a8, a9, a10, a11, a12, upd s' 44 (s' 44 + 1), q1, ?_, ?_, ?_, q5⟩
  · unfold fX12_round
    show lX12_round_4 bX12_round_135 5000 s lin 0 (nI 0) = _
    rw [q2]
    unfold bX12_round_135
    rw [nmv_eq]
    rcases q5 with ⟨rfl, -⟩ | ⟨rfl, -⟩
    · exact gB_0
    · exact gB_1
  · rw [e44]
    exact RF_rnd (by have := hH.1; omega) q3 (rnd + 1)
  · intro i hi
    rw [pk_un (by omega)]
    exact q4 i hi
theorem TK_clr {C G g c : Nat} {sit tak : Int32} {at_ : A1} (hC : C ≤ 9) (hG : G ≤ 7) (h : TK C G sit tak at_) (hg : g < G) (hc : c < C) (e : at_ g = nI c) (hb : bt sit g = true) : TK C G (sit &&& ((1 <<< (nI g &&& 31)) ^^^ (-1))) (tak &&& ((1 <<< (nI c &&& 31)) ^^^ (-1))) at_ := by
  have key : ∀ i, i < G → bt (sit &&& ((1 <<< (nI g &&& 31)) ^^^ (-1))) i = (bt sit i && !decide (i = g)) := fun i hi => bt_clr (by omega) (by omega)
  refine ⟨fun d hd => ?_, fun a b ha hb2 h1 h2 h3 => ?_⟩
  · rw [bt_clr (by omega) (by omega), Bool.and_eq_true, h.1 d hd]
    constructor
    · intro ⟨⟨a, ha, h1, h2⟩, h3⟩
      refine ⟨a, ha, ?_, h2⟩
      rw [key a ha, h1]
      have : ¬ a = g := by
        rintro rfl
        rw [e] at h2
        have h4 := (nI_eq (by omega) (by omega)).mp h2
        subst h4
        simp at h3
      simp [this]
    · intro ⟨a, ha, h1, h2⟩
      rw [key a ha, Bool.and_eq_true] at h1
      refine ⟨⟨a, ha, h1.1, h2⟩, ?_⟩
      have : ¬ d = c := by
        rintro rfl
        have := h.2 a g ha hg h1.1 hb (by rw [h2, e])
        subst this
        simp at h1
      simp [this]
  · rw [key a ha, Bool.and_eq_true] at h1
    rw [key b hb2, Bool.and_eq_true] at h2
    exact h.2 a b ha hb2 h1.1 h2.1 h3
theorem sm_clr {n g : Nat} {x : Int32} (h : sm n x) (hg : g < 31) : sm n (x &&& ((1 <<< (nI g &&& 31)) ^^^ (-1))) := by
  intro i h1 h2
  rw [bt_clr hg h2, h i h1 h2]
  rfl
/-- one who sits rises: both rows -/
theorem RF_rise {C G D : Nat} {sit tak ser hid rnd ovr hst pia : Int32} {coins chairOf tired hosted owed paid s : A1} (hC : C ≤ 9) (hG : G ≤ 7) (hF : RF C G D sit tak ser hid rnd ovr hst pia coins chairOf tired hosted owed paid s) {g : Nat} (hg : g < G) (hb : bt sit g = true) :
    ∃ sit' tak', fX1_standUp chairOf sit tak (nI g) = some (sit', tak') ∧ sit' = sit &&& ((1 <<< (nI g &&& 31)) ^^^ (-1)) ∧ RF C G D sit' tak' ser hid rnd ovr hst pia coins chairOf tired hosted owed paid (upd s 63 sit') := by
  obtain ⟨⟨⟨e44, e45, e46, e47, e48, e63⟩, eg⟩, ⟨s1, s2, s3, s4, s5, hT⟩, hM⟩ := hF
  obtain ⟨c, hc, ec⟩ := s5 g hg
  refine ⟨_, tak &&& ((1 <<< (nI c &&& 31)) ^^^ (-1)), ?_, rfl, ⟨⟨?_, ?_, ?_, ?_, ?_, pk_us⟩, ?_⟩, ⟨sm_clr s1 (by omega), sm_clr s2 (by omega), s3, s4, s5, TK_clr hC hG hT hg hc ec hb⟩, hM⟩
  · unfold fX1_standUp
    rw [nmv_eq, gI_ok (by omega) (by omega), nmv_eq, ix0 (by omega), ec]
  · rw [pk_un (by omega), e44]
  · rw [pk_un (by omega), e45]
  · rw [pk_un (by omega), e46]
  · rw [pk_un (by omega), e47]
  · rw [pk_un (by omega), e48]
  · intro i hi
    rw [pk_un (by omega), pk_un (by omega), pk_un (by omega), pk_un (by omega), pk_un (by omega), pk_un (by omega)]
    exact eg i hi
/-- served and hidden rows -/
theorem RF_ser {C G D : Nat} {sit tak ser hid rnd ovr hst pia : Int32} {coins chairOf tired hosted owed paid s : A1} (hG : G ≤ 7) (hF : RF C G D sit tak ser hid rnd ovr hst pia coins chairOf tired hosted owed paid s) {x : Int32} (hx : sm D x) : RF C G D sit tak x hid rnd ovr hst pia coins chairOf tired hosted owed paid (upd s 45 x) := by
  obtain ⟨⟨⟨e44, e45, e46, e47, e48, e63⟩, eg⟩, ⟨s1, s2, s3, s4, s5, hT⟩, hM⟩ := hF
  refine ⟨⟨⟨?_, pk_us, ?_, ?_, ?_, ?_⟩, ?_⟩, ⟨s1, s2, hx, s4, s5, hT⟩, hM⟩
  · rw [pk_un (by omega), e44]
  · rw [pk_un (by omega), e46]
  · rw [pk_un (by omega), e47]
  · rw [pk_un (by omega), e48]
  · rw [pk_un (by omega), e63]
  · intro i hi
    rw [pk_un (by omega), pk_un (by omega), pk_un (by omega), pk_un (by omega), pk_un (by omega), pk_un (by omega)]
    exact eg i hi
theorem RF_hid {C G D : Nat} {sit tak ser hid rnd ovr hst pia : Int32} {coins chairOf tired hosted owed paid s : A1} (hG : G ≤ 7) (hF : RF C G D sit tak ser hid rnd ovr hst pia coins chairOf tired hosted owed paid s) {x : Int32} (hx : sm C x) : RF C G D sit tak ser x rnd ovr hst pia coins chairOf tired hosted owed paid (upd s 47 x) := by
  obtain ⟨⟨⟨e44, e45, e46, e47, e48, e63⟩, eg⟩, ⟨s1, s2, s3, s4, s5, hT⟩, hM⟩ := hF
  refine ⟨⟨⟨?_, ?_, ?_, pk_us, ?_, ?_⟩, ?_⟩, ⟨s1, s2, s3, hx, s5, hT⟩, hM⟩
  · rw [pk_un (by omega), e44]
  · rw [pk_un (by omega), e45]
  · rw [pk_un (by omega), e46]
  · rw [pk_un (by omega), e48]
  · rw [pk_un (by omega), e63]
  · intro i hi
    rw [pk_un (by omega), pk_un (by omega), pk_un (by omega), pk_un (by omega), pk_un (by omega), pk_un (by omega)]
    exact eg i hi
/-- the model's bits: a bit that is set goes by xor as by and -/
theorem xor_clr {x : Int32} {g : Nat} (hg : g < 31) (h : bt x g = true) : x ^^^ (1 <<< (nI g &&& 31)) = x &&& ((1 <<< (nI g &&& 31)) ^^^ (-1)) := by
  apply b_ext
  intro i hi
  rw [bt_flp hg hi, bt_clr hg hi]
  by_cases e : i = g
  · subst e
    rw [h]
    simp
  · simp [e]
theorem xor_set {x : Int32} {g : Nat} (hg : g < 31) (h : bt x g = false) : x ^^^ (1 <<< (nI g &&& 31)) = x ||| (1 <<< (nI g &&& 31)) := by
  apply b_ext
  intro i hi
  rw [bt_flp hg hi, bt_set hg hi]
  by_cases e : i = g
  · subst e
    rw [h]
    simp
  · simp [e]
/-- a bit that isn't set stays away -/
theorem clr_none {x : Int32} {g : Nat} (hg : g < 31) (h : bt x g = false) : x &&& ((1 <<< (nI g &&& 31)) ^^^ (-1)) = x := by
  apply b_ext
  intro i hi
  rw [bt_clr hg hi]
  by_cases e : i = g
  · subst e
    rw [h]
    rfl
  · simp [e]
theorem set_again {x : Int32} {g : Nat} (hg : g < 31) (h : bt x g = true) : x ||| (1 <<< (nI g &&& 31)) = x := by
  apply b_ext
  intro i hi
  rw [bt_set hg hi]
  by_cases e : i = g
  · subst e
    rw [h]
    rfl
  · simp [e]
