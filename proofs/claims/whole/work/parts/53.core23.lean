/-! ===== pure: promises 9 to 14, 35: sit, rise, serve, hide, show, rounds, drawn ===== -/
theorem whyN_nat (sit tak hid : Int32) (g c : Nat) : whyN sit tak hid g c = 0 ∨ 0 < whyN sit tak hid g c := by
  unfold whyN
  by_cases h1 : bt sit g = true
  · rw [if_pos h1]
    exact Or.inr (by decide)
  · rw [if_neg h1]
    by_cases h2 : bt tak c = true
    · rw [if_pos h2]
      exact Or.inr (by decide)
    · rw [if_neg h2]
      by_cases h3 : bt hid c = true
      · rw [if_pos h3]
        exact Or.inr (by decide)
      · rw [if_neg h3]
        exact Or.inl rfl
/-- promise 9: sit -/
theorem T_sit {C G D : Nat} {pride speed payer cost s : A1} (hH : RH C G D pride speed payer cost s) {sit tak ser hid rnd ovr hst pia : Int32} {coins chairOf tired hosted owed paid : A1} (hF : RFp C G D sit tak ser hid rnd ovr hst pia coins chairOf tired hosted owed paid s) {kept last um : Int32} {ah : Nat → E9} {un : A1} (hA : RA C G D kept last um ah un) (th x : Int32) :
    ∃ (r sit' tak' ser' ovr' hst' pia' : Int32) (coins' tired' hosted' owed' paid' : A1) (kept' last' um' : Int32) (ah' : Nat → E9) (s' un' : A1),
      fX11_sit (nI G) (nI D) payer cost hid rnd chairOf sit tak ser ovr hst pia coins tired hosted owed paid kept last ah x = some (r, sit', tak', ser', ovr', hst', pia', coins', tired', hosted', owed', paid', kept', last', ah') ∧
      fX12_sit th um s un x = some (r, 0, um', s', un') ∧ RFp C G D sit' tak' ser' hid rnd ovr' hst' pia' coins' chairOf tired' hosted' owed' paid' s' ∧ RA C G D kept' last' um' ah' un' ∧ (∀ i, (i < 44 ∨ 92 ≤ i) → s' i = s i) := by
  have hG := hH.1
  unfold fX11_sit fX12_sit
  rcases guest_is hH x with ⟨g, hg, rfl, h1, h2⟩ | ⟨h1, h2⟩
  · obtain ⟨c, hc, ec, hwC, hwM⟩ := sim_why hH hF.2.2 hg
    rw [h1, h2, bind_eq, bind_eq, if_neg nn1, if_neg nn1, hwC, hwM, bind_eq, bind_eq]
    rcases whyN_nat sit tak hid g c with h0 | h0
    · obtain ⟨kept', last', um', ah', un', k1, k2, k3⟩ := sim_keep (by omega) hF hA
      obtain ⟨r, a1, a2, a3, a4, a5, a6, a7, a8, a9, a10, a11, s2, q1, q2, q3, q4, q5⟩ := sim_sit hH hF.2.2 hg hc ec (whyN_0 h0).2.1
      rw [h0, if_pos rfl, if_pos (by decide), k1, k2, bind_eq, bind_eq]
      dsimp only
      rw [q1, q2, bind_eq, bind_eq]
      exact ⟨0, a1, a2, a3, a4, a5, a6, a7, a8, a9, a10, a11, kept', last', um', ah', s2, un', rfl, rfl, ⟨hF.1, hF.2.1, q3⟩, k3, q4⟩
    · rw [if_neg (fun e => absurd h0 (by rw [e]; decide)), if_neg (fun e => (fa_of_lt h0).2.1 e)]
      exact ⟨_, sit, tak, ser, ovr, hst, pia, coins, tired, hosted, owed, paid, kept, last, um, ah, s, un, rfl, rfl, hF, hA, fun _ _ => rfl⟩
  · rw [h1, h2, bind_eq, bind_eq, if_pos rfl, if_pos rfl]
    exact ⟨-1, sit, tak, ser, ovr, hst, pia, coins, tired, hosted, owed, paid, kept, last, um, ah, s, un, rfl, rfl, hF, hA, fun _ _ => rfl⟩
/-- promise 10: rise -/
theorem T_rise {C G D : Nat} {pride speed payer cost s : A1} (hH : RH C G D pride speed payer cost s) {sit tak ser hid rnd ovr hst pia : Int32} {coins chairOf tired hosted owed paid : A1} (hF : RFp C G D sit tak ser hid rnd ovr hst pia coins chairOf tired hosted owed paid s) {kept last um : Int32} {ah : Nat → E9} {un : A1} (hA : RA C G D kept last um ah un) (th x : Int32) :
    ∃ (r sit' tak' : Int32) (kept' last' um' : Int32) (ah' : Nat → E9) (s' un' : A1),
      fX11_rise (nI G) ser hid rnd ovr hst pia coins chairOf tired hosted owed paid sit tak kept last ah x = some (r, sit', tak', kept', last', ah') ∧
      fX12_rise th um s un x = some (r, 0, um', s', un') ∧ RFp C G D sit' tak' ser hid rnd ovr hst pia coins chairOf tired hosted owed paid s' ∧ RA C G D kept' last' um' ah' un' ∧ (∀ i, (i < 44 ∨ 92 ≤ i) → s' i = s i) := by
  have hG := hH.1
  have e63 : s 63 = sit := hF.2.2.1.1.2.2.2.2.2
  unfold fX11_rise fX12_rise fX1_whyNotRise
  rcases guest_is hH x with ⟨g, hg, rfl, h1, h2⟩ | ⟨h1, h2⟩
  · rw [h1, h2, bind_eq, bind_eq, if_neg nn1, if_neg nn1, seated_eq (by omega), doesSit_eq (by omega), bind_eq, bind_eq, e63]
    by_cases hb : bt sit g = true
    · obtain ⟨kept', last', um', ah', un', k1, k2, k3⟩ := sim_keep (by omega) hF hA
      obtain ⟨sit', tak', q1, q2, q3⟩ := RF_rise (by omega) (by omega) hF.2.2 hg hb
      rw [if_pos hb, if_neg nn1, bind_eq, if_pos rfl, k1, bind_eq, if_neg nn1, k2, bind_eq]
      dsimp only
      rw [q1, bind_eq, nmv_eq, nmv_eq, xor_clr (by omega) hb, ← q2]
      exact ⟨0, sit', tak', kept', last', um', ah', _, un', rfl, rfl, ⟨hF.1, hF.2.1, q3⟩, k3, fun i hi => pk_un (by omega)⟩
    · rw [if_neg hb, if_pos rfl, bind_eq, if_neg nn1, if_pos rfl]
      exact ⟨1, sit, tak, kept, last, um, ah, s, un, rfl, rfl, hF, hA, fun _ _ => rfl⟩
  · rw [h1, h2, bind_eq, bind_eq, if_pos rfl, if_pos rfl]
    exact ⟨-1, sit, tak, kept, last, um, ah, s, un, rfl, rfl, hF, hA, fun _ _ => rfl⟩
/-- promise 11: serve -/
theorem T_serve {C G D : Nat} {pride speed payer cost s : A1} (hH : RH C G D pride speed payer cost s) {sit tak ser hid rnd ovr hst pia : Int32} {coins chairOf tired hosted owed paid : A1} (hF : RFp C G D sit tak ser hid rnd ovr hst pia coins chairOf tired hosted owed paid s) {kept last um : Int32} {ah : Nat → E9} {un : A1} (hA : RA C G D kept last um ah un) (th x : Int32) :
    ∃ (r ser' : Int32) (kept' last' um' : Int32) (ah' : Nat → E9) (s' un' : A1),
      fX11_serve (nI D) sit tak hid rnd ovr hst pia coins chairOf tired hosted owed paid ser kept last ah x = some (r, ser', kept', last', ah') ∧
      fX12_serve th um s un x = some (r, 0, um', s', un') ∧ RFp C G D sit tak ser' hid rnd ovr hst pia coins chairOf tired hosted owed paid s' ∧ RA C G D kept' last' um' ah' un' ∧ (∀ i, (i < 44 ∨ 92 ≤ i) → s' i = s i) := by
  have hG := hH.1
  have e2 : s 2 = nI D := hH.2.1.2.2
  have e45 : s 45 = ser := hF.2.2.1.1.2.1
  unfold fX11_serve fX12_serve fX12_isDish
  rw [e2]
  rcases in_eq (show D ≤ 9 by omega) x with ⟨d, h1, rfl, h3, h4, h5⟩ | ⟨h3, h4⟩
  · rw [h3, bind_eq, bind_eq, if_neg nn1, if_neg h4, if_pos (fa_of_nle h5), bitOf_eq (by omega), bind_eq, e45]
    unfold fX1_whyNotServe
    by_cases hb : bt ser d = true
    · rw [if_pos hb, if_neg nn1, if_pos ((bit_iff (by omega)).mpr hb), bind_eq, if_neg nn1]
      exact ⟨1, ser, kept, last, um, ah, s, un, rfl, rfl, hF, hA, fun _ _ => rfl⟩
    · obtain ⟨kept', last', um', ah', un', k1, k2, k3⟩ := sim_keep (by omega) hF hA
      rw [if_neg hb, if_pos rfl, if_neg (fun e => hb ((bit_iff (by omega)).mp e)), bind_eq, if_pos rfl, k1, bind_eq, k2, bind_eq]
      exact ⟨0, _, kept', last', um', ah', _, un', rfl, rfl, ⟨hF.1, hF.2.1, RF_ser (by omega) hF.2.2 (sm_set hF.2.2.2.1.2.2.1 h1 (by omega))⟩, k3, fun i hi => pk_un (by omega)⟩
  · rw [h3, bind_eq, bind_eq, if_pos rfl]
    refine ⟨-1, ser, kept, last, um, ah, s, un, ?_, rfl, hF, hA, fun _ _ => rfl⟩
    by_cases h0 : x < 0
    · rw [if_pos h0]
    · rw [if_neg h0, if_neg (fun h => by rcases h4 with h4 | h4; exact h0 h4; exact (fa_of_lt h).2.1 h4)]
theorem pop_set_all : ∀ S, S < 512 → ∀ c, c < 9 → pop (nI S ||| (1 <<< (nI c &&& 31))) ≤ pop (nI S) + 1 ∧ pop (nI S &&& ((1 <<< (nI c &&& 31)) ^^^ (-1))) ≤ pop (nI S) := by decide +kernel
theorem pop_set {C c : Nat} {x : Int32} (hC : C ≤ 9) (h : sm C x) (hc : c < C) : pop (x ||| (1 <<< (nI c &&& 31))) ≤ pop x + 1 ∧ pop (x &&& ((1 <<< (nI c &&& 31)) ^^^ (-1))) ≤ pop x := by
  obtain ⟨S, hS, rfl⟩ := sm_nat (n := 9) (by omega) (sm_up h hC)
  exact pop_set_all S hS c (by omega)
theorem whyH_nat (C G : Nat) (tak hid : Int32) (c : Nat) : (whyH C G tak hid c = 0 ∧ bt hid c = false ∧ G + pop hid + 1 ≤ C) ∨ 0 < whyH C G tak hid c := by
  unfold whyH
  by_cases h1 : bt hid c = true
  · rw [if_pos h1]
    exact Or.inr (by decide)
  · rw [if_neg h1]
    by_cases h2 : bt tak c = true
    · rw [if_pos h2]
      exact Or.inr (by decide)
    · rw [if_neg h2]
      by_cases h3 : G + pop hid + 1 ≤ C
      · rw [if_pos h3]
        exact Or.inl ⟨rfl, Bool.eq_false_iff.mpr h1, h3⟩
      · rw [if_neg h3]
        exact Or.inr (by decide)
theorem in9 (x : Int32) : (∃ c, c < 9 ∧ x = nI c ∧ fX12_isIn x 0 8 = some 1 ∧ ¬ x < 0 ∧ x < 9) ∨ (fX12_isIn x 0 8 = some 0 ∧ (x < 0 ∨ ¬ x < 9)) := by
  rcases in_eq (N := 9) (by omega) x with ⟨g, h1, h2, h3, h4, h5⟩ | ⟨h3, h4⟩
  · exact Or.inl ⟨g, h1, h2, h3, h4, fa_of_nle h5⟩
  · refine Or.inr ⟨h3, ?_⟩
    rcases h4 with h4 | h4
    · exact Or.inl h4
    · exact Or.inr (fun h => (fa_of_lt h).2.1 h4)
/-- promise 12: hide -/
theorem T_hide {C G D : Nat} {pride speed payer cost s : A1} (hH : RH C G D pride speed payer cost s) {sit tak ser hid rnd ovr hst pia : Int32} {coins chairOf tired hosted owed paid : A1} (hF : RFp C G D sit tak ser hid rnd ovr hst pia coins chairOf tired hosted owed paid s) {kept last um : Int32} {ah : Nat → E9} {un : A1} (hA : RA C G D kept last um ah un) (th x : Int32) :
    ∃ (r hid' : Int32) (kept' last' um' : Int32) (ah' : Nat → E9) (s' un' : A1),
      fX11_hide (nI C) (nI G) sit tak ser rnd ovr hst pia coins chairOf tired hosted owed paid hid kept last ah x = some (r, hid', kept', last', ah') ∧
      fX12_hide th um s un x = some (r, 0, um', s', un') ∧ RFp C G D sit tak ser hid' rnd ovr hst pia coins chairOf tired hosted owed paid s' ∧ RA C G D kept' last' um' ah' un' ∧ (∀ i, (i < 44 ∨ 92 ≤ i) → s' i = s i) := by
  obtain ⟨⟨hC2, hC9, hG, hGC, hD⟩, ⟨e0, e1, e2⟩, -, -⟩ := id hH
  have e47 : s 47 = hid := hF.2.2.1.1.2.2.2.1
  have e63 : s 63 = sit := hF.2.2.1.1.2.2.2.2.2
  have hsh : sm C hid := hF.2.2.2.1.2.2.2.1
  unfold fX11_hide fX12_hide fX12_turns
  have stay : ∀ r : Int32, ∃ (r' hid' : Int32) (kept' last' um' : Int32) (ah' : Nat → E9) (s' un' : A1), some (r, hid, kept, last, ah) = some (r', hid', kept', last', ah') ∧ some (r, (0 : Int32), um, s, un) = some (r', 0, um', s', un') ∧ RFp C G D sit tak ser hid' rnd ovr hst pia coins chairOf tired hosted owed paid s' ∧ RA C G D kept' last' um' ah' un' ∧ (∀ i, (i < 44 ∨ 92 ≤ i) → s' i = s i) := fun r => ⟨r, hid, kept, last, um, ah, s, un, rfl, rfl, hF, hA, fun _ _ => rfl⟩
  rcases in9 x with ⟨c, hc, rfl, h1, h2, h3⟩ | ⟨h1, h2⟩
  · rw [if_neg h2, if_pos h3]
    by_cases hcC : c < C
    · have hM := whyHM (s := s) hC9 hG hcC e0 e1 (by rw [e47]; exact hsh) (TK_s hF.2.2.2.1.2.2.2.2.2 e63 (fun i hi => (hF.2.2.1.2 i hi).2.1))
      rw [e47] at hM
      rw [whyHC hC9 hG hcC hsh, hM, bind_eq, bind_eq, h1, bind_eq, if_neg nn1]
      rcases whyH_nat C G tak hid c with ⟨h0, h4, h5⟩ | h0
      · obtain ⟨kept', last', um', ah', un', k1, k2, k3⟩ := sim_keep hG hF hA
        rw [h0, if_pos rfl, if_pos (by decide), k1, k2, bind_eq, bind_eq, e47]
        dsimp only
        rw [nmv_eq, nmv_eq, nmv_eq, bind_eq, xor_set (by omega) h4]
        exact ⟨0, _, kept', last', um', ah', _, un', rfl, rfl, ⟨hF.1, by have := (pop_set hC9 hsh hcC).1; omega, RF_hid hG hF.2.2 (sm_set hsh hcC (by omega))⟩, k3, fun i hi => pk_un (by omega)⟩
      · rw [if_neg (fun e => absurd h0 (by rw [e]; decide)), if_neg (fun e => (fa_of_lt h0).2.1 e), bind_eq]
        exact stay _
    · have hno : fX2_hasChair (nI C) (nI c) = some 0 := by
        rcases chair_is hH (nI c) with ⟨j, y1, y2, -, -⟩ | ⟨y, -, -⟩
        · rw [nI_eq (by omega) (by omega)] at y2
          omega
        · exact y
      unfold fX1_whyNotHide fX12_whyHide
      rw [hno, isChair_out hH (by omega) (by omega), bind_eq, bind_eq, if_pos rfl, if_pos rfl, bind_eq, bind_eq, if_neg nn1, h1, bind_eq, if_neg nn1, if_neg (by decide), bind_eq]
      exact stay 1
  · have hno : fX12_whyHide s x = some 1 := by
      unfold fX12_whyHide
      rcases chair_is hH x with ⟨j, y1, rfl, -, -⟩ | ⟨-, y, -⟩
      · rcases h2 with h2 | h2
        · exact absurd h2 (nI_pos (by omega))
        · exact absurd (show nI j < 9 from nI_lt (b := 9) (by omega) (by omega)) h2
      · rw [y, bind_eq, if_pos rfl]
    rw [hno, bind_eq, h1, bind_eq, if_pos rfl, bind_eq]
    rcases h2 with h2 | h2
    · rw [if_pos h2]
      exact stay _
    · by_cases h3 : x < 0
      · rw [if_pos h3]
        exact stay _
      · rw [if_neg h3, if_neg h2]
        exact stay _
/-- promise 13: show -/
theorem T_show {C G D : Nat} {pride speed payer cost s : A1} (hH : RH C G D pride speed payer cost s) {sit tak ser hid rnd ovr hst pia : Int32} {coins chairOf tired hosted owed paid : A1} (hF : RFp C G D sit tak ser hid rnd ovr hst pia coins chairOf tired hosted owed paid s) {kept last um : Int32} {ah : Nat → E9} {un : A1} (hA : RA C G D kept last um ah un) (th x : Int32) :
    ∃ (r hid' : Int32) (kept' last' um' : Int32) (ah' : Nat → E9) (s' un' : A1),
      fX11_show (nI C) sit tak ser rnd ovr hst pia coins chairOf tired hosted owed paid hid kept last ah x = some (r, hid', kept', last', ah') ∧
      fX12_show th um s un x = some (r, 0, um', s', un') ∧ RFp C G D sit tak ser hid' rnd ovr hst pia coins chairOf tired hosted owed paid s' ∧ RA C G D kept' last' um' ah' un' ∧ (∀ i, (i < 44 ∨ 92 ≤ i) → s' i = s i) := by
  obtain ⟨⟨hC2, hC9, hG, hGC, hD⟩, ⟨e0, e1, e2⟩, -, -⟩ := id hH
  have e47 : s 47 = hid := hF.2.2.1.1.2.2.2.1
  have hsh : sm C hid := hF.2.2.2.1.2.2.2.1
  unfold fX11_show fX12_show fX12_turns
  have stay : ∀ r : Int32, ∃ (r' hid' : Int32) (kept' last' um' : Int32) (ah' : Nat → E9) (s' un' : A1), some (r, hid, kept, last, ah) = some (r', hid', kept', last', ah') ∧ some (r, (0 : Int32), um, s, un) = some (r', 0, um', s', un') ∧ RFp C G D sit tak ser hid' rnd ovr hst pia coins chairOf tired hosted owed paid s' ∧ RA C G D kept' last' um' ah' un' ∧ (∀ i, (i < 44 ∨ 92 ≤ i) → s' i = s i) := fun r => ⟨r, hid, kept, last, um, ah, s, un, rfl, rfl, hF, hA, fun _ _ => rfl⟩
  rcases in9 x with ⟨c, hc, rfl, h1, h2, h3⟩ | ⟨h1, h2⟩
  · rw [if_neg h2, if_pos h3]
    unfold fX1_whyNotShow fX12_whyShow
    rcases chair_is hH (nI c) with ⟨j, y1, y2, y3, y4⟩ | ⟨y3, y4, -⟩
    · have e : c = j := (nI_eq (by omega) (by omega)).mp y2
      subst e
      rw [y3, y4, bind_eq, bind_eq, if_neg nn1, if_neg nn1, bitOf_eq (by omega), bind_eq, e47]
      by_cases hb : bt hid c = true
      · obtain ⟨kept', last', um', ah', un', k1, k2, k3⟩ := sim_keep hG hF hA
        rw [if_pos ((bit_iff (by omega)).mpr hb), if_pos hb, if_neg nn1, bind_eq, bind_eq, if_pos rfl, h1, bind_eq, if_neg nn1, if_pos (by decide), k1, k2, bind_eq, bind_eq]
        dsimp only
        rw [nmv_eq, nmv_eq, nmv_eq, bind_eq, xor_clr (by omega) hb]
        exact ⟨0, _, kept', last', um', ah', _, un', rfl, rfl, ⟨hF.1, by have := (pop_set hC9 hsh y1).2; have := hF.2.1; omega, RF_hid hG hF.2.2 (sm_clr hsh (by omega))⟩, k3, fun i hi => pk_un (by omega)⟩
      · rw [if_neg (fun e => hb ((bit_iff (by omega)).mp e)), if_neg hb, if_pos rfl, bind_eq, bind_eq, if_neg (by decide), h1, bind_eq, if_neg nn1, if_neg (by decide), bind_eq]
        exact stay 2
    · rw [y3, y4, bind_eq, bind_eq, if_pos rfl, if_pos rfl, bind_eq, bind_eq, if_neg nn1, h1, bind_eq, if_neg nn1, if_neg (by decide), bind_eq]
      exact stay 1
  · have hno : fX12_whyShow s x = some 1 := by
      unfold fX12_whyShow
      rcases chair_is hH x with ⟨j, y1, rfl, -, -⟩ | ⟨-, y, -⟩
      · rcases h2 with h2 | h2
        · exact absurd h2 (nI_pos (by omega))
        · exact absurd (show nI j < 9 from nI_lt (b := 9) (by omega) (by omega)) h2
      · rw [y, bind_eq, if_pos rfl]
    rw [hno, bind_eq, h1, bind_eq, if_pos rfl, bind_eq]
    rcases h2 with h2 | h2
    · rw [if_pos h2]
      exact stay _
    · by_cases h3 : x < 0
      · rw [if_pos h3]
        exact stay _
      · rw [if_neg h3, if_neg h2]
        exact stay _
/-- rounds one behind the other, both -/
theorem rounds_loop {C G D : Nat} {pride speed payer cost : A1} {hid : Int32} {K N : Nat} (hKN : K ≤ N) (hN : N ≤ 60) (kept last : Int32) (ah : Nat → E9) : ∀ (m k n1 n2 ρ : Nat), k + m = K → m < n1 → m < n2 → ρ + m ≤ 400 → (K = N ∨ ρ + m = 400) → ∀ (sit tak ser ovr hst pia : Int32) (coins chairOf tired hosted owed paid s : A1), RH C G D pride speed payer cost s → RF C G D sit tak ser hid (nI ρ) ovr hst pia coins chairOf tired hosted owed paid s →
    ∃ (sit' tak' ser' ovr' hst' pia' : Int32) (coins' chairOf' tired' hosted' owed' paid' s' : A1),
      lX11_rounds_46 (nI C) (nI G) (nI D) pride speed payer cost hid n1 sit tak ser (nI ρ) ovr hst pia coins chairOf tired hosted owed paid kept last ah (nI K) (nI k) = some (nI K, sit', tak', ser', nI (ρ + m), ovr', hst', pia', coins', chairOf', tired', hosted', owed', paid', kept, last, ah) ∧
      lX12_goesOn_2 n2 s (nI N) (nI k) = some (nI K, s') ∧ RF C G D sit' tak' ser' hid (nI (ρ + m)) ovr' hst' pia' coins' chairOf' tired' hosted' owed' paid' s' ∧ (∀ i, (i < 44 ∨ 92 ≤ i) → s' i = s i) := by
  intro m
  induction m with
  | zero =>
    intro k n1 n2 ρ hk hn1 hn2 hρ hKe sit tak ser ovr hst pia coins chairOf tired hosted owed paid s hH hF
    obtain ⟨n1, rfl⟩ := sn hn1
    obtain ⟨n2, rfl⟩ := sn hn2
    have e : k = K := by omega
    subst e
    have e44 : s 44 = nI ρ := hF.1.1.1
    refine ⟨sit, tak, ser, ovr, hst, pia, coins, chairOf, tired, hosted, owed, paid, s, ?_, ?_, hF, fun _ _ => rfl⟩
    · rw [lX11_rounds_46, if_pos (nI_le (Nat.le_refl _) (by omega))]
      rfl
    · rw [lX12_goesOn_2]
      by_cases h : N ≤ k
      · rw [if_pos (nI_le h (by omega))]
      · rw [if_neg (nI_ge (by omega) (by omega)), e44, if_pos (show (400 : Int32) ≤ nI ρ from nI_le (a := 400) (by omega) (by omega))]
  | succ m ih =>
    intro k n1 n2 ρ hk hn1 hn2 hρ hKe sit tak ser ovr hst pia coins chairOf tired hosted owed paid s hH hF
    obtain ⟨n1, rfl⟩ := sn hn1
    obtain ⟨n2, rfl⟩ := sn hn2
    have e44 : s 44 = nI ρ := hF.1.1.1
    obtain ⟨r, a1, a2, a3, a4, a5, a6, a7, a8, a9, a10, a11, a12, s2, q1, q2, q3, q4, q5⟩ := sim_round hH hF (-1)
    rw [nI_1] at q1 q3
    obtain ⟨b1, b2, b3, b4, b5, b6, b7, b8, b9, b10, b11, b12, s3, z1, z2, z3, z4⟩ := ih (k + 1) n1 n2 (ρ + 1) (by omega) (by omega) (by omega) (by omega) (by omega) a1 a2 a3 a4 a5 a6 a7 a8 a9 a10 a11 a12 s2 (hH.congr (fun i hi => q4 i (Or.inl hi))) q3
    rw [show ρ + 1 + m = ρ + (m + 1) by omega] at z1 z3
    refine ⟨b1, b2, b3, b4, b5, b6, b7, b8, b9, b10, b11, b12, s3, ?_, ?_, z3, fun i hi => by rw [z4 i hi, q4 i hi]⟩
    · rw [lX11_rounds_46, if_neg (nI_ge (by omega) (by omega)), q1, bind_eq]
      dsimp only
      rw [nI_1]
      exact z1
    · rw [lX12_goesOn_2, if_neg (nI_ge (by omega) (by omega)), e44, if_neg (show ¬ (400 : Int32) ≤ nI ρ from nI_ge (b := 400) (by omega) (by omega)), q2, bind_eq]
      dsimp only
      rw [nI_1]
      exact z2
theorem in1 {N : Nat} (hN : N < 1000) (x : Int32) : (∃ n, 1 ≤ n ∧ n ≤ N ∧ x = nI n ∧ fX12_isIn x 1 (nI N) = some 1 ∧ ¬ x < 1 ∧ x ≤ nI N) ∨ (fX12_isIn x 1 (nI N) = some 0 ∧ (x < 1 ∨ ¬ x ≤ nI N)) := by
  unfold fX12_isIn
  by_cases h1 : x < 1
  · rw [if_pos h1]
    exact Or.inr ⟨rfl, Or.inl h1⟩
  · rw [if_neg h1]
    obtain ⟨n, hn, rfl⟩ := nI_of (show ¬ x < 0 from fun h => h1 (fa_trans h (by decide)))
    by_cases h2 : nI N < nI n
    · rw [if_pos h2]
      exact Or.inr ⟨rfl, Or.inr (fa_of_lt h2).2.1⟩
    · rw [if_neg h2]
      refine Or.inl ⟨n, Nat.le_of_not_lt (fun h => h1 (nI_lt (b := 1) h (by omega))), Nat.le_of_not_lt (fun h => h2 (nI_lt h hn)), rfl, rfl, h1, fa_of_nlt h2⟩
/-- promise 14: rounds -/
theorem T_rounds {C G D : Nat} {pride speed payer cost s : A1} (hH : RH C G D pride speed payer cost s) {sit tak ser hid rnd ovr hst pia : Int32} {coins chairOf tired hosted owed paid : A1} (hF : RFp C G D sit tak ser hid rnd ovr hst pia coins chairOf tired hosted owed paid s) {kept last um : Int32} {ah : Nat → E9} {un : A1} (hA : RA C G D kept last um ah un) (th x : Int32) :
    ∃ (r sit' tak' ser' rnd' ovr' hst' pia' : Int32) (coins' chairOf' tired' hosted' owed' paid' : A1) (kept' last' um' : Int32) (ah' : Nat → E9) (s' un' : A1),
      fX11_rounds (nI C) (nI G) (nI D) pride speed payer cost hid sit tak ser rnd ovr hst pia coins chairOf tired hosted owed paid kept last ah x = some (r, sit', tak', ser', rnd', ovr', hst', pia', coins', chairOf', tired', hosted', owed', paid', kept', last', ah') ∧
      fX12_rounds th um s un x = some (r, 0, um', s', un') ∧ RFp C G D sit' tak' ser' hid rnd' ovr' hst' pia' coins' chairOf' tired' hosted' owed' paid' s' ∧ RA C G D kept' last' um' ah' un' ∧ (∀ i, (i < 44 ∨ 92 ≤ i) → s' i = s i) := by
  obtain ⟨⟨hC2, hC9, hG, hGC, hD⟩, ⟨e0, e1, e2⟩, -, -⟩ := id hH
  have e44 : s 44 = rnd := hF.2.2.1.1.1
  unfold fX11_rounds fX12_rounds
  rcases in1 (N := 60) (by omega) x with ⟨n, hn1, hn2, rfl, h1, h2, h3⟩ | ⟨h1, h2⟩
  · rw [show nI 60 = 60 from rfl] at h1 h3
    rw [if_neg h2, if_pos h3, h1, bind_eq, if_neg nn1, nmv_eq, e44]
    obtain ⟨ρ, hρ, rfl⟩ := hF.1
    have e400 : (400 : Int32) - nI ρ = nI (400 - ρ) := pk_sub (a := 400) hρ
    rw [e400]
    have eK : (if nI (400 - ρ) < nI n then nI (400 - ρ) else nI n) = nI (if 400 - ρ < n then 400 - ρ else n) := by
      by_cases h : 400 - ρ < n
      · rw [if_pos (nI_lt h (by omega)), if_pos h]
      · rw [if_neg (nI_nlt (by omega) (by omega)), if_neg h]
    rw [eK]
    by_cases h4 : ρ = 400
    · subst h4
      rw [if_pos (show 400 - 400 < n by omega), if_pos (show nI (400 - 400) ≤ 0 by decide), if_pos (show nI 400 = 400 from rfl)]
      refine ⟨0, sit, tak, ser, nI 400, ovr, hst, pia, coins, chairOf, tired, hosted, owed, paid, kept, last, um, ah, s, un, ?_, rfl, hF, hA, fun _ _ => rfl⟩
      rw [lX11_rounds_46, if_pos (by decide)]
      rfl
    · obtain ⟨kept', last', um', ah', un', k1, k2, k3⟩ := sim_keep hG hF hA
      have hK : 0 < (if 400 - ρ < n then 400 - ρ else n) := by split <;> omega
      have hK2 : (if 400 - ρ < n then 400 - ρ else n) ≤ n := by split <;> omega
      have hK3 : ρ + (if 400 - ρ < n then 400 - ρ else n) ≤ 400 := by split <;> omega
      have hK4 : (if 400 - ρ < n then 400 - ρ else n) = n ∨ ρ + (if 400 - ρ < n then 400 - ρ else n) = 400 := by split <;> omega
      generalize (if 400 - ρ < n then 400 - ρ else n) = K at hK hK2 hK3 hK4
      obtain ⟨b1, b2, b3, b4, b5, b6, b7, b8, b9, b10, b11, b12, s3, z1, z2, z3, z4⟩ := rounds_loop hK2 hn2 kept' last' ah' K 0 5000 5000 ρ (by omega) (by omega) (by omega) hK3 hK4 sit tak ser ovr hst pia coins chairOf tired hosted owed paid s hH hF.2.2
      rw [show nI 0 = 0 from rfl] at z1 z2
      rw [if_neg (nI_nle (by omega) (by omega)), k1, bind_eq, if_neg (show ¬ nI ρ = 400 from fun e => h4 ((nI_eq (b := 400) (by omega) (by omega)).mp e)), k2, bind_eq]
      dsimp only
      unfold fX12_goesOn
      rw [z1, z2, bind_eq]
      exact ⟨nI K, b1, b2, b3, nI (ρ + K), b4, b5, b6, b7, b8, b9, b10, b11, b12, kept', last', um', ah', s3, un', rfl, rfl, ⟨⟨ρ + K, hK3, rfl⟩, hF.2.1, z3⟩, k3, z4⟩
  · rw [show nI 60 = 60 from rfl] at h1 h2
    rw [h1, bind_eq, if_pos rfl]
    refine ⟨-1, sit, tak, ser, rnd, ovr, hst, pia, coins, chairOf, tired, hosted, owed, paid, kept, last, um, ah, s, un, ?_, rfl, hF, hA, fun _ _ => rfl⟩
    rcases h2 with h2 | h2
    · rw [if_pos h2]
    · by_cases h3 : x < 1
      · rw [if_pos h3]
      · rw [if_neg h3, if_neg h2]
/-- promise 35: drawn -/
theorem T_drawn {C G D : Nat} {pride speed payer cost s : A1} (hH : RH C G D pride speed payer cost s) {sit tak ser hid rnd ovr hst pia : Int32} {coins chairOf tired hosted owed paid : A1} (hF : RFp C G D sit tak ser hid rnd ovr hst pia coins chairOf tired hosted owed paid s) {kept last um : Int32} {ah : Nat → E9} {un : A1} (hA : RA C G D kept last um ah un) (lot th sd x y : Int32) :
    ∃ (r sit' tak' ser' rnd' ovr' hst' pia' lot' : Int32) (coins' chairOf' tired' hosted' owed' paid' : A1) (kept' last' um' : Int32) (ah' : Nat → E9) (sd' : Int32) (s' un' : A1),
      fX11_drawn (nI C) (nI G) (nI D) pride speed payer cost hid sit tak ser rnd ovr hst pia lot coins chairOf tired hosted owed paid kept last ah x y = some (r, sit', tak', ser', rnd', ovr', hst', pia', lot', coins', chairOf', tired', hosted', owed', paid', kept', last', ah') ∧
      fX12_drawn th um sd s un x y = some (r, 0, um', sd', s', un') ∧ RFp C G D sit' tak' ser' hid rnd' ovr' hst' pia' coins' chairOf' tired' hosted' owed' paid' s' ∧ RA C G D kept' last' um' ah' un' ∧ (∀ i, (i < 44 ∨ 92 ≤ i) → s' i = s i) := by
  obtain ⟨⟨hC2, hC9, hG, hGC, hD⟩, ⟨e0, e1, e2⟩, -, -⟩ := id hH
  have e44 : s 44 = rnd := hF.2.2.1.1.1
  unfold fX11_drawn fX12_drawn
  rcases in1 (N := 60) (by omega) x with ⟨n, hn1, hn2, rfl, h1, h2, h3⟩ | ⟨h1, h2⟩
  · rw [show nI 60 = 60 from rfl] at h1 h3
    rw [if_neg h2, if_pos h3, h1, bind_eq, if_neg nn1, e44]
    obtain ⟨ρ, hρ, rfl⟩ := hF.1
    obtain ⟨k', b1, b2, b3, b4, b5, b6, b7, b8, b9, b10, b11, b12, b13, s2, z1, z2, z3, z4, z5, z6, z7, z8⟩ := drawn_loop hn2 n 0 5000 5000 ρ (by omega) (by omega) (by omega) hρ _ _ _ _ _ _ y _ _ _ _ _ _ s hH hF.2.2
    rw [show nI 0 = 0 from rfl] at z5 z6
    unfold fX1_goDrawn fX12_draws
    by_cases h4 : (400 : Int32) ≤ nI ρ
    · rw [if_pos h4, if_pos h4, z5, z6, bind_eq, bind_eq]
      exact ⟨nI k', b1, b2, b3, _, b4, b5, b6, b7, b8, b9, b10, b11, b12, b13, kept, last, um, ah, b7, s2, un, rfl, rfl, ⟨⟨_, z3, rfl⟩, hF.2.1, z7⟩, hA, z8⟩
    · obtain ⟨kept', last', um', ah', un', k1, k2, k3⟩ := sim_keep hG hF hA
      rw [if_neg h4, if_neg h4, k1, k2, bind_eq, bind_eq]
      dsimp only
      rw [z5, z6, bind_eq, bind_eq]
      exact ⟨nI k', b1, b2, b3, _, b4, b5, b6, b7, b8, b9, b10, b11, b12, b13, kept', last', um', ah', b7, s2, un', rfl, rfl, ⟨⟨_, z3, rfl⟩, hF.2.1, z7⟩, k3, z8⟩
  · rw [show nI 60 = 60 from rfl] at h1 h2
    rw [h1, bind_eq, if_pos rfl]
    refine ⟨-1, sit, tak, ser, rnd, ovr, hst, pia, lot, coins, chairOf, tired, hosted, owed, paid, kept, last, um, ah, sd, s, un, ?_, rfl, hF, hA, fun _ _ => rfl⟩
    rcases h2 with h2 | h2
    · rw [if_pos h2]
    · by_cases h3 : x < 1
      · rw [if_pos h3]
      · rw [if_neg h3, if_neg h2]
