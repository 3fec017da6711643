/-! ===== pure: promise 43 (plate), the whole ===== -/
def T325 : List Nat := [32, 115, 105, 116, 115, 32, 97, 116, 32]
def T327 : List Nat := [32, 115, 116, 97, 110, 100, 115, 32, 97, 116, 32]
def T335 : List Nat := [32, 111, 119, 101, 115, 32]
theorem t325 {n : Nat} (X : A1) (hn : n + 9 ≤ 40) : fX10_putText 40 (nI n) X S325 = some (nI (n + 9), wr T325 n X) := pT_ok S325.2 9 0 n X (fun i hi => by rw [Nat.zero_add]; exact hn325.2 i hi) hn
theorem t327 {n : Nat} (X : A1) (hn : n + 11 ≤ 40) : fX10_putText 40 (nI n) X S327 = some (nI (n + 11), wr T327 n X) := pT_ok S327.2 11 0 n X (fun i hi => by rw [Nat.zero_add]; exact hn327.2 i hi) hn
theorem t335 {n : Nat} (X : A1) (hn : n + 6 ≤ 40) : fX10_putText 40 (nI n) X S335 = some (nI (n + 6), wr T335 n X) := pT_ok S335.2 6 0 n X (fun i hi => by rw [Nat.zero_add]; exact hn335.2 i hi) hn
theorem y325 {n : Nat} (X : A1) (hn : n + 5 ≤ 40) : fX12_says (nI n) X 1936290931 = some (nI (n + 5), wr [32, 115, 105, 116, 115] n X) := says_ok (d := [115, 116, 105, 115]) (V := 1936290931) (by decide) (by decide) (by decide) (by decide) X hn
theorem y327 {n : Nat} (X : A1) (hn : n + 7 ≤ 40) : fX12_says (nI n) X 126943688025203 = some (nI (n + 7), wr [32, 115, 116, 97, 110, 100, 115] n X) := says_ok (d := [115, 100, 110, 97, 116, 115]) (V := 126943688025203) (by decide) (by decide) (by decide) (by decide) X hn
theorem yat {n : Nat} (X : A1) (hn : n + 3 ≤ 40) : fX12_says (nI n) X 24948 = some (nI (n + 3), wr [32, 97, 116] n X) := says_ok (d := [116, 97]) (V := 24948) (by decide) (by decide) (by decide) (by decide) X hn
theorem y335 {n : Nat} (X : A1) (hn : n + 5 ≤ 40) : fX12_says (nI n) X 1870095731 = some (nI (n + 5), wr [32, 111, 119, 101, 115] n X) := says_ok (d := [115, 101, 119, 111]) (V := 1870095731) (by decide) (by decide) (by decide) (by decide) X hn
theorem wr_c (c : Nat) (cs : List Nat) (n : Nat) (X : A1) : wr (c :: cs) n X = wr cs (n + 1) (upd X n (nI c)) := rfl
/-- what stands behind the name -/
def tl (sits : Bool) (c o e : Nat) : List Nat := (if sits then T325 else T327) ++ ((48 + c) :: (if o = 0 then [] else T335 ++ dl o (e + 1)))
theorem tl_lt {b : Bool} {c o e : Nat} (hc : c ≤ 8) : ∀ x, x ∈ tl b c o e → x < 128 := by
  intro x h
  unfold tl at h
  rcases List.mem_append.mp h with h | h
  · have h5 : ∀ x, x ∈ T325 → x < 128 := by decide
    have h7 : ∀ x, x ∈ T327 → x < 128 := by decide
    cases b
    · exact h7 x h
    · exact h5 x h
  · rcases List.mem_cons.mp h with rfl | h
    · omega
    · by_cases ho : o = 0
      · rw [if_pos ho] at h
        exact absurd h List.not_mem_nil
      · rw [if_neg ho] at h
        have h5 : ∀ x, x ∈ T335 → x < 128 := by decide
        rcases List.mem_append.mp h with h | h
        · exact h5 x h
        · exact dl_lt o _ x h
theorem bpl {s : A1} {nm : Nat → Int64} {g c o e n q : Nat} (hg : g < 7) (hc : s (56 + g) = nI c) (hc8 : c ≤ 8) (ho : s (78 + g) = nI o) (ho5 : o < 100000) (he : o = 0 ∨ (e ≤ 4 ∧ 10 ^ e ≤ o ∧ o < 10 ^ (e + 1))) (th : Int32) (X : A1) {y : Int64} {T : List Nat} (hq : q = 5 ∨ q = 7) (hn : n ≤ 7) (hy : fX12_says (nI n) X y = some (nI (n + q), wr T n X)) (hT : ∀ Z : A1, Z = wr T n X → wr [32] (n + q + 3) (wr [32, 97, 116] (n + q) Z) = wr (if q = 5 then T325 else T327) n X) :
    ∃ N, N ≤ 40 ∧ N = n + (tl (decide (q = 5)) c o e).length ∧ bX12_plate_48 s nm th (nI n) X (nI g) y = some (nI N, th, nI N, wr (tl (decide (q = 5)) c o e) n X) := by
  have hql : (if decide (q = 5) = true then T325 else T327).length = q + 4 := by
    rcases hq with rfl | rfl <;> rfl
  have hqT : wr (if q = 5 then T325 else T327) n X = wr (if decide (q = 5) = true then T325 else T327) n X := by
    rcases hq with rfl | rfl <;> rfl
  unfold bX12_plate_48
  rw [hy, bind_eq]
  dsimp only
  rw [yat (n := n + q) _ (by omega), bind_eq]
  dsimp only
  rw [show (32 : Int32) = nI 32 from rfl, lays_ok (n := n + q + 3) (c := 32) _ (by omega) (by omega), bind_eq]
  dsimp only
  rw [c56, gI_oka (by omega) (by omega), nmv_eq, ixa (by omega), hc, show (48 : Int32) = nI 48 from rfl, nI_add, lays_ok (n := n + q + 3 + 1) (c := 48 + c) _ (by omega) (by omega), bind_eq]
  dsimp only
  rw [c78, gI_oka (by omega) (by omega), nmv_eq, ixa (by omega), ho]
  have hZ := hT _ rfl
  rw [wr, wr] at hZ
  rw [hZ, hqT]
  by_cases h0 : o = 0
  · subst h0
    rw [if_pos (show nI 0 = 0 from rfl)]
    have hlen : (tl (decide (q = 5)) c 0 e).length = q + 5 := by
      unfold tl
      rw [List.length_append, hql, if_pos rfl]
      rfl
    refine ⟨n + q + 3 + 1 + 1, by omega, by rw [hlen]; omega, ?_⟩
    unfold tl
    rw [if_pos (show (0 : Nat) = 0 from rfl), wr_app, hql, wr, wr, show n + (q + 4) = n + q + 3 + 1 by omega]
  · rw [if_neg (nI_ne0 (by omega) (by omega)), y335 (n := n + q + 3 + 1 + 1) _ (by omega), bind_eq]
    dsimp only
    obtain ⟨he4, hlo, hhi⟩ := he.resolve_left h0
    rw [lays_ok (n := n + q + 3 + 1 + 1 + 5) (c := 32) _ (by omega) (by omega), bind_eq]
    dsimp only
    rw [m116_ok (n := n + q + 3 + 1 + 1 + 5 + 1) hhi he4 hlo th _ (by omega)]
    have hlen : (tl (decide (q = 5)) c o e).length = q + 11 + (e + 1) := by
      unfold tl
      rw [List.length_append, hql, if_neg h0, List.length_cons, List.length_append, dl_len]
      show q + 4 + (6 + (e + 1) + 1) = _
      omega
    refine ⟨n + q + 3 + 1 + 1 + 5 + 1 + (e + 1), by omega, by rw [hlen]; omega, ?_⟩
    unfold tl
    rw [if_neg h0, wr_app, hql, wr_c (48 + c) (T335 ++ dl o (e + 1)), wr_app T335, show n + (q + 4) + 1 + T335.length = n + q + 3 + 1 + 1 + 5 + 1 by show n + (q + 4) + 1 + 6 = _; omega, show n + (q + 4) = n + q + 3 + 1 by omega]
    rfl
theorem dl1 {c : Nat} (hc : c ≤ 8) : dl c (0 + 1) = [48 + c] := by
  show [48 + c / 10 ^ 0 % 10] = [48 + c]
  rw [Nat.pow_zero, Nat.div_one, Nat.mod_eq_of_lt (by omega)]
theorem cpl {g c o e n q4 : Nat} {chairOf owed : A1} {S : Nat × (Nat → Nat)} {TT : List Nat} (hg : g < 7) (hc : chairOf g = nI c) (hc8 : c ≤ 8) (ho : owed g = nI o) (ho5 : o < 100000) (he : o = 0 ∨ (e ≤ 4 ∧ 10 ^ e ≤ o ∧ o < 10 ^ (e + 1))) (X : A1) (hn : n ≤ 7) (hq : q4 ≤ 11) (hl : TT.length = q4) (hS : fX10_putText 40 (nI n) X S = some (nI (n + q4), wr TT n X)) :
    ((fX10_putText 40 (nI n) X S).bind (fun x => gI (nI g) 7 (nmv (chairOf g) (fun w2 => (fX10_putNumber 40 x.fst x.snd w2).bind (fun x => gI (nI g) 7 (if owed g ≤ 0 then some (x.fst, x.fst, x.snd) else (fX10_putText 40 x.fst x.snd S335).bind (fun x => gI (nI g) 7 (nmv (owed g) (fun w3 => (fX10_putNumber 40 x.fst x.snd w3).bind (fun x => some (x.fst, x.fst, x.snd)))))))))) : Option (Int32 × Int32 × (Nat → Int32))) =
      some (nI (n + (TT ++ ((48 + c) :: (if o = 0 then [] else T335 ++ dl o (e + 1)))).length), nI (n + (TT ++ ((48 + c) :: (if o = 0 then [] else T335 ++ dl o (e + 1)))).length), wr (TT ++ ((48 + c) :: (if o = 0 then [] else T335 ++ dl o (e + 1)))) n X) := by
  rw [hS, bind_eq]
  dsimp only
  rw [gI_ok hg (by omega), nmv_eq, hc, num_ok (v := c) (e := 0) (n := n + q4) (by omega) (by omega) (Or.inl rfl) _ (by omega), bind_eq]
  dsimp only
  rw [gI_ok hg (by omega), ho, dl1 hc8, wr_app TT, hl, wr_c (48 + c) [], wr_c (48 + c) (if o = 0 then [] else T335 ++ dl o (e + 1)), List.length_append, hl, List.length_cons]
  by_cases h0 : o = 0
  · subst h0
    rw [if_pos (show nI 0 ≤ 0 by decide), if_pos rfl, List.length_nil, Nat.add_assoc]
  · rw [if_neg (nI_nle (by omega) (by omega)), if_neg h0, t335 (n := n + q4 + (0 + 1)) _ (by omega), bind_eq]
    dsimp only
    obtain ⟨he4, hlo, hhi⟩ := he.resolve_left h0
    rw [gI_ok hg (by omega), nmv_eq, num_ok (v := o) (e := e) (n := n + q4 + (0 + 1) + 6) hhi he4 (Or.inr hlo) _ (by omega), bind_eq]
    dsimp only
    rw [wr_app T335, List.length_append, dl_len, show T335.length = 6 from rfl, show n + q4 + (0 + 1) + 6 + (e + 1) = n + (q4 + (6 + (e + 1) + 1)) by omega, show n + q4 + 1 + 6 = n + q4 + (0 + 1) + 6 by omega]
    rfl
theorem RPl_wr {cs : List Nat} (h : ∀ x, x ∈ cs → x < 128) (hl : cs.length ≤ 40) (W X : A1) : RPl 40 (nI cs.length) (nI cs.length) (wr cs 0 W) (wr cs 0 X) := by
  refine ⟨rfl, cs.length, hl, rfl, rfl, fun i hi => ⟨cs.getD i 0, ?_, ?_, ?_⟩⟩
  · rw [List.getD_eq_getElem?_getD, List.getElem?_eq_getElem hi]
    exact h _ (List.getElem_mem hi)
  · rw [wr_at cs 0 W i (by omega) (by omega), Nat.sub_zero]
  · rw [wr_at cs 0 X i (by omega) (by omega), Nat.sub_zero]
theorem hT325 (n : Nat) (X Z : A1) (h : Z = wr [32, 115, 105, 116, 115] n X) : wr [32] (n + 5 + 3) (wr [32, 97, 116] (n + 5) Z) = wr (if (5 : Nat) = 5 then T325 else T327) n X := by
  subst h
  rfl
theorem hT327 (n : Nat) (X Z : A1) (h : Z = wr [32, 115, 116, 97, 110, 100, 115] n X) : wr [32] (n + 7 + 3) (wr [32, 97, 116] (n + 7) Z) = wr (if (7 : Nat) = 5 then T325 else T327) n X := by
  subst h
  rfl
/-- promise 43: plate -/
theorem T_plate {C G D : Nat} {pride speed payer cost s : A1} (hH : RH C G D pride speed payer cost s) {sit tak ser hid ovr hst pia : Int32} {ρ : Nat} (hρ : ρ ≤ 400) {coins chairOf tired hosted owed paid : A1} (hF : RF C G D sit tak ser hid (nI ρ) ovr hst pia coins chairOf tired hosted owed paid s) {gn nm : Nat → Int64} (hN : RNm G 0 gn nm) {nw : Nat} {wz tm : Int32} {W X : A1} (hP : RPl nw wz tm W X) (th x : Int32) :
    ∃ r wz' W' tm' X', fX11_plate nw (nI G) gn sit chairOf owed wz W x = some (r, wz', W') ∧ fX12_plate s nm th tm X x = some (r, 0, tm', X') ∧ RPl nw wz' tm' W' X' := by
  obtain ⟨⟨hC2, hC9, hG, hGC, hD⟩, ⟨e0, e1, e2⟩, -, -⟩ := id hH
  have e63 : s 63 = sit := hF.1.1.2.2.2.2.2
  have hnw : nw = 40 := hP.1
  subst hnw
  unfold fX11_plate fX12_plate
  rcases guest_is hH x with ⟨g, hg, rfl, h3, h4⟩ | ⟨h3, h4⟩
  · have k7 : g < 7 := by omega
    obtain ⟨r, hr, hn1, hn2⟩ := hN g hg
    rw [Nat.zero_add] at hn2
    obtain ⟨f1, f2, f3, f4, f5, f6⟩ := hF.1.2 g hg
    obtain ⟨c, hc, hcc⟩ := hF.2.1.2.2.2.2.1 g hg
    obtain ⟨-, a, b, o, -, ho, -, -, hoo⟩ := hF.2.2.1 g hg
    obtain ⟨e, he⟩ : ∃ e, o = 0 ∨ (e ≤ 4 ∧ 10 ^ e ≤ o ∧ o < 10 ^ (e + 1)) := by
      by_cases h0 : o = 0
      · exact ⟨0, Or.inl h0⟩
      · obtain ⟨e, he⟩ := pow_of (v := o) (by omega) (by omega)
        exact ⟨e, Or.inr he⟩
    have q1 := name_ok (n := 0) hr.1 hr.2 (vb_v5 r) (v5_63 hr) W (by have := hr.1; omega)
    have q2 := spells_ok (d := r.map (96 + ·)) (n := 0) (by rw [List.length_map]; exact hr.1) (fun c hc => by
      obtain ⟨l, hl, rfl⟩ := List.mem_map.mp hc
      have := hr.2 l hl
      omega) (vb_v8 r) (v8_63 hr) X (by rw [List.length_map]; have := hr.1; omega)
    rw [List.length_map, ← List.map_reverse, Nat.zero_add] at q2
    rw [Nat.zero_add] at q1
    have hcs : ∀ x, x ∈ r.reverse.map (96 + ·) → x < 128 := fun x hx => by
      obtain ⟨l, hl, rfl⟩ := List.mem_map.mp hx
      have := hr.2 l (List.mem_reverse.mp hl)
      omega
    have hL := hr.1
    have fin : ∀ b : Bool, (r.length + (tl b c o e).length ≤ 40) → RPl 40 (nI (r.length + (tl b c o e).length)) (nI (r.length + (tl b c o e).length)) (wr (tl b c o e) r.length (wr (r.reverse.map (96 + ·)) 0 W)) (wr (tl b c o e) r.length (wr (r.reverse.map (96 + ·)) 0 X)) := fun b hb => by
      have hx := RPl_wr (cs := r.reverse.map (96 + ·) ++ tl b c o e) (fun x hx => (List.mem_append.mp hx).elim (hcs x) (tl_lt (by omega) x)) (by rw [List.length_append, List.length_map, List.length_reverse]; exact hb) W X
      rw [List.length_append, List.length_map, List.length_reverse, wr_app, wr_app, List.length_map, List.length_reverse, Nat.zero_add] at hx
      exact hx
    rw [h3, h4, bind_eq, bind_eq, if_neg nn1, if_neg nn1, gI_ok k7 (by omega), gI_ok (show g < 26 by omega) (by omega), nmv_eq, nmv_eq, ix0 (by omega), hn1, hn2]
    unfold w5 w8
    rw [show fX10_putName 40 0 W (lN (v5 r)) = _ from q1, show fX12_spells 0 X (lN (v8 r)) = _ from q2, bind_eq, bind_eq]
    dsimp only
    rw [seated_eq (by omega), bind_eq]
    unfold fX12_doesSit
    rw [e63, bitOf_eq (by omega), bind_eq, bind_eq]
    by_cases hb : bt sit g = true
    · rw [if_pos hb, if_neg nn1, if_neg nn1]
      obtain ⟨N, hN1, hN2, hM⟩ := bpl (s := s) (nm := nm) (q := 5) k7 (f2.trans hcc) (by omega) (f5.trans hoo) (by omega) he 0 (wr (r.reverse.map (96 + ·)) 0 X) (Or.inl rfl) hL (y325 _ (by omega)) (hT325 _ _)
      have hC := cpl (e := e) k7 hcc (by omega) hoo (by omega) he (wr (r.reverse.map (96 + ·)) 0 W) hL (by omega) (show T325.length = 9 from rfl) (t325 _ (by omega))
      rw [hM, hC]
      subst hN2
      exact ⟨_, _, _, _, _, rfl, rfl, fin true hN1⟩
    · rw [if_neg hb, if_pos rfl, if_pos rfl]
      obtain ⟨N, hN1, hN2, hM⟩ := bpl (s := s) (nm := nm) (q := 7) k7 (f2.trans hcc) (by omega) (f5.trans hoo) (by omega) he 0 (wr (r.reverse.map (96 + ·)) 0 X) (Or.inr rfl) hL (y327 _ (by omega)) (hT327 _ _)
      have hC := cpl (e := e) k7 hcc (by omega) hoo (by omega) he (wr (r.reverse.map (96 + ·)) 0 W) hL (by omega) (show T327.length = 11 from rfl) (t327 _ (by omega))
      rw [hM, hC]
      subst hN2
      exact ⟨_, _, _, _, _, rfl, rfl, fin false hN1⟩
  · rw [h3, h4, bind_eq, bind_eq, if_pos rfl, if_pos rfl]
    exact ⟨_, _, _, _, _, rfl, rfl, hP⟩
