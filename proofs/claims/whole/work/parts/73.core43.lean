/-! ===== pure: promise 40: said ===== -/
/-- the truth of a plain one -/
def bI (b : Bool) : Int32 := if b = true then 1 else 0
theorem bI_of {x : Option Int32} (h : x = some 0 ∨ x = some 1) : x = some (bI (decide (x = some 1))) := by
  rcases h with rfl | rfl
  · rfl
  · rfl
theorem cmp_eq {v u : Int32} {q : Nat} (h1 : 60 ≤ q) (h2 : q ≤ 62) (s : A1) : ∃ b, fX7_compares v (nI q) u = some (bI b) ∧ bX12_isLeaf_185 s (nI q) u v = some (bI b) := by
  unfold fX7_compares bX12_isLeaf_185
  have : q = 60 ∨ q = 61 ∨ q = 62 := by omega
  rcases this with rfl | rfl | rfl
  · rw [if_pos (show nI 60 = 60 from rfl), if_pos (show nI 60 = 60 from rfl)]
    by_cases h : u ≤ v
    · rw [if_pos h]
      exact ⟨false, rfl, rfl⟩
    · rw [if_neg h]
      exact ⟨true, rfl, rfl⟩
  · rw [if_neg (show ¬ nI 61 = 60 by decide), if_neg (show ¬ nI 61 = 62 by decide), if_neg (show ¬ nI 61 = 60 by decide), if_pos (show nI 61 = 61 from rfl)]
    by_cases h : v = u
    · rw [if_pos h]
      exact ⟨true, rfl, rfl⟩
    · rw [if_neg h]
      exact ⟨false, rfl, rfl⟩
  · rw [if_neg (show ¬ nI 62 = 60 by decide), if_pos (show nI 62 = 62 from rfl), if_neg (show ¬ nI 62 = 60 by decide), if_neg (show ¬ nI 62 = 61 by decide)]
    by_cases h : v ≤ u
    · rw [if_pos h]
      exact ⟨false, rfl, rfl⟩
    · rw [if_neg h]
      exact ⟨true, rfl, rfl⟩
section
variable {C G D : Nat} {pride speed payer cost s : A1} {sit tak ser hid rnd ovr hst pia : Int32} {coins chairOf tired hosted owed paid : A1}
theorem has1 {v : Nat} (hG : G ≤ 7) (hv : v < G) : fX2_hasGuest (nI G) (nI v) = some 1 := by
  unfold fX2_hasGuest
  rw [if_neg (nI_pos (by omega)), if_neg (nI_ge hv (by omega))]
/-- a plain one of a GUEST, both -/
theorem leaf_sim (hH : RH C G D pride speed payer cost s) (hF : RF C G D sit tak ser hid rnd ovr hst pia coins chairOf tired hosted owed paid s) {st sg va : A1} {i g : Nat} (hi : i < 40) (hg : g < G) {x y z : Int32} (hC : CRel G (st i) (sg i) (va i) x y z) (hl : ¬ (st i = 12 ∨ st i = 11 ∨ st i = 10)) :
    ∃ b, fX7_holds st sg va sit (nI G) pride payer coins chairOf tired hosted owed (nI g) (nI i) = some (bI b) ∧ fX12_isLeaf s (nI g) x y z = some (bI b) := by
  obtain ⟨⟨hC2, hC9, hG, hGC, hD⟩, ⟨e0, e1, e2⟩, h3, -⟩ := id hH
  obtain ⟨⟨⟨-, -, -, -, -, e63⟩, hE⟩, -, -⟩ := id hF
  obtain ⟨f1, f2, f3, f4, f5, f6⟩ := hE g hg
  obtain ⟨p1, p2, -⟩ := h3 g hg
  have gg : ∀ {α : Type} {x : Option α}, gI (nI g) 7 x = x := fun {α x} => gI_ok (by omega) (by omega)
  have gi : ∀ {α : Type} {x : Option α}, gI (nI i) 40 x = x := fun {α x} => gI_ok (by omega) (by omega)
  have ig : Int32.toNatClampNeg (nI g) = g := ix0 (by omega)
  have ii : Int32.toNatClampNeg (nI i) = i := ix0 (by omega)
  unfold fX7_holds fX12_isLeaf
  rw [gi, nmv_eq, gi, ii]
  rcases hC with ⟨h, -⟩ | ⟨h, -⟩ | ⟨h, -⟩ | ⟨j, hj, h, hx⟩ | ⟨j, v, hj, hv, h, hx, hc, hz⟩ | ⟨j, q, v, hj, hq, hv, h, hx, hb, hy, hc, hz⟩
  · exact absurd (Or.inl h) hl
  · exact absurd (Or.inr (Or.inl h)) hl
  · exact absurd (Or.inr (Or.inr h)) hl
  · have : j = 0 ∨ j = 1 ∨ j = 2 := by omega
    rcases this with rfl | rfl | rfl
    · rw [if_pos (show st i = 13 from h), if_pos (show x = 0 from hx), seated_eq (by omega), bind_eq, doesSit_eq (by omega), bind_eq, e63]
      exact ⟨bt sit g, rfl, rfl⟩
    · by_cases ho : owed g ≤ 0
      · refine ⟨false, ?_, ?_⟩
        · rw [h, if_neg (show ¬ nI (13 + 1) = 13 by decide), if_pos (show nI (13 + 1) = 14 from rfl), gg, ig, if_pos ho]
          rfl
        · rw [hx, if_neg (show ¬ nI 1 = 0 by decide), if_pos (show nI 1 = 1 from rfl), show (78 : Int32) + nI g = nI (78 + g) from nI_add 78 g, gI_ok (show 78 + g < 273 by omega) (by omega), ix0 (show 78 + g < 1000 by omega), f5, if_pos ho]
          rfl
      · refine ⟨true, ?_, ?_⟩
        · rw [h, if_neg (show ¬ nI (13 + 1) = 13 by decide), if_pos (show nI (13 + 1) = 14 from rfl), gg, ig, if_neg ho]
          rfl
        · rw [hx, if_neg (show ¬ nI 1 = 0 by decide), if_pos (show nI 1 = 1 from rfl), show (78 : Int32) + nI g = nI (78 + g) from nI_add 78 g, gI_ok (show 78 + g < 273 by omega) (by omega), ix0 (show 78 + g < 1000 by omega), f5, if_neg ho]
          rfl
    · by_cases ho : tired g < pride g
      · refine ⟨false, ?_, ?_⟩
        · rw [h, if_neg (show ¬ nI (13 + 2) = 13 by decide), if_neg (show ¬ nI (13 + 2) = 14 by decide), if_pos (show nI (13 + 2) = 15 from rfl), gg, gg, ig, if_pos ho]
          rfl
        · rw [hx, if_neg (show ¬ nI 2 = 0 by decide), if_neg (show ¬ nI 2 = 1 by decide), if_pos (show nI 2 = 2 from rfl), show (64 : Int32) + nI g = nI (64 + g) from nI_add 64 g, show (10 : Int32) + nI g = nI (10 + g) from nI_add 10 g, gI_ok (show 64 + g < 273 by omega) (by omega), gI_ok (show 10 + g < 273 by omega) (by omega), ix0 (show 64 + g < 1000 by omega), ix0 (show 10 + g < 1000 by omega), f3, p1, if_pos ho]
          rfl
      · refine ⟨true, ?_, ?_⟩
        · rw [h, if_neg (show ¬ nI (13 + 2) = 13 by decide), if_neg (show ¬ nI (13 + 2) = 14 by decide), if_pos (show nI (13 + 2) = 15 from rfl), gg, gg, ig, if_neg ho]
          rfl
        · rw [hx, if_neg (show ¬ nI 2 = 0 by decide), if_neg (show ¬ nI 2 = 1 by decide), if_pos (show nI 2 = 2 from rfl), show (64 : Int32) + nI g = nI (64 + g) from nI_add 64 g, show (10 : Int32) + nI g = nI (10 + g) from nI_add 10 g, gI_ok (show 64 + g < 273 by omega) (by omega), gI_ok (show 10 + g < 273 by omega) (by omega), ix0 (show 64 + g < 1000 by omega), ix0 (show 10 + g < 1000 by omega), f3, p1, if_neg ho]
          rfl
  · obtain ⟨u1, u2, u3, u4, u5, u6⟩ := hE v hv
    have gv : ∀ {α : Type} {x : Option α}, gI (nI v) 7 x = x := fun {α x} => gI_ok (by omega) (by omega)
    have iv : Int32.toNatClampNeg (nI v) = v := ix0 (by omega)
    rcases hj with rfl | rfl
    · by_cases ho : chairOf g = chairOf v
      · refine ⟨true, ?_, ?_⟩
        · rw [h, hc, if_neg (show ¬ nI (13 + 3) = 13 by decide), if_neg (show ¬ nI (13 + 3) = 14 by decide), if_neg (show ¬ nI (13 + 3) = 15 by decide), if_pos (show nI (13 + 3) = 16 from rfl), has1 hG hv, bind_eq, if_neg nn1, gg, gv, ig, iv, if_pos ho]
          rfl
        · rw [hx, hz, if_neg (show ¬ nI 3 = 0 by decide), if_neg (show ¬ nI 3 = 1 by decide), if_neg (show ¬ nI 3 = 2 by decide), if_pos (show nI 3 = 3 from rfl), show (56 : Int32) + nI g = nI (56 + g) from nI_add 56 g, show (56 : Int32) + nI v = nI (56 + v) from nI_add 56 v, gI_ok (show 56 + g < 273 by omega) (by omega), gI_ok (show 56 + v < 273 by omega) (by omega), ix0 (show 56 + g < 1000 by omega), ix0 (show 56 + v < 1000 by omega), f2, u2, if_pos ho]
          rfl
      · refine ⟨false, ?_, ?_⟩
        · rw [h, hc, if_neg (show ¬ nI (13 + 3) = 13 by decide), if_neg (show ¬ nI (13 + 3) = 14 by decide), if_neg (show ¬ nI (13 + 3) = 15 by decide), if_pos (show nI (13 + 3) = 16 from rfl), has1 hG hv, bind_eq, if_neg nn1, gg, gv, ig, iv, if_neg ho]
          rfl
        · rw [hx, hz, if_neg (show ¬ nI 3 = 0 by decide), if_neg (show ¬ nI 3 = 1 by decide), if_neg (show ¬ nI 3 = 2 by decide), if_pos (show nI 3 = 3 from rfl), show (56 : Int32) + nI g = nI (56 + g) from nI_add 56 g, show (56 : Int32) + nI v = nI (56 + v) from nI_add 56 v, gI_ok (show 56 + g < 273 by omega) (by omega), gI_ok (show 56 + v < 273 by omega) (by omega), ix0 (show 56 + g < 1000 by omega), ix0 (show 56 + v < 1000 by omega), f2, u2, if_neg ho]
          rfl
    · by_cases ho : payer v = nI g
      · refine ⟨true, ?_, ?_⟩
        · rw [h, hc, if_neg (show ¬ nI (13 + 4) = 13 by decide), if_neg (show ¬ nI (13 + 4) = 14 by decide), if_neg (show ¬ nI (13 + 4) = 15 by decide), if_neg (show ¬ nI (13 + 4) = 16 by decide), if_pos (show nI (13 + 4) = 17 from rfl), has1 hG hv, bind_eq, if_neg nn1, gv, iv, if_pos ho]
          rfl
        · rw [hx, hz, if_neg (show ¬ nI 4 = 0 by decide), if_neg (show ¬ nI 4 = 1 by decide), if_neg (show ¬ nI 4 = 2 by decide), if_neg (show ¬ nI 4 = 3 by decide), if_pos (show nI 4 = 4 from rfl), payerM hH hv, bind_eq, if_pos ho]
          rfl
      · refine ⟨false, ?_, ?_⟩
        · rw [h, hc, if_neg (show ¬ nI (13 + 4) = 13 by decide), if_neg (show ¬ nI (13 + 4) = 14 by decide), if_neg (show ¬ nI (13 + 4) = 15 by decide), if_neg (show ¬ nI (13 + 4) = 16 by decide), if_pos (show nI (13 + 4) = 17 from rfl), has1 hG hv, bind_eq, if_neg nn1, gv, iv, if_neg ho]
          rfl
        · rw [hx, hz, if_neg (show ¬ nI 4 = 0 by decide), if_neg (show ¬ nI 4 = 1 by decide), if_neg (show ¬ nI 4 = 2 by decide), if_neg (show ¬ nI 4 = 3 by decide), if_pos (show nI 4 = 4 from rfl), payerM hH hv, bind_eq, if_neg ho]
          rfl
  · have : j = 5 ∨ j = 6 ∨ j = 7 ∨ j = 8 := by omega
    rcases this with rfl | rfl | rfl | rfl
    · obtain ⟨b, c1, c2⟩ := cmp_eq (v := coins g) (u := nI v) hq.1 hq.2 s
      refine ⟨b, ?_, ?_⟩
      · rw [h, hb, hc, if_neg (show ¬ nI (13 + 5) = 13 by decide), if_neg (show ¬ nI (13 + 5) = 14 by decide), if_neg (show ¬ nI (13 + 5) = 15 by decide), if_neg (show ¬ nI (13 + 5) = 16 by decide), if_neg (show ¬ nI (13 + 5) = 17 by decide), if_pos (show nI (13 + 5) = 18 from rfl), gg, gi, ig, c1, bind_eq]
      · rw [hx, hy, hz, if_neg (show ¬ nI 5 = 0 by decide), if_neg (show ¬ nI 5 = 1 by decide), if_neg (show ¬ nI 5 = 2 by decide), if_neg (show ¬ nI 5 = 3 by decide), if_neg (show ¬ nI 5 = 4 by decide), if_pos (show nI 5 = 5 from rfl), show (49 : Int32) + nI g = nI (49 + g) from nI_add 49 g, gI_ok (show 49 + g < 273 by omega) (by omega), ix0 (show 49 + g < 1000 by omega), f1, c2]
    · obtain ⟨b, c1, c2⟩ := cmp_eq (v := tired g) (u := nI v) hq.1 hq.2 s
      refine ⟨b, ?_, ?_⟩
      · rw [h, hb, hc, if_neg (show ¬ nI (13 + 6) = 13 by decide), if_neg (show ¬ nI (13 + 6) = 14 by decide), if_neg (show ¬ nI (13 + 6) = 15 by decide), if_neg (show ¬ nI (13 + 6) = 16 by decide), if_neg (show ¬ nI (13 + 6) = 17 by decide), if_neg (show ¬ nI (13 + 6) = 18 by decide), if_pos (show nI (13 + 6) = 19 from rfl), gg, gi, ig, c1, bind_eq]
      · rw [hx, hy, hz, if_neg (show ¬ nI 6 = 0 by decide), if_neg (show ¬ nI 6 = 1 by decide), if_neg (show ¬ nI 6 = 2 by decide), if_neg (show ¬ nI 6 = 3 by decide), if_neg (show ¬ nI 6 = 4 by decide), if_neg (show ¬ nI 6 = 5 by decide), if_pos (show nI 6 = 6 from rfl), show (64 : Int32) + nI g = nI (64 + g) from nI_add 64 g, gI_ok (show 64 + g < 273 by omega) (by omega), ix0 (show 64 + g < 1000 by omega), f3, c2]
    · obtain ⟨b, c1, c2⟩ := cmp_eq (v := hosted g) (u := nI v) hq.1 hq.2 s
      refine ⟨b, ?_, ?_⟩
      · rw [h, hb, hc, if_neg (show ¬ nI (13 + 7) = 13 by decide), if_neg (show ¬ nI (13 + 7) = 14 by decide), if_neg (show ¬ nI (13 + 7) = 15 by decide), if_neg (show ¬ nI (13 + 7) = 16 by decide), if_neg (show ¬ nI (13 + 7) = 17 by decide), if_neg (show ¬ nI (13 + 7) = 18 by decide), if_neg (show ¬ nI (13 + 7) = 19 by decide), if_pos (show nI (13 + 7) = 20 from rfl), gg, gi, ig, c1, bind_eq]
      · rw [hx, hy, hz, if_neg (show ¬ nI 7 = 0 by decide), if_neg (show ¬ nI 7 = 1 by decide), if_neg (show ¬ nI 7 = 2 by decide), if_neg (show ¬ nI 7 = 3 by decide), if_neg (show ¬ nI 7 = 4 by decide), if_neg (show ¬ nI 7 = 5 by decide), if_neg (show ¬ nI 7 = 6 by decide), if_pos (show nI 7 = 7 from rfl), show (71 : Int32) + nI g = nI (71 + g) from nI_add 71 g, gI_ok (show 71 + g < 273 by omega) (by omega), ix0 (show 71 + g < 1000 by omega), f4, c2]
    · obtain ⟨b, c1, c2⟩ := cmp_eq (v := nI g) (u := nI v) hq.1 hq.2 s
      refine ⟨b, ?_, ?_⟩
      · rw [h, hb, hc, if_neg (show ¬ nI (13 + 8) = 13 by decide), if_neg (show ¬ nI (13 + 8) = 14 by decide), if_neg (show ¬ nI (13 + 8) = 15 by decide), if_neg (show ¬ nI (13 + 8) = 16 by decide), if_neg (show ¬ nI (13 + 8) = 17 by decide), if_neg (show ¬ nI (13 + 8) = 18 by decide), if_neg (show ¬ nI (13 + 8) = 19 by decide), if_neg (show ¬ nI (13 + 8) = 20 by decide), gi, c1, bind_eq]
      · rw [hx, hy, hz, if_neg (show ¬ nI 8 = 0 by decide), if_neg (show ¬ nI 8 = 1 by decide), if_neg (show ¬ nI 8 = 2 by decide), if_neg (show ¬ nI 8 = 3 by decide), if_neg (show ¬ nI 8 = 4 by decide), if_neg (show ¬ nI 8 = 5 by decide), if_neg (show ¬ nI 8 = 6 by decide), if_neg (show ¬ nI 8 = 7 by decide), c2]
end
