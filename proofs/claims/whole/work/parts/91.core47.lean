/-! ===== pure: promises 6, 38 (guest, mean), where they return and where they throw ===== -/
theorem mn_m1 (d : Nat) : nI (d + 1) + (-1) = nI d := by
  rw [← nI_1, Int32.add_assoc]
  exact Int32.add_zero _
theorem psum_nat {f : A1} : ∀ {n : Nat}, (∀ i, i < n → ∃ b, b ≤ 999 ∧ f i = nI b) → ∃ P, P ≤ 999 * n ∧ psum f n = nI P
  | 0, _ => ⟨0, Nat.le_refl _, rfl⟩
  | n + 1, h => by
    obtain ⟨P, h1, h2⟩ := psum_nat (n := n) (fun i hi => h i (by omega))
    obtain ⟨b, h3, h4⟩ := h n (by omega)
    exact ⟨P + b, by omega, by rw [psum, h2, h4, nI_add]⟩
theorem nI_0iff {n : Nat} (h : n < 2 ^ 31) : nI n = 0 ↔ n = 0 := nI_eq (b := 0) h (by omega)
theorem meanC {G P x3 : Nat} (hG1 : 1 ≤ G) (hG : G ≤ 7) (hP : P ≤ 6993) (hx : x3 ≤ 6993) (v : Int32) : ∀ d n, d < n → Nat.gcd G P ≤ d → d ≤ 7 → lX11_mean_52 v (nI P) n (nI G) (nI x3) (nI d) = some (nI (x3 / Nat.gcd G P)) := by
  have hg1 : 0 < Nat.gcd G P := Nat.gcd_pos_of_pos_left P hG1
  intro d
  induction d with
  | zero => intro n hn hg; omega
  | succ d ih =>
    intro n hn hg h7
    obtain ⟨n, rfl⟩ := sn hn
    rw [lX11_mean_52]
    by_cases h1 : d = 0
    · subst h1
      rw [if_pos (show nI (0 + 1) ≤ 1 by decide)]
      have e : Nat.gcd G P = 1 := by omega
      rw [e, Nat.div_one]
    · rw [if_neg (show ¬ nI (d + 1) ≤ 1 from fun h => by
        have := (nI_leI (b := 1) (show d + 1 < 2 ^ 31 by omega) (by omega)).mp h
        omega)]
      have hz : ¬ nI (d + 1) = 0 := nI_ne0 (by omega) (by omega)
      rw [gZ_ok hz, gZ_ok hz, gZ_ok hz, pk_rem (show G < 2 ^ 31 by omega) (by omega) (by omega), pk_rem (show P < 2 ^ 31 by omega) (by omega) (by omega), mn_m1]
      have mG : G % (d + 1) < d + 1 := Nat.mod_lt _ (by omega)
      have mP : P % (d + 1) < d + 1 := Nat.mod_lt _ (by omega)
      by_cases a : G % (d + 1) = 0
      · rw [if_pos ((nI_0iff (by omega)).mpr a)]
        by_cases b : P % (d + 1) = 0
        · rw [if_pos ((nI_0iff (by omega)).mpr b), pk_div (by omega) (by omega) (by omega)]
          have h2 : d + 1 ∣ Nat.gcd G P := Nat.dvd_gcd (Nat.dvd_of_mod_eq_zero a) (Nat.dvd_of_mod_eq_zero b)
          have h3 := Nat.le_of_dvd hg1 h2
          rw [show Nat.gcd G P = d + 1 by omega]
        · rw [if_neg (fun h => b ((nI_0iff (by omega)).mp h))]
          refine ih n (by omega) ?_ (by omega)
          rcases Nat.lt_or_ge (Nat.gcd G P) (d + 1) with h | h
          · omega
          · have e : Nat.gcd G P = d + 1 := by omega
            exact absurd (Nat.mod_eq_zero_of_dvd (e ▸ Nat.gcd_dvd_right G P)) b
      · rw [if_neg (fun h => a ((nI_0iff (by omega)).mp h))]
        refine ih n (by omega) ?_ (by omega)
        rcases Nat.lt_or_ge (Nat.gcd G P) (d + 1) with h | h
        · omega
        · have e : Nat.gcd G P = d + 1 := by omega
          exact absurd (Nat.mod_eq_zero_of_dvd (e ▸ Nat.gcd_dvd_left G P)) a
theorem meanM {s : A1} {G P : Nat} (hG : G ≤ 7) (hP : P ≤ 6993) (e1 : s 1 = nI G) (ep : fX12_paidInAll s = some (nI P)) (th x : Int32) : ∀ n b a, b < n → 1 ≤ a → a ≤ 6993 → b ≤ 6993 → lX12_mean_44 s n th x (nI a) (nI b) = if x = 0 then some (nI (P / Nat.gcd a b), th) else some (nI (G / Nat.gcd a b), th) := by
  intro n
  induction n with
  | zero => intro b a h; omega
  | succ n ih =>
    intro b a hb ha ha2 hb2
    rw [lX12_mean_44]
    by_cases h0 : b = 0
    · subst h0
      have hz : ¬ nI a = 0 := nI_ne0 (by omega) (by omega)
      rw [if_pos (show nI 0 = 0 from rfl), ep, bind_eq, e1, gZ_ok hz, gZ_ok hz, pk_div (by omega) (by omega) (by omega), pk_div (by omega) (by omega) (by omega), Nat.gcd_zero_right]
    · have hz : ¬ nI b = 0 := nI_ne0 (by omega) (by omega)
      have hm : a % b < b := Nat.mod_lt _ (by omega)
      rw [if_neg hz, gZ_ok hz, nmv_eq, pk_rem (by omega) (by omega) (by omega), ih (a % b) b (by omega) (by omega) (by omega) (by omega)]
      have e : Nat.gcd b (a % b) = Nat.gcd a b := by
        rw [Nat.gcd_comm b (a % b), ← Nat.gcd_rec, Nat.gcd_comm]
      rw [e]
theorem meanM1 {s : A1} {G P : Nat} (hG1 : 1 ≤ G) (hG : G ≤ 7) (hP : P ≤ 6993) (e1 : s 1 = nI G) (ep : fX12_paidInAll s = some (nI P)) (th x : Int32) : lX12_mean_44 s 5000 th x (nI G) (nI P) = if x = 0 then some (nI (P / Nat.gcd G P), th) else some (nI (G / Nat.gcd G P), th) := by
  by_cases h0 : P = 0
  · exact meanM hG hP e1 ep th x 5000 P G (by omega) hG1 (by omega) hP
  · have hz : ¬ nI P = 0 := nI_ne0 (by omega) (by omega)
    have hm : G % P ≤ G := Nat.mod_le _ _
    rw [show (5000 : Nat) = 4999 + 1 from rfl, lX12_mean_44, if_neg hz, gZ_ok hz, nmv_eq, pk_rem (by omega) (by omega) (by omega), meanM hG hP e1 ep th x 4999 (G % P) P (by omega) (by omega) hP (by omega)]
    have e : Nat.gcd P (G % P) = Nat.gcd G P := by
      rw [Nat.gcd_comm P (G % P), ← Nat.gcd_rec, Nat.gcd_comm]
    rw [e]
theorem thIf0 (th : Int32) : fX12_throwsIf th 0 = some (0, 0) := rfl
theorem thIf1 (th : Int32) : fX12_throwsIf th 1 = some (1, 1) := rfl
theorem paid_nat {C G D : Nat} {sit tak ser hid ovr hst pia rnd : Int32} {coins chairOf tired hosted owed paid s : A1} (hG : G ≤ 7) (hF : RF C G D sit tak ser hid rnd ovr hst pia coins chairOf tired hosted owed paid s) : ∃ P, P ≤ 6993 ∧ pia = nI P := by
  obtain ⟨P, h1, h2⟩ := psum_nat (f := paid) (n := G) (fun i hi => by
    obtain ⟨-, a, b, o, h1, -, -, h2, -⟩ := hF.2.2.1 i hi
    exact ⟨b, by omega, h2⟩)
  exact ⟨P, by omega, by rw [hF.2.2.2, h2]⟩
theorem bm1 (s : A1) (th x : Int32) : bX12_mean_24 s th x 1 = some (0, 1) := by
  unfold bX12_mean_24
  rw [thIf1, bind_eq]
  rfl
theorem bm0 {s : A1} {P : Nat} (ep : fX12_paidInAll s = some (nI P)) (th x : Int32) : bX12_mean_24 s th x 0 = lX12_mean_44 s 5000 0 x (s 1) (nI P) := by
  unfold bX12_mean_24
  rw [thIf0, bind_eq, ep]
  rfl
/-- mean -/
theorem T_mean {C G D : Nat} {pride speed payer cost s : A1} (hH : RH C G D pride speed payer cost s) {sit tak ser hid ovr hst pia : Int32} {ρ : Nat} (hρ : ρ ≤ 400) {coins chairOf tired hosted owed paid : A1} (hF : RF C G D sit tak ser hid (nI ρ) ovr hst pia coins chairOf tired hosted owed paid s) (th x : Int32) :
    ((nI G < 1 ∨ x < 0 ∨ ¬ x ≤ 1) ∧ fX12_mean s th x = some (0, 1)) ∨ ∃ r, fX11_mean (nI G) pia x = some r ∧ fX12_mean s th x = some (r, 0) := by
  obtain ⟨⟨hC2, hC9, hG, hGC, hD⟩, ⟨e0, e1, e2⟩, -, -⟩ := id hH
  obtain ⟨P, hP, rfl⟩ := paid_nat hG hF
  have ep := paidM hH hρ hF
  by_cases hG0 : G = 0
  · subst hG0
    left
    refine ⟨Or.inl (by decide), ?_⟩
    unfold fX12_mean
    rw [e1, if_pos (show nI 0 = 0 from rfl), bm1]
  · have hz : ¬ nI G = 0 := nI_ne0 (by omega) (by omega)
    have hg1 : ¬ nI G < 1 := nI_nlt (b := 1) (by omega) (by omega)
    by_cases h1 : x < 0
    · left
      refine ⟨Or.inr (Or.inl h1), ?_⟩
      unfold fX12_mean fX12_isIn
      rw [e1, if_neg hz, if_pos h1, bind_eq, if_pos rfl, bm1]
    · by_cases h2 : x ≤ 1
      · have h3 : ¬ (1 : Int32) < x := by
          rw [Int32.le_iff_toInt_le] at h2
          rw [Int32.lt_iff_toInt_lt]
          omega
        have hM : fX12_mean s th x = if x = 0 then some (nI (P / Nat.gcd G P), 0) else some (nI (G / Nat.gcd G P), 0) := by
          unfold fX12_mean fX12_isIn
          rw [e1, if_neg hz, if_neg h1, if_neg h3, bind_eq, if_neg nn1, bm0 ep, e1, meanM1 (by omega) hG hP e1 ep 0 x]
        have hgl : Nat.gcd G P ≤ G := Nat.gcd_le_left P (by omega)
        right
        rw [hM]
        unfold fX11_mean
        rw [if_neg hg1, if_neg h1, if_pos h2]
        by_cases h4 : x = 0
        · rw [if_pos h4, if_pos h4, meanC (by omega) hG hP hP (nI G) G 5000 (by omega) hgl hG]
          exact ⟨_, rfl, rfl⟩
        · rw [if_neg h4, if_neg h4, meanC (by omega) hG hP (by omega) (nI G) G 5000 (by omega) hgl hG]
          exact ⟨_, rfl, rfl⟩
      · have h3 : (1 : Int32) < x := by
          rw [Int32.le_iff_toInt_le] at h2
          rw [Int32.lt_iff_toInt_lt]
          omega
        left
        refine ⟨Or.inr (Or.inr h2), ?_⟩
        unfold fX12_mean fX12_isIn
        rw [e1, if_neg hz, if_neg h1, if_pos h3, bind_eq, if_pos rfl, bm1]
theorem and1 (x : Int32) : x &&& 1 = 0 ∨ x &&& 1 = 1 := by
  have h : (x &&& 1).toBitVec = x.toBitVec &&& 1#32 := rfl
  rw [BitVec.and_one_eq_setWidth_ofBool_getLsbD] at h
  cases hb : x.toBitVec.getLsbD 0
  · rw [hb] at h
    exact Or.inl (Int32.toBitVec_inj.mp h)
  · rw [hb] at h
    exact Or.inr (Int32.toBitVec_inj.mp h)
/-- guest -/
theorem T_guest {C G D : Nat} {pride speed payer cost s : A1} (hH : RH C G D pride speed payer cost s) {sit tak ser hid ovr hst pia : Int32} {ρ : Nat} (hρ : ρ ≤ 400) {coins chairOf tired hosted owed paid : A1} (hF : RF C G D sit tak ser hid (nI ρ) ovr hst pia coins chairOf tired hosted owed paid s) (th x y : Int32) :
    (∃ r, fX2_hasGuest (nI G) x = some r ∧ (r = 0 ∨ (y.toInt < 0 ∨ 9 < y.toInt)) ∧ fX12_guest s th x y = some (0, 1)) ∨ ∃ r, fX11_guest (nI G) pride speed payer sit coins chairOf tired hosted owed paid x y = some r ∧ fX12_guest s th x y = some (r, 0) := by
  obtain ⟨⟨hC2, hC9, hG, hGC, hD⟩, ⟨e0, e1, e2⟩, hh, -⟩ := id hH
  have e63 : s 63 = sit := hF.1.1.2.2.2.2.2
  unfold fX12_guest
  rcases guest_is hH x with ⟨g, hg, rfl, h3, h4⟩ | ⟨h3, h4⟩
  · rw [h4, bind_eq, if_neg nn1]
    unfold fX12_isIn
    by_cases h1 : y < 0
    · rw [if_pos h1, bind_eq, if_pos rfl]
      exact Or.inl ⟨1, h3, Or.inr (Or.inl (by rw [Int32.lt_iff_toInt_lt] at h1; exact h1)), rfl⟩
    · rw [if_neg h1]
      by_cases h2 : (9 : Int32) < y
      · rw [if_pos h2, bind_eq, if_pos rfl]
        exact Or.inl ⟨1, h3, Or.inr (Or.inr (by rw [Int32.lt_iff_toInt_lt] at h2; exact h2)), rfl⟩
      · rw [if_neg h2, bind_eq, if_neg nn1]
        right
        unfold bX12_guest_24 fX11_guest
        rw [h3, bind_eq, if_neg nn1, thIf0, bind_eq]
        dsimp only
        obtain ⟨p1, p2, -, -, -⟩ := hh g hg
        obtain ⟨f1, f2, f3, f4, f5, f6⟩ := hF.1.2 g hg
        rw [if_pos rfl, c49, c10, c17, c56, c64, c71, c78, c85, e63, payerM hH hg, bind_eq]
        have k7 : g < 7 := by omega
        rw [gI_oka (by omega) (by omega), gI_oka (by omega) (by omega), gI_oka (by omega) (by omega), gI_oka (by omega) (by omega), gI_oka (by omega) (by omega), gI_oka (by omega) (by omega), gI_oka (by omega) (by omega), gI_oka (by omega) (by omega)]
        rw [ixa (by omega), ixa (by omega), ixa (by omega), ixa (by omega), ixa (by omega), ixa (by omega), ixa (by omega), ixa (by omega)]
        simp only [gI_ok (show g < 7 from k7) (show 7 ≤ 1000 by omega), ix0 (show g < 1000 by omega)]
        rw [p1, p2, f1, f2, f3, f4, f5, f6]
        by_cases c0 : y = 0
        · rw [if_pos c0, if_pos c0]; exact ⟨_, rfl, rfl⟩
        rw [if_neg c0, if_neg c0]
        by_cases c1 : y = 1
        · rw [if_pos c1, if_pos c1]; exact ⟨_, rfl, rfl⟩
        rw [if_neg c1, if_neg c1]
        by_cases c2 : y = 2
        · rw [if_pos c2, if_pos c2]; exact ⟨_, rfl, rfl⟩
        rw [if_neg c2, if_neg c2]
        by_cases c3 : y = 3
        · rw [if_pos c3, if_pos c3]; exact ⟨_, rfl, rfl⟩
        rw [if_neg c3, if_neg c3]
        by_cases c4 : y = 4
        · rw [if_pos c4, if_pos c4]
          unfold fX1_isSeated
          rcases and1 (sit >>> (nI g &&& 31)) with hb | hb
          · rw [hb, if_neg (by decide), bind_eq, if_pos rfl]
            exact ⟨_, rfl, rfl⟩
          · rw [hb, if_pos rfl, bind_eq, if_neg nn1]
            exact ⟨_, rfl, rfl⟩
        rw [if_neg c4, if_neg c4]
        by_cases c5 : y = 5
        · rw [if_pos c5, if_pos c5]; exact ⟨_, rfl, rfl⟩
        rw [if_neg c5, if_neg c5]
        by_cases c6 : y = 6
        · rw [if_pos c6, if_pos c6]; exact ⟨_, rfl, rfl⟩
        rw [if_neg c6, if_neg c6]
        by_cases c7 : y = 7
        · rw [if_pos c7, if_pos c7]; exact ⟨_, rfl, rfl⟩
        rw [if_neg c7, if_neg c7]
        by_cases c8 : y = 8
        · rw [if_pos c8, if_pos c8]; exact ⟨_, rfl, rfl⟩
        rw [if_neg c8, if_neg c8]
        have c9 : y = 9 := by
          apply Int32.toInt_inj.mp
          rw [Int32.lt_iff_toInt_lt] at h1 h2
          have n0 : y.toInt ≠ 0 := fun h => c0 (Int32.toInt_inj.mp h)
          have n1 : y.toInt ≠ 1 := fun h => c1 (Int32.toInt_inj.mp h)
          have n2 : y.toInt ≠ 2 := fun h => c2 (Int32.toInt_inj.mp h)
          have n3 : y.toInt ≠ 3 := fun h => c3 (Int32.toInt_inj.mp h)
          have n4 : y.toInt ≠ 4 := fun h => c4 (Int32.toInt_inj.mp h)
          have n5 : y.toInt ≠ 5 := fun h => c5 (Int32.toInt_inj.mp h)
          have n6 : y.toInt ≠ 6 := fun h => c6 (Int32.toInt_inj.mp h)
          have n7 : y.toInt ≠ 7 := fun h => c7 (Int32.toInt_inj.mp h)
          have n8 : y.toInt ≠ 8 := fun h => c8 (Int32.toInt_inj.mp h)
          have m1 : (0 : Int32).toInt = 0 := rfl
          have m2 : (9 : Int32).toInt = 9 := rfl
          omega
        rw [if_pos c9]
        exact ⟨_, rfl, rfl⟩
  · rw [h4, bind_eq, if_pos rfl]
    exact Or.inl ⟨0, h3, Or.inl rfl, rfl⟩
