/-! ===== pure: promises 2, 3, 5, 7, 8, 17, 20, 22, 29, 34, 38, 43 ===== -/
theorem chair_loop {C G D : Nat} {pride speed payer cost s : A1} (hH : RH C G D pride speed payer cost s) {sit tak ser hid ovr hst pia : Int32} {ρ : Nat} (hρ : ρ ≤ 400) {coins chairOf tired hosted owed paid : A1} (hF : RF C G D sit tak ser hid (nI ρ) ovr hst pia coins chairOf tired hosted owed paid s) {c : Nat} (hcx : c < C) (what th : Int32) : ∀ (m j n1 n2 : Nat), j + m = G → m < n1 → m < n2 → ∀ acc : Int32,
    ∃ acc', lX1_whoIsAt_4 (nI G) chairOf n1 (nI c) acc (nI j) = some acc' ∧ lX12_chair_20 s n2 th (nI c) what acc (nI j) = if what = 0 then some ((hid >>> (nI c &&& 31)) &&& 1, th) else if what = 1 then some (whoF G sit chairOf (nI c), th) else if what = 2 then some (acc', th) else some (-1, th) := by
  obtain ⟨⟨hC2, hC9, hG, hGC, hD⟩, ⟨e0, e1, e2⟩, -, -⟩ := id hH
  have e47 : s 47 = hid := hF.1.1.2.2.2.1
  have e63 : s 63 = sit := hF.1.1.2.2.2.2.2
  intro m
  induction m with
  | zero =>
    intro j n1 n2 hj hn1 hn2 acc
    obtain ⟨n1, rfl⟩ := sn hn1
    obtain ⟨n2, rfl⟩ := sn hn2
    have e : j = G := by omega
    subst e
    refine ⟨acc, ?_, ?_⟩
    · rw [lX1_whoIsAt_4, if_pos (nI_le (Nat.le_refl _) (by omega))]
    · rw [lX12_chair_20, e1, if_pos (nI_le (Nat.le_refl _) (by omega)), sitter_eq hG e1, bind_eq, e47, e63, whoF_congr (fun i hi => (hF.1.2 i hi).2.1)]
  | succ m ih =>
    intro j n1 n2 hj hn1 hn2 acc
    obtain ⟨n1, rfl⟩ := sn hn1
    obtain ⟨n2, rfl⟩ := sn hn2
    have f2 : s (56 + j) = chairOf j := (hF.1.2 j (by omega)).2.1
    rw [lX1_whoIsAt_4, if_neg (nI_ge (by omega) (by omega)), gI_ok (by omega) (by omega), ix0 (by omega), lX12_chair_20, e1, if_neg (nI_ge (by omega) (by omega)), c56, gI_oka (by omega) (by omega), ixa (by omega), f2, Int32.or_zero, nmv_eq, nmv_eq, nI_1]
    by_cases h : chairOf j = nI c
    · rw [if_pos h, if_pos h]
      exact ih (j + 1) n1 n2 (by omega) (by omega) (by omega) _
    · rw [if_neg h, if_neg h]
      exact ih (j + 1) n1 n2 (by omega) (by omega) (by omega) _
/-- promise 7: chair -/
theorem T_chair {C G D : Nat} {pride speed payer cost s : A1} (hH : RH C G D pride speed payer cost s) {sit tak ser hid ovr hst pia : Int32} {ρ : Nat} (hρ : ρ ≤ 400) {coins chairOf tired hosted owed paid : A1} (hF : RF C G D sit tak ser hid (nI ρ) ovr hst pia coins chairOf tired hosted owed paid s) (th x y : Int32) : ∃ r, fX11_chair (nI C) (nI G) sit hid chairOf x y = some r ∧ fX12_chair s th x y = some (r, 0) := by
  obtain ⟨⟨hC2, hC9, hG, hGC, hD⟩, ⟨e0, e1, e2⟩, -, -⟩ := id hH
  unfold fX11_chair fX12_chair
  rcases chair_is hH x with ⟨c, hc, rfl, h3, h4⟩ | ⟨h3, h4, -⟩
  · obtain ⟨acc, z1, z2⟩ := chair_loop hH hρ hF hc y 0 G 0 5000 5000 (by omega) (by omega) (by omega) 0
    rw [show nI 0 = 0 from rfl] at z1 z2
    rw [h3, h4, bind_eq, bind_eq, if_neg nn1, if_neg nn1, z2, whoSits_eq hG, bind_eq]
    unfold fX1_whoIsAt
    rw [z1, bind_eq]
    by_cases h0 : y = 0
    · rw [if_pos h0, if_pos h0]
      exact ⟨_, rfl, rfl⟩
    · rw [if_neg h0, if_neg h0]
      by_cases h1 : y = 1
      · rw [if_pos h1, if_pos h1]
        exact ⟨_, rfl, rfl⟩
      · rw [if_neg h1, if_neg h1]
        by_cases h2 : y = 2
        · rw [if_pos h2, if_pos h2]
          exact ⟨_, rfl, rfl⟩
        · rw [if_neg h2, if_neg h2]
          exact ⟨_, rfl, rfl⟩
  · rw [h3, h4, bind_eq, bind_eq, if_pos rfl, if_pos rfl]
    exact ⟨_, rfl, rfl⟩
theorem paid_loop {s : A1} {G : Nat} (hG : G ≤ 7) (h1 : s 1 = nI G) : ∀ m j n, j + m = G → m < n → lX12_paidInAll_4 s n (psum (fun i => s (85 + i)) j) (nI j) = some (psum (fun i => s (85 + i)) G) := by
  intro m
  induction m with
  | zero =>
    intro j n hj hn
    obtain ⟨n, rfl⟩ := sn hn
    have e : j = G := by omega
    subst e
    rw [lX12_paidInAll_4, h1, if_pos (nI_le (Nat.le_refl _) (by omega))]
  | succ m ih =>
    intro j n hj hn
    obtain ⟨n, rfl⟩ := sn hn
    have h := ih (j + 1) n (by omega) (by omega)
    rw [psum] at h
    rw [lX12_paidInAll_4, h1, if_neg (nI_ge (by omega) (by omega)), c85, gI_oka (by omega) (by omega), ixa (by omega), nmv_eq, nI_1]
    exact h
theorem paidM {C G D : Nat} {pride speed payer cost s : A1} (hH : RH C G D pride speed payer cost s) {sit tak ser hid ovr hst pia : Int32} {ρ : Nat} (hρ : ρ ≤ 400) {coins chairOf tired hosted owed paid : A1} (hF : RF C G D sit tak ser hid (nI ρ) ovr hst pia coins chairOf tired hosted owed paid s) : fX12_paidInAll s = some pia := by
  obtain ⟨⟨hC2, hC9, hG, hGC, hD⟩, ⟨e0, e1, e2⟩, -, -⟩ := id hH
  unfold fX12_paidInAll
  have h := paid_loop hG e1 G 0 5000 (by omega) (by omega)
  rw [hF.2.2.2, ← psum_congr (fun i hi => (hF.1.2 i hi).2.2.2.2.2)]
  exact h
theorem add1sub (x : Int32) : x + 1 - 1 = x := by
  apply Int32.toBitVec_inj.mp
  rw [Int32.toBitVec_sub, Int32.toBitVec_add]
  exact BitVec.add_sub_cancel _ _
/-- promise 8: now -/
theorem T_now {C G D : Nat} {pride speed payer cost s : A1} (hH : RH C G D pride speed payer cost s) {sit tak ser hid ovr hst pia : Int32} {ρ : Nat} (hρ : ρ ≤ 400) {coins chairOf tired hosted owed paid : A1} (hF : RF C G D sit tak ser hid (nI ρ) ovr hst pia coins chairOf tired hosted owed paid s) (th x : Int32) : ∃ r, fX11_now (nI D) cost sit ser hid (nI ρ) ovr hst pia x = some r ∧ fX12_now s th x = some (r, 0) := by
  obtain ⟨⟨hC2, hC9, hG, hGC, hD⟩, ⟨e0, e1, e2⟩, -, hd1⟩ := id hH
  obtain ⟨e44, e45, e46, e47, e48, e63⟩ := hF.1.1
  unfold fX11_now fX12_now
  rw [e44, e45, e46, e47, e48, e63, add1sub, paidM hH hρ hF, costC hD, costM hD e2, bind_eq, bind_eq, bind_eq, csum_congr (f := fun d => s (31 + d)) (fun i hi => (hd1 i hi).1)]
  by_cases h0 : x = 0
  · rw [if_pos h0, if_pos h0]
    exact ⟨_, rfl, rfl⟩
  · rw [if_neg h0, if_neg h0]
    by_cases h1 : x = 1
    · rw [if_pos h1, if_pos h1]
      exact ⟨_, rfl, rfl⟩
    · rw [if_neg h1, if_neg h1]
      by_cases h2 : x = 2
      · rw [if_pos h2, if_pos h2]
        exact ⟨_, rfl, rfl⟩
      · rw [if_neg h2, if_neg h2]
        by_cases h3 : x = 3
        · rw [if_pos h3, if_pos h3]
          exact ⟨_, rfl, rfl⟩
        · rw [if_neg h3, if_neg h3]
          by_cases h4 : x = 4
          · rw [if_pos h4, if_pos h4]
            exact ⟨_, rfl, rfl⟩
          · rw [if_neg h4, if_neg h4]
            by_cases h5 : x = 5
            · rw [if_pos h5, if_pos h5]
              exact ⟨_, rfl, rfl⟩
            · rw [if_neg h5, if_neg h5]
              by_cases h6 : x = 6
              · rw [if_pos h6, if_pos h6]
                exact ⟨_, rfl, rfl⟩
              · rw [if_neg h6, if_neg h6]
                by_cases h7 : x = 7
                · rw [if_pos h7, if_pos h7]
                  exact ⟨_, rfl, rfl⟩
                · rw [if_neg h7, if_neg h7]
                  exact ⟨_, rfl, rfl⟩
theorem ne_lit {x : Int32} {a N : Nat} (hN : N ≤ 9) (ha : a < N) (h : x < 0 ∨ nI N ≤ x) : ¬ x = nI a := by
  rintro rfl
  rcases h with h | h
  · exact nI_pos (by omega) h
  · exact nI_ge ha (by omega) h
/-- promise 43: count -/
theorem T_count {C G D : Nat} {pride speed payer cost s : A1} (hH : RH C G D pride speed payer cost s) (n th x : Int32) : ∃ r, fX11_count n (nI C) (nI G) (nI D) x = some r ∧ fX12_count n s th x = some (r, 0) := by
  obtain ⟨-, ⟨e0, e1, e2⟩, -, -⟩ := id hH
  unfold fX11_count fX12_count
  by_cases h3 : x = 3
  · subst h3
    exact ⟨n, rfl, rfl⟩
  · rw [if_neg h3, if_neg h3]
    rcases in_eq (N := 3) (by omega) x with ⟨g, h1, rfl, h4, -, -⟩ | ⟨h4, h5⟩
    · rw [show nI 3 - 1 = 2 by decide] at h4
      rw [h4, bind_eq, if_neg nn1, gI_ok (by omega) (by omega), ix0 (by omega)]
      have h : g = 0 ∨ g = 1 ∨ g = 2 := by omega
      rcases h with rfl | rfl | rfl
      · exact ⟨_, rfl, by rw [e0]⟩
      · exact ⟨_, rfl, by rw [e1]⟩
      · exact ⟨_, rfl, by rw [e2]⟩
    · rw [show nI 3 - 1 = 2 by decide] at h4
      rw [h4, bind_eq, if_pos rfl, if_neg (show ¬ x = 0 from ne_lit (a := 0) (by omega) (by omega) h5), if_neg (show ¬ x = 1 from ne_lit (a := 1) (by omega) (by omega) h5), if_neg (show ¬ x = 2 from ne_lit (a := 2) (by omega) (by omega) h5)]
      exact ⟨_, rfl, rfl⟩
theorem nar_eq (x : Int32) : vp_nar .byte (zi2b x) = x.toInt8.toInt32 := by
  show (x.toInt8.toInt32).toInt8.toInt32 = x.toInt8.toInt32
  rw [Int8.toInt8_toInt32]
theorem m8_all : ∀ m, m < 4 → nI (8 * (m + 1)) + (-8) = nI (8 * m) := by decide
theorem put_eq {n : Nat} (hn : n < 940) (B : A1) (w : Int32) : fX10_put 940 (nI n) B w = some (nI (n + 1), upd B n (w.toInt8.toInt32)) := by
  unfold fX10_put
  rw [if_neg (nI_pos (by omega)), if_neg (show ¬ Int32.ofNat 940 ≤ nI n from nI_ge (b := 940) hn (by omega)), gI_ok hn (by omega), nmv_eq, ix0 (by omega), nar_eq, nI_1]
def OneT (B tp : A1) : Prop := (∀ i, i < 940 → tp i = B i) ∧ ∀ i, i < 940 → ∃ b : Int8, B i = b.toInt32
theorem OneT_upd {B tp : A1} (h : OneT B tp) (n : Nat) (b : Int8) : OneT (upd B n b.toInt32) (upd tp n b.toInt32) := by
  refine ⟨fun i hi => ?_, fun i hi => ?_⟩
  · by_cases e : i = n
    · subst e
      rw [pk_us, pk_us]
    · rw [pk_un e, pk_un e, h.1 i hi]
  · by_cases e : i = n
    · subst e
      exact ⟨b, pk_us⟩
    · rw [pk_un e]
      exact h.2 i hi
theorem four_loop (a : Int32) : ∀ (m n n1 n2 : Nat), m < 4 → n + m + 1 ≤ 940 → m + 1 < n1 → m + 1 < n2 → ∀ B tp : A1, OneT B tp →
    ∃ B' tp', OneT B' tp' ∧ lX10_putInt_3 940 n1 (nI n) B a (nI (8 * m)) = some (nI (n + m + 1), B') ∧ lX12_four_3 n2 (nI n) tp a (nI (8 * m)) = some (nI (n + m + 1), tp') := by
  intro m
  induction m with
  | zero =>
    intro n n1 n2 hm hn hn1 hn2 B tp hO
    obtain ⟨n1, rfl⟩ := sn hn1
    obtain ⟨n2, rfl⟩ := sn hn2
    obtain ⟨n1, rfl⟩ := sn (show 0 < n1 by omega)
    obtain ⟨n2, rfl⟩ := sn (show 0 < n2 by omega)
    refine ⟨_, _, OneT_upd hO n (a >>> (nI (8 * 0) &&& 31)).toInt8, ?_, ?_⟩
    · rw [lX10_putInt_3, if_neg (by decide), nmv_eq, put_eq (by omega), bind_eq]
      dsimp only
      rw [lX10_putInt_3, if_pos (by decide)]
    · rw [lX12_four_3, if_neg (by decide), nmv_eq, gI_ok (by omega) (by omega), nmv_eq, ix0 (by omega), nar_eq, lX12_four_3, if_pos (by decide), nI_1]
  | succ m ih =>
    intro n n1 n2 hm hn hn1 hn2 B tp hO
    obtain ⟨n1, rfl⟩ := sn hn1
    obtain ⟨n2, rfl⟩ := sn hn2
    obtain ⟨B', tp', h1, h2, h3⟩ := ih (n + 1) n1 n2 (by omega) (by omega) (by omega) (by omega) _ _ (OneT_upd hO n (a >>> (nI (8 * (m + 1)) &&& 31)).toInt8)
    rw [show n + 1 + m + 1 = n + (m + 1) + 1 by omega] at h2 h3
    refine ⟨B', tp', h1, ?_, ?_⟩
    · rw [lX10_putInt_3, if_neg (nI_pos (by omega)), nmv_eq, put_eq (by omega), bind_eq]
      dsimp only
      rw [m8_all m (by omega)]
      exact h2
    · rw [lX12_four_3, if_neg (nI_pos (by omega)), nmv_eq, gI_ok (by omega) (by omega), nmv_eq, ix0 (by omega), nar_eq, nI_1, m8_all m (by omega)]
      exact h3
theorem four_eq (a : Int32) {n : Nat} (hn : n + 4 ≤ 940) {B tp : A1} (hO : OneT B tp) : ∃ B' tp', OneT B' tp' ∧ fX10_putInt 940 (nI n) B a = some (nI (n + 4), B') ∧ fX12_four (nI n) tp a = some (nI (n + 4), tp') := by
  obtain ⟨B', tp', h1, h2, h3⟩ := four_loop a 3 n 5000 5000 (by omega) (by omega) (by omega) (by omega) B tp hO
  exact ⟨B', tp', h1, h2, h3⟩
/-- promise 2: feed -/
theorem T_feed {n nb : Nat} {tz len : Int32} {B tp : A1} (hT : RT n nb tz len B tp) (th a b c d e : Int32) :
    ∃ (r tz' len' : Int32) (B' tp' : A1) (n' : Nat), RT n' nb tz' len' B' tp' ∧ fX11_feed nb tz B a b c d e = some (r, tz', B') ∧ fX12_feed th len tp a b c d e = some (r, 0, len', tp') := by
  obtain ⟨rfl, hn, rfl, rfl, hBt, hby⟩ := id hT
  unfold fX11_feed fX12_feed
  rw [show nI n + 20 = nI (n + 20) from nI_add n 20]
  by_cases h : n + 20 ≤ 940
  · rw [if_pos (show nI (n + 20) ≤ 940 from nI_le (b := 940) h (by omega)), if_pos (show nI (n + 20) ≤ 940 from nI_le (b := 940) h (by omega))]
    obtain ⟨B1, tp1, o1, x1, y1⟩ := four_eq a (show n + 4 ≤ 940 by omega) ⟨hBt, hby⟩
    obtain ⟨B2, tp2, o2, x2, y2⟩ := four_eq b (show n + 4 + 4 ≤ 940 by omega) o1
    obtain ⟨B3, tp3, o3, x3, y3⟩ := four_eq c (show n + 4 + 4 + 4 ≤ 940 by omega) o2
    obtain ⟨B4, tp4, o4, x4, y4⟩ := four_eq d (show n + 4 + 4 + 4 + 4 ≤ 940 by omega) o3
    obtain ⟨B5, tp5, o5, x5, y5⟩ := four_eq e (show n + 4 + 4 + 4 + 4 + 4 ≤ 940 by omega) o4
    rw [x1, y1, bind_eq, bind_eq]
    dsimp only
    rw [x2, y2, bind_eq, bind_eq]
    dsimp only
    rw [x3, y3, bind_eq, bind_eq]
    dsimp only
    rw [x4, y4, bind_eq, bind_eq]
    dsimp only
    rw [x5, y5, bind_eq, bind_eq]
    exact ⟨_, _, _, _, _, n + 4 + 4 + 4 + 4 + 4, ⟨rfl, by omega, rfl, rfl, o5.1, o5.2⟩, rfl, rfl⟩
  · rw [if_neg (show ¬ nI (n + 20) ≤ 940 from nI_ge (a := 940) (by omega) (by omega)), if_neg (show ¬ nI (n + 20) ≤ 940 from nI_ge (a := 940) (by omega) (by omega))]
    exact ⟨_, _, _, _, _, n, hT, rfl, rfl⟩
/-- promise 3: end -/
theorem T_end {n nb : Nat} {tz len : Int32} {B tp : A1} (hT : RT n nb tz len B tp) (th x : Int32) :
    ∃ (r tz' len' : Int32) (n' : Nat), (r = 0 ∨ r = 1) ∧ RT n' nb tz' len' B tp ∧ fX11_end tz x = some (r, tz') ∧ fX12_end th len x = some (r, 0, len') := by
  obtain ⟨rfl, hn, rfl, rfl, hBt, hby⟩ := id hT
  unfold fX11_end fX12_end
  by_cases h0 : x < 0
  · rw [if_pos h0, if_pos h0]
    exact ⟨_, _, _, n, Or.inl rfl, hT, rfl, rfl⟩
  · rw [if_neg h0, if_neg h0]
    obtain ⟨j, hj, rfl⟩ := nI_of h0
    by_cases h : j ≤ n
    · rw [if_pos (nI_le h (by omega)), if_pos (nI_le h (by omega))]
      exact ⟨_, _, _, j, Or.inr rfl, ⟨rfl, by omega, rfl, rfl, hBt, hby⟩, rfl, rfl⟩
    · rw [if_neg (nI_ge (by omega) hj), if_neg (nI_ge (by omega) hj)]
      exact ⟨_, _, _, n, Or.inl rfl, hT, rfl, rfl⟩
/-- what told tells -/
def RTd (jd why liv rth sth ht : Int32) (ta : A1) : Prop := (jd = 0 ∧ ht = 0) ∨ (jd = 1 ∧ ht = 1 ∧ ta 0 = why ∧ ta 1 = liv ∧ ta 2 = rth ∧ ta 3 = sth)
/-- promise 38: told -/
theorem T_told {jd why liv rth sth ht : Int32} {ta : A1} (hT : RTd jd why liv rth sth ht ta) (th x : Int32) : ∃ r, fX11_told jd why liv rth sth x = some r ∧ fX12_told ht ta th x = some (r, 0) := by
  unfold fX11_told fX12_told
  rcases hT with ⟨rfl, rfl⟩ | ⟨rfl, rfl, h0, h1, h2, h3⟩
  · rw [if_pos rfl, if_pos rfl]
    exact ⟨_, rfl, rfl⟩
  · rw [if_neg nn1, if_neg nn1]
    rcases in_eq (N := 4) (by omega) x with ⟨g, hg, rfl, h4, -, -⟩ | ⟨h4, h5⟩
    · rw [show nI 4 - 1 = 3 by decide] at h4
      rw [h4, bind_eq, if_neg nn1, gI_ok (by omega) (by omega), ix0 (by omega)]
      have h : g = 0 ∨ g = 1 ∨ g = 2 ∨ g = 3 := by omega
      rcases h with rfl | rfl | rfl | rfl
      · exact ⟨_, rfl, by rw [h0]⟩
      · exact ⟨_, rfl, by rw [h1]⟩
      · exact ⟨_, rfl, by rw [h2]⟩
      · exact ⟨_, rfl, by rw [h3]⟩
    · rw [show nI 4 - 1 = 3 by decide] at h4
      rw [h4, bind_eq, if_pos rfl, if_neg (show ¬ x = 0 from ne_lit (a := 0) (by omega) (by omega) h5), if_neg (show ¬ x = 1 from ne_lit (a := 1) (by omega) (by omega) h5), if_neg (show ¬ x = 2 from ne_lit (a := 2) (by omega) (by omega) h5), if_neg (show ¬ x = 3 from ne_lit (a := 3) (by omega) (by omega) h5)]
      exact ⟨_, rfl, rfl⟩
/-- the latest PLATE, both -/
def RPl (nw : Nat) (wz tm : Int32) (W X : A1) : Prop := nw = 40 ∧ ∃ n, n ≤ 40 ∧ wz = nI n ∧ tm = nI n ∧ ∀ i, i < n → ∃ k, k < 128 ∧ W i = nI k ∧ X i = nI k
/-- promise 34: byteAt -/
theorem T_byteAt {nw : Nat} {wz tm : Int32} {W X : A1} (hP : RPl nw wz tm W X) (th x : Int32) : ∃ r, fX11_byteAt nw wz W x = some r ∧ fX12_byteAt tm X th x = some (r, 0) := by
  obtain ⟨rfl, n, hn, rfl, rfl, hb⟩ := hP
  unfold fX11_byteAt fX12_byteAt fX10_at fX12_isIn
  by_cases h0 : x < 0
  · rw [if_pos h0, if_pos h0, bind_eq, bind_eq, if_pos rfl]
    exact ⟨_, rfl, rfl⟩
  · rw [if_neg h0, if_neg h0]
    obtain ⟨j, hj, rfl⟩ := nI_of h0
    by_cases h : j < n
    · obtain ⟨k, hk, e1, e2⟩ := hb j h
      rw [if_neg (nI_ge h (by omega)), if_neg (show ¬ Int32.ofNat 40 ≤ nI j from nI_ge (b := 40) (by omega) (by omega)), gI_ok (by omega) (by omega), ix0 (by omega), e1, bind_eq, show nI n - 1 = nI (n - 1) from pk_sub (b := 1) (by omega), if_neg (nI_nlt (by omega) (by omega)), bind_eq, if_neg nn1, gI_ok (by omega) (by omega), e2, show (255 : Int32) = nI (2 ^ 8 - 1) from rfl, fa_mask, Nat.mod_eq_of_lt (by omega)]
      exact ⟨_, rfl, rfl⟩
    · have e : nI n - 1 < nI j := by
        by_cases hz : n = 0
        · subst hz
          rw [fa_lt, nI_toInt hj]
          have e2 : (nI 0 - 1).toInt = -1 := by decide
          omega
        · rw [show nI n - 1 = nI (n - 1) from pk_sub (b := 1) (by omega)]
          exact nI_lt (by omega) hj
      rw [if_pos (nI_le (by omega) hj), bind_eq, if_pos e, bind_eq, if_pos rfl]
      exact ⟨_, rfl, rfl⟩
/-- promises 20, 22: tricking, pushing -/
theorem T_tricking {tc ts ht : Int32} (hL : lastT tc ts ht) (th : Int32) : ∃ r, fX11_tricking tc = some r ∧ fX12_tricking ts ht th = some (r, 0) := by
  unfold fX11_tricking fX12_tricking
  rcases hL with ⟨rfl, rfl⟩ | ⟨rfl, rfl⟩
  · rw [if_pos rfl]
    exact ⟨_, rfl, rfl⟩
  · rw [if_neg nn1]
    exact ⟨_, rfl, rfl⟩
theorem T_pushing {tc ts ht : Int32} (hL : lastT tc ts ht) (th : Int32) : ∃ r, fX11_pushing tc = some r ∧ fX12_pushing ts ht th = some (r, 0) := by
  unfold fX11_pushing fX12_pushing
  rcases hL with ⟨rfl, rfl⟩ | ⟨rfl, rfl⟩
  · rw [if_pos rfl]
    exact ⟨_, rfl, rfl⟩
  · rw [if_neg nn1]
    exact ⟨_, rfl, rfl⟩
