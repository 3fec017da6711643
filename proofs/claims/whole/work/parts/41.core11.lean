/-! ===== pure: who is host next; when nobody ever will be ===== -/
/-- nobody who stands can ever sit where he comes -/
def SB (C G : Nat) (speed chairOf : A1) (sit tak hid : Int32) : Prop := ∀ g, g < G → bt sit g = false → ∀ c v, chairOf g = nI c → speed g = nI v → c < C → v ≤ 9 → ∀ k, bt tak ((c + k * v) % C) = true ∨ bt hid ((c + k * v) % C) = true
/-- for q rounds nobody sat -/
def QI (C G q : Nat) (speed chairOf tired : A1) (sit tak hid : Int32) : Prop := ∀ g, g < G → bt sit g = false → ∀ c v t, chairOf g = nI c → speed g = nI v → tired g = nI t → c < C → v ≤ 9 → t ≤ 99 → (q ≤ t ∨ 9 ≤ t) ∧ ∀ i p, i + 9 ≤ q → p < C → (p + i * v) % C = c → bt tak p = true ∨ bt hid p = true
theorem QI_0 {C G : Nat} {speed chairOf tired : A1} {sit tak hid : Int32} : QI C G 0 speed chairOf tired sit tak hid := fun _ _ _ _ _ _ _ _ _ _ _ _ => ⟨Or.inl (Nat.zero_le _), fun i _ h => absurd h (by omega)⟩
theorem mod_cancel {C x c v : Nat} (h2 : 2 ≤ C) (h9 : C ≤ 9) (h : (x + v) % C = (c + v) % C) (hc : c < C) : x % C = c := by
  have : C = 2 ∨ C = 3 ∨ C = 4 ∨ C = 5 ∨ C = 6 ∨ C = 7 ∨ C = 8 ∨ C = 9 := by omega
  rcases this with rfl | rfl | rfl | rfl | rfl | rfl | rfl | rfl <;> omega
theorem QI_SB {C G q : Nat} {speed chairOf tired : A1} {sit tak hid : Int32} (h2 : 2 ≤ C) (hq : 9 + C ≤ q) (h : QI C G q speed chairOf tired sit tak hid) (ht : ∀ g, g < G → ∃ t, t ≤ 99 ∧ tired g = nI t) : SB C G speed chairOf sit tak hid := by
  intro g hg hb c v ec ev hc hv k
  obtain ⟨t, ht1, et⟩ := ht g hg
  obtain ⟨-, h3⟩ := h g hg hb c v t ec ev et hc hv ht1
  obtain ⟨i, e, hi, hk⟩ : ∃ i e, i ≤ C ∧ k + i = C * e := by
    have hd := Nat.div_add_mod k C
    have hm := Nat.mod_lt k (show C > 0 by omega)
    by_cases h0 : k % C = 0
    · exact ⟨0, k / C, by omega, by omega⟩
    · exact ⟨C - k % C, k / C + 1, by omega, by rw [Nat.mul_add, Nat.mul_one]; omega⟩
  refine h3 i _ (by omega) (Nat.mod_lt _ (by omega)) ?_
  rw [Nat.mod_add_mod, Nat.add_assoc, ← Nat.add_mul, hk, Nat.mul_assoc, Nat.add_mul_mod_self_left, Nat.mod_eq_of_lt hc]
theorem nI_neg (g : Nat) (h : g < 7) : nI g ≠ -1 := by
  intro e
  have h2 : ¬ nI g < 0 := nI_pos (by omega)
  rw [e] at h2
  exact h2 (by decide)
theorem stuck_loop {C G D : Nat} {pride speed payer cost : A1} {hid : Int32} : ∀ (m k n2 : Nat), k + m = 99 → m < n2 → ∀ (sit tak ser rnd ovr hst pia : Int32) (coins chairOf tired hosted owed paid s : A1), RH C G D pride speed payer cost s → RF C G D sit tak ser hid rnd ovr hst pia coins chairOf tired hosted owed paid s → SB C G speed chairOf sit tak hid →
    ∃ hi s', lX12_hostNext_5 n2 (nI (k + 1)) s = some (-1, hi, s') ∧ ∀ i, (i < 44 ∨ 92 ≤ i) → s' i = s i := by
  intro m
  induction m with
  | zero =>
    intro k n2 hk hn sit tak ser rnd ovr hst pia coins chairOf tired hosted owed paid s hH hF hS
    obtain ⟨n2, rfl⟩ : ∃ k, n2 = k + 1 := ⟨n2 - 1, by omega⟩
    refine ⟨nI (k + 1), s, ?_, fun _ _ => rfl⟩
    rw [lX12_hostNext_5, if_pos (show (99 : Int32) < nI (k + 1) from nI_lt (a := 99) (by omega) (by omega))]
  | succ m ih =>
    intro k n2 hk hn sit tak ser rnd ovr hst pia coins chairOf tired hosted owed paid s hH hF hS
    obtain ⟨n2, rfl⟩ : ∃ k, n2 = k + 1 := ⟨n2 - 1, by omega⟩
    rw [lX12_hostNext_5, if_neg (show ¬ (99 : Int32) < nI (k + 1) from nI_nlt (b := k + 1) (a := 99) (by omega) (by omega))]
    by_cases h4 : (400 : Int32) ≤ s 44
    · rw [if_pos h4]
      exact ⟨_, s, rfl, fun _ _ => rfl⟩
    · rw [if_neg h4]
      obtain ⟨r, a1, a2, a3, a4, a5, a6, a7, a8, a9, a10, a11, a12, s', q1, q2, q3, q4, q5, q6, q7⟩ := sim_round2 hH hF (-1)
      have hC := hH.1
      rcases q7 with ⟨rfl, rfl⟩ | ⟨g, c, v, w1, w2, w3, w4, w5, w6, w7, w8, w9⟩
      · rcases q6 with ⟨h, -⟩ | ⟨-, x1, x2, x3, x4⟩
        · exact absurd h (by decide)
        · obtain ⟨rfl, x5⟩ := x4 rfl
          have hS2 : SB C G speed a8 a1 a2 hid := by
            intro g hg hb c v ec ev hc hv j
            obtain ⟨c0, hc0, ec0⟩ := hF.2.1.2.2.2.2.1 g hg
            obtain ⟨⟨t, ht, et⟩, -⟩ := hF.2.2.1 g hg
            obtain ⟨y1, -, -⟩ := (x5 g hg).2 hb c0 v t ec0 ev et hc0 hv ht
            have y2 : (c0 + v) % C = c := (nI_eq (by have := Nat.mod_lt (c0 + v) (show C > 0 by omega); omega) (by omega)).mp (y1.symm.trans ec)
            have y3 := hS g hg hb c0 v ec0 ev hc0 hv (j + 1)
            rw [Nat.succ_mul] at y3
            rw [← y2, Nat.mod_add_mod, show c0 + v + j * v = c0 + (j * v + v) by omega]
            exact y3
          rw [q2, bind_eq]
          dsimp only
          rw [if_pos rfl, nI_1]
          obtain ⟨hi, s2, z1, z2⟩ := ih (k + 1) n2 (by omega) (by omega) a1 a2 a3 _ a4 a5 a6 a7 a8 a9 a10 a11 a12 s' q3 q4 hS2
          exact ⟨hi, s2, z1, fun i hi => by rw [z2 i hi, q5 i hi]⟩
      · have y := hS g w1 w2 c v w4 w6 w5 w7 1
        rw [Nat.one_mul, w8, w9] at y
        rcases y with y | y <;> cases y
theorem host_loop {C G D : Nat} {pride speed payer cost : A1} {hid : Int32} : ∀ (m k n1 n2 q ρ : Nat), k + m = 99 → m < n1 → m < n2 → q ≤ 200 → q ≤ k → ρ + m ≤ 1000 → ∀ (sit tak ser ovr hst pia : Int32) (coins chairOf tired hosted owed paid s : A1), RH C G D pride speed payer cost s → RF C G D sit tak ser hid (nI ρ) ovr hst pia coins chairOf tired hosted owed paid s → QI C G q speed chairOf tired sit tak hid →
    ∃ (h sit' tak' ser' rnd' ovr' hst' pia' : Int32) (coins' chairOf' tired' hosted' owed' paid' : A1) (hi : Int32) (s' : A1),
      lX9_hostOfTrial_4 (nI C) (nI G) (nI D) pride speed payer cost hid n1 sit tak ser (nI ρ) ovr hst pia coins chairOf tired hosted owed paid (nI q) (nI k) = some (h, sit', tak', ser', rnd', ovr', hst', pia', coins', chairOf', tired', hosted', owed', paid') ∧
      lX12_hostNext_5 n2 (nI (k + 1)) s = some (h, hi, s') ∧ (∀ i, (i < 44 ∨ 92 ≤ i) → s' i = s i) ∧ (h = -1 ∨ ∃ w k', w < G ∧ h = nI w ∧ bt sit w = false ∧ k ≤ k' ∧ k' < 99 ∧ hi = nI (k' + 1) ∧ rnd' = nI (ρ + (k' - k) + 1)) := by
  intro m
  induction m with
  | zero =>
    intro k n1 n2 q ρ hk hn1 hn2 hq hqk hρ sit tak ser ovr hst pia coins chairOf tired hosted owed paid s hH hF hQ
    obtain ⟨n1, rfl⟩ : ∃ k, n1 = k + 1 := ⟨n1 - 1, by omega⟩
    obtain ⟨n2, rfl⟩ : ∃ k, n2 = k + 1 := ⟨n2 - 1, by omega⟩
    refine ⟨-1, sit, tak, ser, nI ρ, ovr, hst, pia, coins, chairOf, tired, hosted, owed, paid, nI (k + 1), s, ?_, ?_, fun _ _ => rfl, Or.inl rfl⟩
    · rw [lX9_hostOfTrial_4, if_pos (show (99 : Int32) ≤ nI k from nI_le (a := 99) (by omega) (by omega))]
    · rw [lX12_hostNext_5, if_pos (show (99 : Int32) < nI (k + 1) from nI_lt (a := 99) (by omega) (by omega))]
  | succ m ih =>
    intro k n1 n2 q ρ hk hn1 hn2 hq hqk hρ sit tak ser ovr hst pia coins chairOf tired hosted owed paid s hH hF hQ
    obtain ⟨n1, rfl⟩ : ∃ k, n1 = k + 1 := ⟨n1 - 1, by omega⟩
    obtain ⟨n2, rfl⟩ : ∃ k, n2 = k + 1 := ⟨n2 - 1, by omega⟩
    have hC := hH.1
    have e44 : s 44 = nI ρ := hF.1.1.1
    have c400 : (400 : Int32) ≤ nI ρ ↔ 400 ≤ ρ := nI_leI (a := 400) (by omega) (by omega)
    rw [lX9_hostOfTrial_4, if_neg (show ¬ (99 : Int32) ≤ nI k from nI_ge (b := 99) (by omega) (by omega))]
    by_cases h4 : 400 ≤ ρ
    · rw [lX12_hostNext_5, if_neg (show ¬ (99 : Int32) < nI (k + 1) from nI_nlt (b := k + 1) (a := 99) (by omega) (by omega)), e44, if_pos (c400.mpr h4), if_pos (c400.mpr h4)]
      exact ⟨-1, sit, tak, ser, nI ρ, ovr, hst, pia, coins, chairOf, tired, hosted, owed, paid, nI (k + 1), s, rfl, rfl, fun _ _ => rfl, Or.inl rfl⟩
    · rw [if_neg (fun e => h4 (c400.mp e))]
      have c9 : (9 + nI C : Int32) ≤ nI q ↔ 9 + C ≤ q := by
        rw [show (9 : Int32) = nI 9 from rfl, nI_add]
        exact nI_leI (by omega) (by omega)
      by_cases h9 : 9 + C ≤ q
      · rw [if_pos (c9.mpr h9)]
        obtain ⟨hi, s', z1, z2⟩ := stuck_loop (m + 1) k (n2 + 1) hk hn2 sit tak ser (nI ρ) ovr hst pia coins chairOf tired hosted owed paid s hH hF (QI_SB hC.1 h9 hQ (fun g hg => (hF.2.2.1 g hg).1))
        exact ⟨-1, sit, tak, ser, nI ρ, ovr, hst, pia, coins, chairOf, tired, hosted, owed, paid, hi, s', rfl, z1, z2, Or.inl rfl⟩
      · rw [if_neg (fun e => h9 (c9.mp e)), lX12_hostNext_5, if_neg (show ¬ (99 : Int32) < nI (k + 1) from nI_nlt (b := k + 1) (a := 99) (by omega) (by omega)), e44, if_neg (fun e => h4 (c400.mp e))]
        obtain ⟨r, a1, a2, a3, a4, a5, a6, a7, a8, a9, a10, a11, a12, s', q1, q2, q3, q4, q5, q6, q7⟩ := sim_round2 hH hF (-1)
        rw [nI_1] at q1 q4
        rw [q1, q2, bind_eq, bind_eq]
        dsimp only
        have next : ∀ q', q' ≤ 200 → q' ≤ k + 1 → (∀ i, i < G → bt sit i = true → bt a1 i = true) → QI C G q' speed a8 a9 a1 a2 hid → ∃ (h sit' tak' ser' rnd' ovr' hst' pia' : Int32) (coins' chairOf' tired' hosted' owed' paid' : A1) (hi : Int32) (s2 : A1),
            lX9_hostOfTrial_4 (nI C) (nI G) (nI D) pride speed payer cost hid n1 a1 a2 a3 (nI (ρ + 1)) a4 a5 a6 a7 a8 a9 a10 a11 a12 (nI q') (nI (k + 1)) = some (h, sit', tak', ser', rnd', ovr', hst', pia', coins', chairOf', tired', hosted', owed', paid') ∧
            lX12_hostNext_5 n2 (nI (k + 1 + 1)) s' = some (h, hi, s2) ∧ (∀ i, (i < 44 ∨ 92 ≤ i) → s2 i = s i) ∧ (h = -1 ∨ ∃ w k', w < G ∧ h = nI w ∧ bt sit w = false ∧ k ≤ k' ∧ k' < 99 ∧ hi = nI (k' + 1) ∧ rnd' = nI (ρ + (k' - k) + 1)) := by
          intro q' hq1 hq2 hsub hQ2
          obtain ⟨h, b1, b2, b3, b4, b5, b6, b7, b8, b9, b10, b11, b12, b13, hi, s2, z1, z2, z3, z4⟩ := ih (k + 1) n1 n2 q' (ρ + 1) (by omega) (by omega) (by omega) hq1 hq2 (by omega) a1 a2 a3 a4 a5 a6 a7 a8 a9 a10 a11 a12 s' q3 q4 hQ2
          refine ⟨h, b1, b2, b3, b4, b5, b6, b7, b8, b9, b10, b11, b12, b13, hi, s2, z1, z2, fun i hi => by rw [z3 i hi, q5 i hi], ?_⟩
          rcases z4 with z4 | ⟨w, k', y1, y2, y3, y4, y5, y6, y7⟩
          · exact Or.inl z4
          · exact Or.inr ⟨w, k', y1, y2, Bool.eq_false_iff.mpr (fun e => by rw [hsub w y1 e] at y3; cases y3), by omega, y5, y6, by rw [y7]; exact congrArg nI (by omega)⟩
        rcases q6 with ⟨rfl, x1, w, hw, ew, hbw⟩ | ⟨rfl, x1, x2, x3, x4⟩
        · rw [if_neg (by decide), if_neg (by decide)]
          have e48 : s' 48 = a5 + 1 := q4.1.1.2.2.2.2.1
          refine ⟨a5, a1, a2, a3, _, a4, a5, a6, a7, a8, a9, a10, a11, a12, _, s', rfl, ?_, q5, Or.inr ⟨w, k, hw, ew, hbw, Nat.le_refl k, by omega, rfl, by rw [Nat.sub_self, Nat.add_zero]⟩⟩
          rw [e48, ew, nI_1, nI_pred]
        · rw [if_pos (show (0 : Int32) = 0 from rfl), if_pos (show (0 : Int32) = 0 from rfl)]
          by_cases hs : a1 = sit
          · rw [if_pos hs, nI_1, nI_1, nI_1]
            refine next (q + 1) (by omega) (by omega) x3 ?_
            subst hs
            obtain ⟨rfl, x5⟩ := x4 rfl
            intro g hg hb c v t ec ev et hc hv ht
            obtain ⟨c0, hc0, ec0⟩ := hF.2.1.2.2.2.2.1 g hg
            obtain ⟨⟨t0, ht0, et0⟩, -⟩ := hF.2.2.1 g hg
            obtain ⟨y1, y2, y3⟩ := (x5 g hg).2 hb c0 v t0 ec0 ev et0 hc0 hv ht0
            have y4 : (c0 + v) % C = c := (nI_eq (by have := Nat.mod_lt (c0 + v) (show C > 0 by omega); omega) (by omega)).mp (y1.symm.trans ec)
            have y5 : tup1 t0 = t := (nI_eq (by have := tup_le (t := t0); omega) (by omega)).mp (y2.symm.trans et)
            obtain ⟨p1, p2⟩ := hQ g hg hb c0 v t0 ec0 ev et0 hc0 hv ht0
            have y6 : q + 1 ≤ t ∨ 9 ≤ t := by
              rw [← y5]
              unfold tup1
              split <;> omega
            refine ⟨y6, fun i p hi hp he => ?_⟩
            obtain ⟨-, -, ⟨pr, hpr, epr⟩, -⟩ := hH.2.2.1 g hg
            cases i with
            | zero =>
              rw [Nat.zero_mul, Nat.add_zero, Nat.mod_eq_of_lt hp] at he
              have y7 : ¬ nI (tup1 t0) < pride g := by
                rw [epr, y5]
                exact nI_nlt (by omega) (by omega)
              have y8 := y3 (nI_neg g (by omega)) y7
              rw [y4, ← he] at y8
              exact y8
            | succ i =>
              rw [← y4, Nat.succ_mul, ← Nat.add_assoc] at he
              exact p2 i p (by omega) hp (mod_cancel hC.1 hC.2.1 he hc0)
          · rw [if_neg hs, nI_1, nI_1]
            exact next 0 (by omega) (by omega) x3 QI_0
