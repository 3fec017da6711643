/-! ===== pure: promises 24, 25, 27, 28, 29: hosts, hostAt, when, menu, menuOf ===== -/
theorem nn1 : ¬ (1 : Int32) = 0 := by decide
theorem sn {n m : Nat} (h : m < n) : ∃ k, n = k + 1 := ⟨n - 1, by omega⟩
theorem when_loop {C G D : Nat} {pride speed payer cost s : A1} (hH : RH C G D pride speed payer cost s) {sit tak ser hid ovr hst pia : Int32} {ρ : Nat} (hρ : ρ ≤ 400) {coins chairOf tired hosted owed paid : A1} (hF : RF C G D sit tak ser hid (nI ρ) ovr hst pia coins chairOf tired hosted owed paid s) {g : Nat} (hg : g < G) (x th : Int32) : ∀ (m k n1 n2 : Nat), k + m = C → m < n1 → m < n2 →
    ∃ r, lX1_roundsTill_2 (nI C) speed chairOf n1 (nI g) x (nI k) = some r ∧ lX12_when_25 s n2 th (nI g) x (nI k) = some (r, th) := by
  obtain ⟨⟨hC2, hC9, hG, hGC, hD⟩, ⟨e0, e1, e2⟩, hg1, -⟩ := id hH
  have f2 : s (56 + g) = chairOf g := (hF.1.2 g hg).2.1
  have p2 : s (17 + g) = speed g := (hg1 g hg).2.1
  intro m
  induction m with
  | zero =>
    intro k n1 n2 hk hn1 hn2
    obtain ⟨n1, rfl⟩ := sn hn1
    obtain ⟨n2, rfl⟩ := sn hn2
    have e : k = C := by omega
    subst e
    refine ⟨-1, ?_, ?_⟩
    · rw [lX1_roundsTill_2, if_pos (nI_le (Nat.le_refl _) (by omega))]
    · rw [lX12_when_25, e0, if_pos (nI_le (Nat.le_refl _) (by omega))]
  | succ m ih =>
    intro k n1 n2 hk hn1 hn2
    obtain ⟨n1, rfl⟩ := sn hn1
    obtain ⟨n2, rfl⟩ := sn hn2
    obtain ⟨r, z1, z2⟩ := ih (k + 1) n1 n2 (by omega) (by omega) (by omega)
    have hk2 : ¬ nI C ≤ nI k := nI_ge (by omega) (by omega)
    simp only [lX1_roundsTill_2, lX12_when_25, e0, if_neg hk2, fX1_onFrom, if_neg (nI_nle (show 0 < C by omega) (show C < 2 ^ 31 by omega)), gI_ok (show g < 7 by omega) (show 7 ≤ 1000 by omega), gZ_ok (nI_ne0 (show 0 < C by omega) (show C < 2 ^ 31 by omega)), ix0 (show g < 1000 by omega), bind_eq, c56, c17, gI_oka (show 56 + g < 273 by omega) (show 273 ≤ 1000 by omega), gI_oka (show 17 + g < 273 by omega) (show 273 ≤ 1000 by omega), ixa (show 56 + g < 1000 by omega), ixa (show 17 + g < 1000 by omega), f2, p2, nI_1, z1, z2]
    by_cases h : chairOf g + nI k * speed g - (chairOf g + nI k * speed g) / nI C * nI C = x
    · exact ⟨nI k, by rw [if_pos h], by rw [if_pos h]⟩
    · exact ⟨r, by rw [if_neg h], by rw [if_neg h]⟩
/-- promise 27: when -/
theorem T_when {C G D : Nat} {pride speed payer cost s : A1} (hH : RH C G D pride speed payer cost s) {sit tak ser hid ovr hst pia : Int32} {ρ : Nat} (hρ : ρ ≤ 400) {coins chairOf tired hosted owed paid : A1} (hF : RF C G D sit tak ser hid (nI ρ) ovr hst pia coins chairOf tired hosted owed paid s) (th x y : Int32) : ∃ r, fX11_when (nI C) (nI G) speed chairOf x y = some r ∧ fX12_when s th x y = some (r, 0) := by
  unfold fX11_when fX12_when
  rcases guest_is hH x with ⟨g, hg, rfl, h1, h2⟩ | ⟨h1, h2⟩
  · rcases chair_is hH y with ⟨c, hc, rfl, h3, h4⟩ | ⟨h3, h4, -⟩
    · obtain ⟨r, z1, z2⟩ := when_loop hH hρ hF hg (nI c) 0 C 0 5000 5000 (by omega) (by have := hH.1; omega) (by have := hH.1; omega)
      refine ⟨r, ?_, ?_⟩
      · rw [h1, bind_eq, if_neg nn1, h3, bind_eq, if_neg nn1]
        unfold fX1_roundsTill
        rw [show (0 : Int32) = nI 0 from rfl, z1, bind_eq]
      · rw [h2, bind_eq, if_neg nn1, h4, bind_eq, if_neg nn1]
        exact z2
    · refine ⟨-1, ?_, ?_⟩
      · rw [h1, bind_eq, if_neg nn1, h3, bind_eq, if_pos rfl]
      · rw [h2, bind_eq, if_neg nn1, h4, bind_eq, if_pos rfl]
  · refine ⟨-1, ?_, ?_⟩
    · rw [h1, bind_eq, if_pos rfl]
    · rw [h2, bind_eq, if_pos rfl]
/-- the richest, both -/
theorem rich_loop {C G D : Nat} {pride speed payer cost s : A1} (hH : RH C G D pride speed payer cost s) {f p : A1} (hfp : ∀ i, i < G → p i = f i) (kk : Int32 → Int32 → A1 → A1 → Int32 → Int32 → Option (Int32 × Int32 × Int32 × A1 × A1)) (th hm : Int32) (row : A1) (x y : Int32) : ∀ (m j n1 n2 : Nat), j + m = G → m < n1 → m < n2 → ∀ b : Int32, (b = -1 ∨ ∃ i, i < G ∧ b = nI i) →
    ∃ r, (r = -1 ∨ ∃ i, i < G ∧ r = nI i) ∧ lX9_richestPaidFor_4 (nI G) payer f n1 b (nI j) = some r ∧ lX12_hosts_60 s kk n2 th hm p row x y b (nI j) = lX12_hosts_60 s kk 1 th hm p row x y r (nI G) := by
  obtain ⟨⟨hC2, hC9, hG, hGC, hD⟩, ⟨e0, e1, e2⟩, hg1, -⟩ := id hH
  intro m
  induction m with
  | zero =>
    intro j n1 n2 hj hn1 hn2 b hb
    obtain ⟨n1, rfl⟩ := sn hn1
    obtain ⟨n2, rfl⟩ := sn hn2
    have e : j = G := by omega
    subst e
    refine ⟨b, hb, ?_, ?_⟩
    · rw [lX9_richestPaidFor_4, if_pos (nI_le (Nat.le_refl _) (by omega))]
    · rw [lX12_hosts_60, lX12_hosts_60, e1, if_pos (nI_le (Nat.le_refl _) (by omega)), if_pos (nI_le (Nat.le_refl _) (by omega))]
  | succ m ih =>
    intro j n1 n2 hj hn1 hn2 b hb
    obtain ⟨n1, rfl⟩ := sn hn1
    obtain ⟨n2, rfl⟩ := sn hn2
    have hjG : j < G := by omega
    have hge : ¬ nI G ≤ nI j := nI_ge (by omega) (by omega)
    obtain ⟨-, -, -, -, q, hq, eq, -⟩ := hg1 j hjG
    rw [lX9_richestPaidFor_4, if_neg hge, lX12_hosts_60, e1, if_neg hge]
    rcases hb with rfl | ⟨i, hi, rfl⟩
    · rw [if_pos rfl, if_pos (by decide), nI_1]
      exact ih (j + 1) n1 n2 (by omega) (by omega) (by omega) (nI j) (Or.inr ⟨j, hjG, rfl⟩)
    · obtain ⟨-, -, -, -, q2, hq2, eq2, -⟩ := hg1 i hi
      rw [if_neg (show ¬ nI i = -1 from fun e => absurd (show nI i < 0 by rw [e]; decide) (nI_pos (by omega))), if_neg (nI_pos (show i < 2 ^ 31 by omega)), payerM hH hjG, bind_eq, payerM hH hi, bind_eq, eq, eq2, nI_1]
      rw [gI_ok (show j < 7 by omega) (by omega), ix0 (show j < 1000 by omega), ix0 (show i < 1000 by omega), eq, eq2, gI_ok (show q < 7 by omega) (by omega), gI_ok (show i < 7 by omega) (by omega), gI_ok (show q2 < 7 by omega) (by omega), gI_ok (show q < 7 by omega) (by omega), gI_ok (show q2 < 7 by omega) (by omega), ix0 (show q < 1000 by omega), ix0 (show q2 < 1000 by omega), hfp q hq, hfp q2 hq2]
      by_cases h : f q ≤ f q2
      · rw [if_pos h, if_pos h]
        exact ih (j + 1) n1 n2 (by omega) (by omega) (by omega) (nI i) (Or.inr ⟨i, hi, rfl⟩)
      · rw [if_neg h, if_neg h]
        exact ih (j + 1) n1 n2 (by omega) (by omega) (by omega) (nI j) (Or.inr ⟨j, hjG, rfl⟩)
theorem purse_loop {s row : A1} (kk : Int32 → Int32 → A1 → A1 → Int32 → Int32 → Option (Int32 × Int32 × Int32 × A1 × A1)) (th hm x : Int32) : ∀ (m j n : Nat), j + m = 7 → m < n → ∀ p : A1, (∀ i, i < j → p i = s (49 + i)) → ∃ p', (∀ i, i < 7 → p' i = s (49 + i)) ∧ lX12_hosts_20 s kk n th hm p row x (nI j) = kk th hm p' row x 0 := by
  intro m
  induction m with
  | zero =>
    intro j n hj hn p hp
    obtain ⟨n, rfl⟩ := sn hn
    have e : j = 7 := by omega
    subst e
    exact ⟨p, hp, by rw [lX12_hosts_20, if_pos (by decide)]⟩
  | succ m ih =>
    intro j n hj hn p hp
    obtain ⟨n, rfl⟩ := sn hn
    have h7 : ¬ (7 : Int32) ≤ nI j := nI_ge (b := 7) (by omega) (by omega)
    rw [lX12_hosts_20, if_neg h7, c49, gI_oka (by omega) (by omega), ixa (by omega), nmv_eq, gI_ok (by omega) (by omega), nmv_eq, ix0 (by omega), nI_1]
    exact ih (j + 1) n (by omega) (by omega) _ (lt_s (fun i hi => by rw [pk_un (by omega)]; exact hp i hi) pk_us)
theorem hosts_loop {C G D : Nat} {pride speed payer cost s : A1} (hH : RH C G D pride speed payer cost s) (sit tak ser hid rnd ovr hst pia : Int32) (coins chairOf tired hosted owed paid : A1) (th hm x : Int32) : ∀ (m k n1 n2 : Nat), k + m = 99 → m < n1 → m < n2 → ∀ (hl : Int32) (t1 t2 t3 t4 t5 t6 t7 t8 : Int32) (u1 u2 u3 u4 u5 u6 : A1) (L R p : A1), hl = nI k → (∀ i, i < G → p i = u1 i) → (∀ i, i < k → L i = R i) →
    ∃ (h : Nat) (t1' t2' t3' t4' t5' t6' t7' t8' : Int32) (u1' u2' u3' u4' u5' u6' : A1) (L' R' p' : A1), h ≤ 99 ∧ (∀ i, i < h → L' i = R' i) ∧ lX9_hostList_18 (nI G) payer sit tak ser hid rnd ovr hst pia coins chairOf tired hosted owed paid n1 hl t1 t2 t3 t4 t5 t6 t7 t8 u1 u2 u3 u4 u5 u6 L x (nI k) = some (nI h, nI h, t1', t2', t3', t4', t5', t6', t7', t8', u1', u2', u3', u4', u5', u6', L') ∧ lX12_hosts_49 s n2 th hm p R x (nI k) = some (nI h, th, nI h, p', R') := by
  obtain ⟨⟨hC2, hC9, hG, hGC, hD⟩, ⟨e0, e1, e2⟩, hg1, -⟩ := id hH
  intro m
  induction m with
  | zero =>
    intro k n1 n2 hk hn1 hn2 hl t1 t2 t3 t4 t5 t6 t7 t8 u1 u2 u3 u4 u5 u6 L R p hhl hp hL
    obtain ⟨n1, rfl⟩ := sn hn1
    obtain ⟨n2, rfl⟩ := sn hn2
    have e : k = 99 := by omega
    subst e
    subst hhl
    refine ⟨99, t1, t2, t3, t4, t5, t6, t7, t8, u1, u2, u3, u4, u5, u6, L, R, p, by omega, hL, ?_, ?_⟩
    · rw [lX9_hostList_18, if_pos (by decide)]
    · rw [lX12_hosts_49, if_pos (by decide)]
  | succ m ih =>
    intro k n1 n2 hk hn1 hn2 hl t1 t2 t3 t4 t5 t6 t7 t8 u1 u2 u3 u4 u5 u6 L R p hhl hp hL
    obtain ⟨n1, rfl⟩ := sn hn1
    obtain ⟨n2, rfl⟩ := sn hn2
    subst hhl
    have h99 : ¬ (99 : Int32) ≤ nI k := nI_ge (b := 99) (by omega) (by omega)
    obtain ⟨r, hr, z1, z2⟩ := rich_loop hH hp (lX12_hosts_49 s n2) th hm R x (nI k) G 0 5000 5000 (by omega) (by omega) (by omega) (-1) (Or.inl rfl)
    rw [show nI 0 = 0 from rfl] at z1 z2
    rw [lX9_hostList_18, if_neg h99, lX12_hosts_49, if_neg h99, z2, lX12_hosts_60, e1, if_pos (nI_le (Nat.le_refl _) (by omega))]
    unfold fX9_richestPaidFor
    rw [z1, bind_eq]
    rcases hr with rfl | ⟨i, hi, rfl⟩
    · rw [if_pos rfl, if_pos (by decide)]
      exact ⟨k, t1, t2, t3, t4, t5, t6, t7, t8, u1, u2, u3, u4, u5, u6, L, R, p, by omega, hL, rfl, rfl⟩
    · obtain ⟨-, -, -, -, q, hq, eq, -⟩ := hg1 i hi
      rw [if_neg (show ¬ nI i = -1 from fun e => absurd (show nI i < 0 by rw [e]; decide) (nI_pos (by omega))), if_neg (nI_pos (show i < 2 ^ 31 by omega)), payerM hH hi, bind_eq, eq]
      simp only [gI_ok (show i < 7 by omega) (show 7 ≤ 1000 by omega), ix0 (show i < 1000 by omega), eq, gI_ok (show q < 7 by omega) (show 7 ≤ 1000 by omega), ix0 (show q < 1000 by omega), hp q hq, nmv_eq, bind_eq, gI_ok (show k < 99 by omega) (show 99 ≤ 1000 by omega), ix0 (show k < 1000 by omega), nI_1]
      by_cases h : x ≤ u1 q
      · rw [if_pos h, if_pos h]
        refine ih (k + 1) n1 n2 (by omega) (by omega) (by omega) _ t1 t2 t3 t4 t5 t6 t7 t8 _ u2 u3 u4 u5 u6 _ _ _ rfl ?_ ?_
        · intro i2 hi2
          by_cases e : i2 = q
          · subst e
            rw [pk_us, pk_us]
          · rw [pk_un e, pk_un e, hp i2 hi2]
        · exact lt_s (fun i2 hi2 => by rw [pk_un (by omega), pk_un (by omega)]; exact hL i2 hi2) (by rw [pk_us, pk_us])
      · rw [if_neg h, if_neg h]
        exact ⟨k, t1, t2, t3, t4, t5, t6, t7, t8, u1, u2, u3, u4, u5, u6, L, R, p, by omega, hL, rfl, rfl⟩
/-- what hostAt tells, both -/
def RLs (hl hm : Int32) (L R : A1) : Prop := ∃ h, h ≤ 99 ∧ hl = nI h ∧ (hm = nI h ∨ (h = 0 ∧ hm = -1)) ∧ ∀ i, i < h → L i = R i
/-- promise 24: hosts -/
theorem T_hosts {C G D : Nat} {pride speed payer cost s : A1} (hH : RH C G D pride speed payer cost s) {sit tak ser hid ovr hst pia : Int32} {ρ : Nat} (hρ : ρ ≤ 400) {coins chairOf tired hosted owed paid : A1} (hF : RF C G D sit tak ser hid (nI ρ) ovr hst pia coins chairOf tired hosted owed paid s) (t1 t2 t3 t4 t5 t6 t7 t8 : Int32) (u1 u2 u3 u4 u5 u6 : A1) (th hl hm : Int32) (L R p : A1) (hL : RLs hl hm L R) (x : Int32) :
    ∃ (r hl' hm' : Int32) (t1' t2' t3' t4' t5' t6' t7' t8' : Int32) (u1' u2' u3' u4' u5' u6' : A1) (L' R' p' : A1), RLs hl' hm' L' R' ∧ fX11_hosts (nI G) payer sit tak ser hid (nI ρ) ovr hst pia coins chairOf tired hosted owed paid hl t1 t2 t3 t4 t5 t6 t7 t8 u1 u2 u3 u4 u5 u6 L x = some (r, hl', t1', t2', t3', t4', t5', t6', t7', t8', u1', u2', u3', u4', u5', u6', L') ∧ fX12_hosts s th hm p R x = some (r, 0, hm', p', R') := by
  have hG := hH.1
  unfold fX11_hosts fX12_hosts fX12_isIn
  by_cases h1 : x < 1
  · rw [if_pos h1, if_pos h1, bind_eq, if_pos rfl]
    exact ⟨-1, hl, hm, t1, t2, t3, t4, t5, t6, t7, t8, u1, u2, u3, u4, u5, u6, L, R, p, hL, rfl, rfl⟩
  · rw [if_neg h1, if_neg h1]
    by_cases h2 : 999 < x
    · rw [if_pos h2, if_pos h2, bind_eq, if_pos rfl]
      exact ⟨-1, hl, hm, t1, t2, t3, t4, t5, t6, t7, t8, u1, u2, u3, u4, u5, u6, L, R, p, hL, rfl, rfl⟩
    · rw [if_neg h2, if_neg h2, bind_eq, if_neg nn1]
      obtain ⟨p0, hp0, z0⟩ := purse_loop (s := s) (row := R) (lX12_hosts_49 s 5000) 0 hm x 7 0 5000 (by omega) (by omega) p (fun i h => absurd h (by omega))
      obtain ⟨h, t1', t2', t3', t4', t5', t6', t7', t8', u1', u2', u3', u4', u5', u6', L', R', p', a1, a2, a3, a4⟩ := hosts_loop hH sit tak ser hid (nI ρ) ovr hst pia coins chairOf tired hosted owed paid 0 hm x 99 0 5000 5000 (by omega) (by omega) (by omega) 0 sit tak ser hid (nI ρ) ovr hst pia (va_cpy coins u1 0 0 7) (va_cpy chairOf u2 0 0 7) (va_cpy tired u3 0 0 7) (va_cpy hosted u4 0 0 7) (va_cpy owed u5 0 0 7) (va_cpy paid u6 0 0 7) L R p0 rfl (fun i hi => by rw [hp0 i (by omega), cpy7 (by omega), (hF.1.2 i hi).1]) (fun i h => absurd h (by omega))
      rw [show nI 0 = 0 from rfl] at a3 a4 z0
      refine ⟨nI h, nI h, nI h, t1', t2', t3', t4', t5', t6', t7', t8', u1', u2', u3', u4', u5', u6', L', R', p', ⟨h, a1, rfl, Or.inl rfl, a2⟩, ?_, ?_⟩
      · unfold fX9_hostList fX1_copyFrom
        rw [bind_eq]
        dsimp only
        rw [a3, bind_eq]
      · rw [z0, a4]
/-- promise 25: hostAt -/
theorem T_hostAt {hl hm : Int32} {L R : A1} (hL : RLs hl hm L R) (th x : Int32) : ∃ r, fX11_hostAt hl L x = some r ∧ fX12_hostAt hm R th x = some (r, 0) := by
  obtain ⟨h, h99, rfl, hhm, hLR⟩ := hL
  unfold fX11_hostAt fX12_hostAt fX12_isIn
  by_cases h0 : x < 0
  · rw [if_pos h0, if_pos h0, bind_eq, if_pos rfl]
    exact ⟨_, rfl, rfl⟩
  · rw [if_neg h0, if_neg h0]
    obtain ⟨j, hj, rfl⟩ := nI_of h0
    by_cases h1 : j < h
    · have e : hm - 1 = nI (h - 1) := by
        rcases hhm with rfl | ⟨rfl, -⟩
        · exact pk_sub (b := 1) (by omega)
        · omega
      rw [if_neg (nI_ge h1 (by omega)), e, if_neg (nI_nlt (by omega) (by omega)), bind_eq, if_neg nn1, gI_ok (by omega) (by omega), gI_ok (by omega) (by omega), ix0 (by omega), hLR j h1]
      exact ⟨_, rfl, rfl⟩
    · have e : hm - 1 < nI j := by
        rcases hhm with rfl | ⟨rfl, rfl⟩
        · by_cases hz : h = 0
          · subst hz
            rw [fa_lt, nI_toInt hj]
            have e2 : (nI 0 - 1).toInt = -1 := by decide
            omega
          · rw [show nI h - 1 = nI (h - 1) from pk_sub (b := 1) (by omega)]
            exact nI_lt (by omega) hj
        · rw [fa_lt, nI_toInt hj]
          have e2 : (-1 - 1 : Int32).toInt = -2 := by decide
          omega
      rw [if_pos (nI_le (by omega) hj), if_pos e, bind_eq, if_pos rfl]
      exact ⟨_, rfl, rfl⟩
/-- the limit of a menu -/
def LM (a b : Int32) : Prop := (a = 9999 ∧ b = 1000000) ∨ ∃ k, k ≤ 999 ∧ a = nI k ∧ b = nI k
theorem limC_loop {C G D : Nat} {pride speed payer cost s : A1} (hH : RH C G D pride speed payer cost s) {sit tak ser hid ovr hst pia : Int32} {ρ : Nat} (hρ : ρ ≤ 400) {coins chairOf tired hosted owed paid : A1} (hF : RF C G D sit tak ser hid (nI ρ) ovr hst pia coins chairOf tired hosted owed paid s) (kk : Int32 → Int32 → Int32 → Int32 → Int32 → Option (Int32 × Int32 × Int32)) (th ms : Int32) : ∀ (m j n1 n2 : Nat), j + m = G → m < n1 → m < n2 → ∀ a b : Int32, LM a b →
    ∃ a' b', LM a' b' ∧ lX9_fewestCoinsOfPayers_6 (nI G) payer coins n1 a (nI j) = some a' ∧ lX12_menu_11 s kk n2 th ms b (nI j) = kk th ms b' 0 1 := by
  obtain ⟨⟨hC2, hC9, hG, hGC, hD⟩, ⟨e0, e1, e2⟩, hg1, -⟩ := id hH
  intro m
  induction m with
  | zero =>
    intro j n1 n2 hj hn1 hn2 a b hab
    obtain ⟨n1, rfl⟩ := sn hn1
    obtain ⟨n2, rfl⟩ := sn hn2
    have e : j = G := by omega
    subst e
    refine ⟨a, b, hab, ?_, ?_⟩
    · rw [lX9_fewestCoinsOfPayers_6, if_pos (nI_le (Nat.le_refl _) (by omega))]
    · rw [lX12_menu_11, e1, if_pos (nI_le (Nat.le_refl _) (by omega))]
  | succ m ih =>
    intro j n1 n2 hj hn1 hn2 a b hab
    obtain ⟨n1, rfl⟩ := sn hn1
    obtain ⟨n2, rfl⟩ := sn hn2
    have hjG : j < G := by omega
    have hge : ¬ nI G ≤ nI j := nI_ge (by omega) (by omega)
    obtain ⟨-, -, -, -, q, hq, eq, -⟩ := hg1 j hjG
    obtain ⟨-, ka, kb, ko, hka, -, ek, -, -⟩ := hF.2.2.1 q hq
    have f1 : s (49 + q) = nI ka := by rw [(hF.1.2 q hq).1, ek]
    rw [lX9_fewestCoinsOfPayers_6, if_neg hge, lX12_menu_11, e1, if_neg hge, payerM hH hjG, bind_eq, eq]
    simp only [gI_ok (show j < 7 by omega) (show 7 ≤ 1000 by omega), ix0 (show j < 1000 by omega), eq, gI_ok (show q < 7 by omega) (show 7 ≤ 1000 by omega), ix0 (show q < 1000 by omega), c49, gI_oka (show 49 + q < 273 by omega) (show 273 ≤ 1000 by omega), ixa (show 49 + q < 1000 by omega), f1, ek, nmv_eq, lesser_eq, bind_eq, nI_1]
    apply ih (j + 1) n1 n2 (by omega) (by omega) (by omega)
    rcases hab with ⟨rfl, rfl⟩ | ⟨k, hk, rfl, rfl⟩
    · rw [if_pos (show nI ka < 9999 from nI_lt (b := 9999) (by omega) (by omega)), if_pos (show nI ka < 1000000 from nI_lt (b := 1000000) (by omega) (by omega))]
      exact Or.inr ⟨ka, by omega, rfl, rfl⟩
    · by_cases h : nI ka < nI k
      · rw [if_pos h]
        exact Or.inr ⟨ka, by omega, rfl, rfl⟩
      · rw [if_neg h]
        exact Or.inr ⟨k, hk, rfl, rfl⟩
theorem LM_lt {a b : Int32} (h : LM a b) {k : Nat} (hk : k ≤ 594) : a < nI k ↔ b < nI k := by
  rcases h with ⟨rfl, rfl⟩ | ⟨j, hj, rfl, rfl⟩
  · constructor
    · intro h
      exact absurd h (nI_nlt (b := k) (a := 9999) (by omega) (by omega))
    · intro h
      exact absurd h (nI_nlt (b := k) (a := 1000000) (by omega) (by omega))
  · exact Iff.rfl
theorem menu_loop {C G D : Nat} {pride speed payer cost s : A1} (hH : RH C G D pride speed payer cost s) (coins : A1) {a b : Int32} (hab : LM a b) (th md ms : Int32) : ∀ (m j n1 n2 : Nat), j + m = 2 ^ D → m < n1 → m < n2 → ∀ best, best < 2 ^ D →
    ∃ r best', lX9_mostDishes_9 (nI G) (nI D) payer cost coins n1 md a (nI best) (nI j) = some (r, nI best') ∧ lX12_menu_49 s n2 th ms b (nI best) (nI j) = some (r, th, nI best') := by
  obtain ⟨⟨hC2, hC9, hG, hGC, hD⟩, ⟨e0, e1, e2⟩, -, hd1⟩ := id hH
  obtain ⟨ep, hpw⟩ := two_pow_all D (by omega)
  have hcs : ∀ x, csum x (fun d => s (31 + d)) D = csum x cost D := fun x => csum_congr (fun i hi => (hd1 i hi).1)
  have sm1 : ∀ k, k < 2 ^ D → sm 10 (nI k) := fun k hk => sm_nI (by omega)
  intro m
  induction m with
  | zero =>
    intro j n1 n2 hj hn1 hn2 best hb
    obtain ⟨n1, rfl⟩ := sn hn1
    obtain ⟨n2, rfl⟩ := sn hn2
    have e : j = 2 ^ D := by omega
    subst e
    refine ⟨nI (pop (nI best)), best, ?_, ?_⟩
    · rw [lX9_mostDishes_9, ep, if_pos (nI_le (Nat.le_refl _) (by omega)), bitCount_eq (sm1 best hb), bind_eq]
    · rw [lX12_menu_49, e2, ep, if_pos (nI_le (Nat.le_refl _) (by omega)), bits_eq (sm1 best hb), bind_eq]
  | succ m ih =>
    intro j n1 n2 hj hn1 hn2 best hb
    obtain ⟨n1, rfl⟩ := sn hn1
    obtain ⟨n2, rfl⟩ := sn hn2
    have hge : ¬ nI (2 ^ D) ≤ nI j := nI_ge (by omega) (by omega)
    obtain ⟨k, hk, ek⟩ := csum_nat (x := nI j) (f := cost) (n := D) (fun i hi => (hd1 i hi).2)
    have ih1 := ih (j + 1) n1 n2 (by omega) (by omega) (by omega) best hb
    have ih2 := ih (j + 1) n1 n2 (by omega) (by omega) (by omega) j (by omega)
    have hlm := LM_lt hab (show k ≤ 594 by omega)
    simp only [lX9_mostDishes_9, lX12_menu_49, e2, ep, if_neg hge, costC hD, costM hD e2, hcs, bitCount_eq (sm1 best hb), bits_eq (sm1 best hb), bitCount_eq (sm1 j (by omega)), bits_eq (sm1 j (by omega)), bind_eq, nI_1, ek]
    by_cases h1 : a < nI k
    · rw [if_pos h1, if_pos (hlm.mp h1)]
      exact ih1
    · rw [if_neg h1, if_neg (fun h => h1 (hlm.mpr h))]
      generalize nI (pop (nI j)) - nI (pop (nI best)) = d
      rcases fa_three d 0 with h2 | h2 | h2
      · rw [if_neg (fa_of_lt h2).2.2.1, if_neg (fa_of_lt h2).2.2.2.1, if_pos h2]
        exact ih1
      · subst h2
        simp only [if_neg (show ¬ (0 : Int32) < 0 by decide), if_true]
        by_cases h3 : csum (nI best) cost D ≤ nI k
        · rw [if_pos h3, if_neg (fun h => (fa_of_lt h).2.1 h3)]
          exact ih1
        · rw [if_neg h3, if_pos (fa_of_nle h3)]
          exact ih2
      · rw [if_pos h2, if_neg (fa_of_lt h2).2.2.1, if_neg (fa_of_lt h2).2.2.2.2]
        exact ih2
/-- promise 28: menu; and 29 -/
theorem T_menu {C G D : Nat} {pride speed payer cost s : A1} (hH : RH C G D pride speed payer cost s) {sit tak ser hid ovr hst pia : Int32} {ρ : Nat} (hρ : ρ ≤ 400) {coins chairOf tired hosted owed paid : A1} (hF : RF C G D sit tak ser hid (nI ρ) ovr hst pia coins chairOf tired hosted owed paid s) (md ms th : Int32) : ∃ r md', fX11_menu (nI G) (nI D) payer cost coins md = some (r, md') ∧ fX12_menu s th ms = some (r, 0, md') := by
  have hG := hH.1
  have hpw := (two_pow_all D (by omega)).2
  obtain ⟨a, b, hab, z1, z2⟩ := limC_loop hH hρ hF (lX12_menu_49 s 5000) 0 ms G 0 5000 5000 (by omega) (by omega) (by omega) 9999 1000000 (Or.inl ⟨rfl, rfl⟩)
  obtain ⟨r, best, y1, y2⟩ := menu_loop hH coins hab 0 md ms (2 ^ D - 1) 1 5000 5000 (by have := Nat.two_pow_pos D; omega) (by omega) (by omega) 0 (Nat.two_pow_pos D)
  rw [show nI 0 = 0 from rfl] at z1 z2 y1 y2
  rw [show nI 1 = 1 from rfl] at y1 y2
  refine ⟨r, nI best, ?_, ?_⟩
  · unfold fX11_menu fX9_mostDishes fX9_fewestCoinsOfPayers
    rw [z1, bind_eq, y1, bind_eq]
  · unfold fX12_menu
    rw [z2, y2]
