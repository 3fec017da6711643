/-! ===== pure: promise 40: said, the answers ===== -/
/-- the truth of a plain one, by the reference -/
def lvb (s : A1) (i g : Nat) : Bool := decide (fX12_isLeaf s (nI g) (s (93 + 3 * i)) (s (93 + 3 * i + 1)) (s (93 + 3 * i + 2)) = some 1)
theorem bI_dec {x : Option Int32} {b : Bool} (h : x = some (bI b)) : decide (x = some 1) = b := by
  subst h
  cases b <;> decide
theorem bI_0 (b : Bool) : bI b = 0 ↔ b = false := by
  cases b <;> decide
/-- how many -/
theorem saidN {G : Nat} {s : A1} (hG : G ≤ 7) (hs : s 1 = nI G) {p : Nat → Bool} (hp : ∀ g, g < G → ∀ tr : A1, ∃ tr', fX12_isSaid s tr (nI g) = some (bI (p g), tr')) : ∀ (m j n : Nat), j + m = G → m < n → ∀ tr : A1, ∃ tr', lX12_said_26 s n 0 tr (-1) (nI (fa_cnt p j)) (nI j) = some (nI (fa_cnt p G), 0, tr') := by
  intro m
  induction m with
  | zero =>
    intro j n hj hn tr
    obtain ⟨n, rfl⟩ := sn hn
    have e : j = G := by omega
    subst e
    exact ⟨tr, by rw [lX12_said_26, hs, if_pos (nI_le (by omega) (by omega)), if_pos rfl]⟩
  | succ m ih =>
    intro j n hj hn tr
    obtain ⟨n, rfl⟩ := sn hn
    have hc := fa_cnt_le p j
    obtain ⟨tr1, y1⟩ := hp j (by omega) tr
    obtain ⟨tr', z1⟩ := ih (j + 1) n (by omega) (by omega) tr1
    refine ⟨tr', ?_⟩
    rw [lX12_said_26, hs, if_neg (nI_ge (by omega) (by omega)), y1, bind_eq, nI_1]
    dsimp only
    cases hb : p j
    · rw [fa_cnt_no hb] at z1
      rw [if_pos (show bI false = 0 by decide)]
      exact z1
    · rw [fa_cnt_yes hb] at z1
      rw [if_neg (show ¬ bI true = 0 by decide), if_neg (neg_nI _ (by omega)), nI_1]
      exact z1
/-- which -/
theorem saidK {G : Nat} {s : A1} (hG : G ≤ 7) (hs : s 1 = nI G) {p : Nat → Bool} (hp : ∀ g, g < G → ∀ tr : A1, ∃ tr', fX12_isSaid s tr (nI g) = some (bI (p g), tr')) {r : Int32} (hr : ∀ g, g < G → bt r g = p g) {x : Int32} (hx : ¬ x = -1) (pride payer : A1) (sit : Int32) (coins chairOf tired hosted owed : A1) (sl : Int32) (st sg va pile : A1) : ∀ (m j c n1 n2 : Nat), j + m = G → m < n1 → m < n2 → c ≤ j → ∀ tr : A1, ∃ q tr', lX11_said_44 (nI G) pride payer sit coins chairOf tired hosted owed sl st sg va n1 pile x r (nI c) (nI j) = some (q, pile) ∧ lX12_said_26 s n2 0 tr x (nI c) (nI j) = some (q, 0, tr') := by
  intro m
  induction m with
  | zero =>
    intro j c n1 n2 hj h1 h2 hc tr
    obtain ⟨n1, rfl⟩ := sn h1
    obtain ⟨n2, rfl⟩ := sn h2
    refine ⟨-1, tr, ?_, ?_⟩
    · rw [lX11_said_44, if_pos (nI_le (by omega) (by omega))]
    · rw [lX12_said_26, hs, if_pos (nI_le (by omega) (by omega)), if_neg hx]
  | succ m ih =>
    intro j c n1 n2 hj h1 h2 hc tr
    obtain ⟨n1, rfl⟩ := sn h1
    obtain ⟨n2, rfl⟩ := sn h2
    obtain ⟨tr1, y1⟩ := hp j (by omega) tr
    rw [lX11_said_44, if_neg (nI_ge (by omega) (by omega)), lX12_said_26, hs, if_neg (nI_ge (by omega) (by omega)), y1, bind_eq, show nI j + 1 = nI (j + 1) from nI_1 j, show nI c + 1 = nI (c + 1) from nI_1 c]
    dsimp only
    cases hb : p j
    · rw [if_neg (show ¬ ((r >>> (nI j &&& 31)) &&& 1) = 1 from fun e => by
        have := (bit_iff (by omega)).mp e
        rw [hr j (by omega), hb] at this
        cases this), if_pos (show bI false = 0 by decide)]
      exact ih (j + 1) c n1 n2 (by omega) (by omega) (by omega) (by omega) tr1
    · rw [if_pos ((bit_iff (by omega)).mpr (by rw [hr j (by omega), hb])), if_neg (show ¬ bI true = 0 by decide)]
      by_cases e : nI c = x
      · rw [if_pos e, if_pos e]
        exact ⟨nI j, tr1, rfl, rfl⟩
      · rw [if_neg e, if_neg e]
        exact ih (j + 1) (c + 1) n1 n2 (by omega) (by omega) (by omega) (by omega) tr1
/-- promise 40: said -/
theorem T_said {C G D : Nat} {pride speed payer cost s : A1} (hH : RH C G D pride speed payer cost s) {sit tak ser hid rnd ovr hst pia : Int32} {coins chairOf tired hosted owed paid : A1} (hF : RFp C G D sit tak ser hid rnd ovr hst pia coins chairOf tired hosted owed paid s) {sl : Int32} {st sg va : A1} (hY : RSy G sl st sg va s) (pile : A1) (th : Int32) (tr : A1) (x : Int32) :
    ∃ r pile' tr', fX11_said (nI G) pride payer sit coins chairOf tired hosted owed sl st sg va pile x = some (r, pile') ∧ fX12_said s th tr x = some (r, 0, tr') := by
  obtain ⟨⟨hC2, hC9, hG, hGC, hD⟩, ⟨e0, e1, e2⟩, -, -⟩ := id hH
  obtain ⟨L, hL, rfl, hs, h1, hW, hC⟩ := hY
  unfold fX11_said fX12_said
  rw [hs]
  by_cases hz : L = 0
  · subst hz
    rw [if_pos (show nI 0 = 0 from rfl), if_pos (show nI 0 = 0 from rfl)]
    exact ⟨_, _, _, rfl, rfl⟩
  · have hL0 : ¬ nI L = 0 := nI_ne0 (by omega) (by omega)
    have hg1 := h1.resolve_left hz
    rw [if_neg hL0, if_neg hL0]
    by_cases hx : (-1) ≤ x
    · rw [if_pos hx, if_pos hx]
      have both : ∀ i, i < L → ¬ (st i = 12 ∨ st i = 11 ∨ st i = 10) → ∀ g, g < G → fX7_holds st sg va sit (nI G) pride payer coins chairOf tired hosted owed (nI g) (nI i) = some (bI (lvb s i g)) ∧ fX12_isLeaf s (nI g) (s (93 + 3 * i)) (s (93 + 3 * i + 1)) (s (93 + 3 * i + 2)) = some (bI (lvb s i g)) := by
        intro i hi hno g hg
        obtain ⟨b, c1, c2⟩ := leaf_sim hH hF.2.2 (show i < 40 by omega) hg (hC i hi) hno
        have e : lvb s i g = b := bI_dec c2
        rw [e]
        exact ⟨c1, c2⟩
      have hp : ∀ g, g < G → ∀ tr : A1, ∃ tr', fX12_isSaid s tr (nI g) = some (bI (PV st (lvb s) L 0 g), tr') := by
        intro g hg' tr
        obtain ⟨tr', h5⟩ := said_loop hL hs hg1 hW hC (lv := lvb s) (fun i hi hno => (both i hi hno g hg').2) L 0 5000 (by omega) (by omega) tr (fun h hh => absurd hh (Nat.not_lt_zero h))
        rw [show nI (hg st 0) = 0 from rfl, show nI 0 = 0 from rfl] at h5
        unfold fX12_isSaid
        exact ⟨tr', h5⟩
      obtain ⟨r, pile', y1, y2, y3⟩ := true_loop hG hL hg1 hW (lv := lvb s) (fun i hi hno g hg => (both i hi hno g hg).1) L 0 5000 (by omega) (by omega) pile (fun h hh => absurd hh (Nat.not_lt_zero h))
      have ht : fX7_trueOf (nI L) st sg va sit (nI G) pride payer coins chairOf tired hosted owed pile = some (r, pile') := by
        rw [show nI (hg st 0) = 0 from rfl, show nI 0 = 0 from rfl] at y1
        unfold fX7_trueOf
        rw [nmv_eq]
        exact y1
      rw [ht, bind_eq]
      dsimp only
      by_cases hm : x = -1
      · subst hm
        obtain ⟨tr', z1⟩ := saidN hG e1 hp G 0 5000 (by omega) (by omega) tr
        rw [show nI (fa_cnt (fun g => PV st (lvb s) L 0 g) 0) = 0 from rfl, show nI 0 = 0 from rfl] at z1
        have hpop : pop r = fa_cnt (fun g => PV st (lvb s) L 0 g) G := by
          unfold pop
          rw [cnt_cut (c := G) (n := 10) (by omega) (fun i h1 h2 => y2 i h1 (by omega))]
          exact fa_cnt_cong (fun k hk => y3 k hk)
        rw [if_pos rfl, bitCount_eq (sm_up y2 (by omega)), bind_eq, hpop]
        exact ⟨_, _, tr', rfl, z1⟩
      · rw [if_neg hm]
        obtain ⟨q, tr', z1, z2⟩ := saidK hG e1 hp y3 hm pride payer sit coins chairOf tired hosted owed (nI L) st sg va pile' G 0 0 5000 5000 (by omega) (by omega) (by omega) (by omega) tr
        rw [show nI 0 = 0 from rfl] at z1 z2
        exact ⟨q, pile', tr', z1, z2⟩
    · rw [if_neg hx, if_neg hx]
      exact ⟨_, _, _, rfl, rfl⟩
