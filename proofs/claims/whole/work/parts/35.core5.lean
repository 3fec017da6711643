/-! ===== pure: sitting down, class and reference ===== -/
def RF (C G D : Nat) (sit tak ser hid rnd ovr hst pia : Int32) (coins chairOf tired hosted owed paid s : A1) : Prop :=
  EF G sit ser hid rnd ovr hst coins chairOf tired hosted owed paid s ∧ SI C G D sit tak ser hid chairOf ∧ MI G pia coins tired owed paid
theorem part_nat {a k : Nat} (ha : a < 2 ^ 31) (hk : k < 2 ^ 31) : part (nI a) (nI k) = nI (if a < k then a else k) := by
  unfold part
  by_cases h : a < k
  · rw [if_pos (nI_lt h hk), if_pos h]
  · rw [if_neg (nI_nlt (by omega) ha), if_neg h]
theorem owes_nat {o k p : Nat} (h : p ≤ k) (ho : o ≤ 99999) (hk : k ≤ 10000) : owes (nI o) (nI k) (nI p) = nI (if o + k - p < 99999 then o + k - p else 99999) := by
  unfold owes
  rw [nI_add, pk_sub (by omega), show (99999 : Int32) = nI 99999 from rfl]
  by_cases h2 : o + k - p < 99999
  · rw [if_pos (nI_lt h2 (by omega)), if_pos h2]
  · rw [if_neg (nI_nlt (by omega) (by omega)), if_neg h2]
theorem psum_congr {f g : A1} : ∀ {n : Nat}, (∀ i, i < n → f i = g i) → psum f n = psum g n
  | 0, _ => rfl
  | n + 1, h => by
    unfold psum
    rw [psum_congr (fun i hi => h i (by omega)), h n (by omega)]
theorem psum_upd {f : A1} {q : Nat} {x : Int32} : ∀ {n : Nat}, q < n → psum (upd f q (f q + x)) n = psum f n + x
  | 0, h => absurd h (by omega)
  | n + 1, h => by
    unfold psum
    by_cases e : q = n
    · subst e
      rw [pk_us, psum_congr (g := f) (fun i hi => pk_un (by omega)), Int32.add_assoc]
    · rw [pk_un (by omega), psum_upd (by omega), Int32.add_assoc, Int32.add_assoc, Int32.add_comm x]
theorem sOv_oth {s : A1} {w q i : Nat} {c : Int32} (h1 : i ≠ 49 + q) (h2 : i ≠ 85 + q) (h3 : i ≠ 78 + q) (h4 : i ≠ 71 + w) (h5 : i ≠ 48) (h6 : i ≠ 46) (h7 : i ≠ 45) (h8 : i ≠ 63) : sOv s w q c i = s i := by
  unfold sOv
  rw [pk_un h8, pk_un h7, pk_un h6, pk_un h5, pk_un h4, pk_un h3, pk_un h2, pk_un h1]
theorem sOv_63 {s : A1} {w q : Nat} {c : Int32} : sOv s w q c 63 = 0 := pk_us
theorem sOv_45 {s : A1} {w q : Nat} {c : Int32} : sOv s w q c 45 = 0 := by
  unfold sOv
  rw [pk_un (by omega), pk_us]
theorem sOv_46 {s : A1} {w q : Nat} {c : Int32} : sOv s w q c 46 = s 46 + 1 := by
  unfold sOv
  rw [pk_un (by omega), pk_un (by omega), pk_us]
theorem sOv_48 {s : A1} {w q : Nat} {c : Int32} : sOv s w q c 48 = nI w + 1 := by
  unfold sOv
  rw [pk_un (by omega), pk_un (by omega), pk_un (by omega), pk_us]
theorem sOv_71 {s : A1} {w q : Nat} {c : Int32} : sOv s w q c (71 + w) = s (71 + w) + 1 := by
  unfold sOv
  rw [pk_un (by omega), pk_un (by omega), pk_un (by omega), pk_un (by omega), pk_us]
theorem sOv_78 {s : A1} {w q : Nat} {c : Int32} (hw : w < 7) (hq : q < 7) : sOv s w q c (78 + q) = owes (s (78 + q)) c (part (s (49 + q)) c) := by
  unfold sOv
  rw [pk_un (by omega), pk_un (by omega), pk_un (by omega), pk_un (by omega), pk_un (by omega), pk_us]
theorem sOv_85 {s : A1} {w q : Nat} {c : Int32} (hw : w < 7) (hq : q < 7) : sOv s w q c (85 + q) = s (85 + q) + part (s (49 + q)) c := by
  unfold sOv
  rw [pk_un (by omega), pk_un (by omega), pk_un (by omega), pk_un (by omega), pk_un (by omega), pk_un (by omega), pk_us]
theorem sOv_49 {s : A1} {w q : Nat} {c : Int32} (hw : w < 7) (hq : q < 7) : sOv s w q c (49 + q) = s (49 + q) - part (s (49 + q)) c := by
  unfold sOv
  rw [pk_un (by omega), pk_un (by omega), pk_un (by omega), pk_un (by omega), pk_un (by omega), pk_un (by omega), pk_un (by omega), pk_us]
theorem zf_out {f : A1} {j G i : Nat} (h : ¬ (j ≤ i ∧ i < G)) : zf f j G i = f i := if_neg h
theorem zf_in {f : A1} {j G i : Nat} (h : j ≤ i ∧ i < G) : zf f j G i = 0 := if_pos h
theorem TK_0 {C G : Nat} {at_ : A1} : TK C G 0 0 at_ := by
  refine ⟨fun c _ => ?_, fun g g' _ _ h => ?_⟩
  · rw [b_0]
    constructor
    · intro h
      cases h
    · intro ⟨g, _, h, _⟩
      rw [b_0] at h
      cases h
  · rw [b_0] at h
    cases h
theorem TK_set {C G g c : Nat} {sit tak : Int32} {at_ : A1} (hC : C ≤ 9) (hG : G ≤ 7) (h : TK C G sit tak at_) (hg : g < G) (hc : c < C) (e : at_ g = nI c) (ht : bt tak c = false) : TK C G (sit ||| (1 <<< (nI g &&& 31))) (tak ||| (1 <<< (nI c &&& 31))) at_ := by
  have key : ∀ i, i < G → bt (sit ||| (1 <<< (nI g &&& 31))) i = (bt sit i || decide (i = g)) := fun i hi => bt_set (by omega) (by omega)
  refine ⟨fun d hd => ?_, fun a b ha hb h1 h2 h3 => ?_⟩
  · rw [bt_set (by omega) (by omega), Bool.or_eq_true, h.1 d hd, decide_eq_true_eq]
    constructor
    · rintro (⟨a, ha, h1, h2⟩ | rfl)
      · exact ⟨a, ha, by rw [key a ha, h1]; rfl, h2⟩
      · exact ⟨g, hg, by rw [key g hg]; simp, e⟩
    · intro ⟨a, ha, h1, h2⟩
      rw [key a ha, Bool.or_eq_true, decide_eq_true_eq] at h1
      rcases h1 with h1 | rfl
      · exact Or.inl ⟨a, ha, h1, h2⟩
      · right
        rw [e] at h2
        exact ((nI_eq (by omega) (by omega)).mp h2).symm
  · rw [key a ha, Bool.or_eq_true, decide_eq_true_eq] at h1
    rw [key b hb, Bool.or_eq_true, decide_eq_true_eq] at h2
    have no : ∀ x, x < G → bt sit x = true → at_ x = nI c → False := fun x hx h4 h5 => by
      have := (h.1 c hc).mpr ⟨x, hx, h4, h5⟩
      rw [ht] at this
      cases this
    rcases h1 with h1 | rfl <;> rcases h2 with h2 | rfl
    · exact h.2 a b ha hb h1 h2 h3
    · exact absurd (no a ha h1 (by rw [h3, e])) id
    · exact absurd (no b hb h2 (by rw [← h3, e])) id
    · rfl
theorem sim_sit {C G D : Nat} {pride speed payer cost s : A1} (hH : RH C G D pride speed payer cost s) {sit tak ser hid rnd ovr hst pia : Int32} {coins chairOf tired hosted owed paid : A1} (hF : RF C G D sit tak ser hid rnd ovr hst pia coins chairOf tired hosted owed paid s) {g c : Nat} (hg : g < G) (hcC : c < C) (hc : chairOf g = nI c) (ht : bt tak c = false) :
    ∃ (r sit' tak' ser' ovr' hst' pia' : Int32) (coins' tired' hosted' owed' paid' s' : A1),
      fX1_sitDown (nI G) (nI D) payer cost chairOf sit tak ser ovr hst pia coins tired hosted owed paid (nI g) = some (sit', tak', ser', ovr', hst', pia', coins', tired', hosted', owed', paid') ∧
      fX12_sits s (nI g) = some (r, s') ∧ RF C G D sit' tak' ser' hid rnd ovr' hst' pia' coins' chairOf tired' hosted' owed' paid' s' ∧ (∀ i, (i < 44 ∨ 92 ≤ i) → s' i = s i) ∧
      ((r = 0 ∧ ovr' = ovr ∧ sit' = sit ||| (1 <<< (nI g &&& 31)) ∧ tak' = tak ||| (1 <<< (nI c &&& 31)) ∧ ser' = ser ∧ hst' = hst ∧ tired' = tired ∧ pop sit' + 1 ≠ G) ∨
       (r = 1 ∧ ovr' = ovr + 1 ∧ sit' = 0 ∧ tak' = 0 ∧ ∃ w, w < G ∧ hst' = nI w ∧ ∀ i, i < G → bt (sit ||| (1 <<< (nI g &&& 31))) i = !decide (i = w))) := by
  obtain ⟨⟨⟨e44, e45, e46, e47, e48, e63⟩, eg⟩, ⟨s1, s2, s3, s4, s5, hT⟩, m1, m2⟩ := hF
  obtain ⟨⟨hC2, hC9, hG, hGC, hD⟩, -, -, hcost⟩ := id hH
  have hsit1 : sm G (sit ||| (1 <<< (nI g &&& 31))) := sm_set s1 hg (by omega)
  have htak1 : sm C (tak ||| (1 <<< (nI c &&& 31))) := sm_set s2 hcC (by omega)
  have hM := sits_eq hH hg (by rw [e63]; exact s1)
  dsimp only at hM
  rw [e63, e45] at hM
  rcases sitDown_eq (tak := tak) (ser := ser) (ovr := ovr) (hst := hst) (pia := pia) (coins := coins) (tired := tired) (hosted := hosted) (owed := owed) (paid := paid) hH hg s1 hc with ⟨hp, hC1⟩ | ⟨hp, w, q, hw, hq, ep, hb, hC1⟩
  · refine ⟨0, _, _, _, _, _, _, _, _, _, _, _, _, hC1, hM.1 hp, ⟨⟨⟨?_, ?_, ?_, ?_, ?_, pk_us⟩, ?_⟩, ⟨hsit1, htak1, s3, s4, s5, TK_set hC9 hG hT hg hcC hc ht⟩, m1, m2⟩, ?_, Or.inl ⟨rfl, rfl, rfl, rfl, rfl, rfl, rfl, hp⟩⟩
    · rw [pk_un (by omega), e44]
    · rw [pk_un (by omega), e45]
    · rw [pk_un (by omega), e46]
    · rw [pk_un (by omega), e47]
    · rw [pk_un (by omega), e48]
    · intro i hi
      rw [pk_un (by omega), pk_un (by omega), pk_un (by omega), pk_un (by omega), pk_un (by omega), pk_un (by omega)]
      exact eg i hi
    · intro i hi
      exact pk_un (by omega)
  · obtain ⟨k, hk, ek⟩ := csum_nat (x := ser) (n := D) (fun i hi => (hcost i hi).2)
    obtain ⟨-, a, b, o, hab, ho, ea, eb, eo⟩ := m1 q hq
    rw [ek] at hC1 hM
    have hk2 : k ≤ 594 := by omega
    have epart : part (coins q) (nI k) = nI (if a < k then a else k) := by rw [ea, part_nat (by omega) (by omega)]
    refine ⟨1, _, _, _, _, _, _, _, _, _, _, _, _, hC1, hM.2 w q hp hw hq ep hb, ⟨⟨⟨?_, ?_, ?_, ?_, ?_, ?_⟩, ?_⟩, ⟨sm_0 G, sm_0 C, sm_0 D, s4, s5, TK_0⟩, ?_, ?_⟩, ?_, Or.inr ⟨rfl, rfl, rfl, rfl, w, hw, rfl, hb⟩⟩
    · rw [zf_out (by omega), sOv_oth (by omega) (by omega) (by omega) (by omega) (by omega) (by omega) (by omega) (by omega), pk_un (by omega), e44]
    · rw [zf_out (by omega), sOv_45]
    · rw [zf_out (by omega), sOv_46, pk_un (by omega), e46]
    · rw [zf_out (by omega), sOv_oth (by omega) (by omega) (by omega) (by omega) (by omega) (by omega) (by omega) (by omega), pk_un (by omega), e47]
    · rw [zf_out (by omega), sOv_48]
    · rw [zf_out (by omega), sOv_63]
    · intro i hi
      obtain ⟨f1, f2, f3, f4, f5, f6⟩ := eg i hi
      obtain ⟨q1, q2, q3, q4, q5, q6⟩ := eg q hq
      refine ⟨?_, ?_, ?_, ?_, ?_, ?_⟩
      · rw [zf_out (by omega)]
        by_cases e : i = q
        · subst e
          rw [sOv_49 (by omega) (by omega), pk_us, pk_un (by omega), f1]
        · rw [sOv_oth (by omega) (by omega) (by omega) (by omega) (by omega) (by omega) (by omega) (by omega), pk_un (by omega), pk_un e, f1]
      · rw [zf_out (by omega), sOv_oth (by omega) (by omega) (by omega) (by omega) (by omega) (by omega) (by omega) (by omega), pk_un (by omega), f2]
      · rw [zf_in (by omega), zf_in (by omega)]
      · rw [zf_out (by omega)]
        by_cases e : i = w
        · subst e
          rw [sOv_71, pk_us, pk_un (by omega), f4]
        · rw [sOv_oth (by omega) (by omega) (by omega) (by omega) (by omega) (by omega) (by omega) (by omega), pk_un (by omega), pk_un e, f4]
      · rw [zf_out (by omega)]
        by_cases e : i = q
        · subst e
          rw [sOv_78 (by omega) (by omega), pk_us, pk_un (by omega), pk_un (by omega), f5, f1]
        · rw [sOv_oth (by omega) (by omega) (by omega) (by omega) (by omega) (by omega) (by omega) (by omega), pk_un (by omega), pk_un e, f5]
      · rw [zf_out (by omega)]
        by_cases e : i = q
        · subst e
          rw [sOv_85 (by omega) (by omega), pk_us, pk_un (by omega), pk_un (by omega), f6, f1]
        · rw [sOv_oth (by omega) (by omega) (by omega) (by omega) (by omega) (by omega) (by omega) (by omega), pk_un (by omega), pk_un e, f6]
    · intro i hi
      refine ⟨⟨0, by omega, by rw [zf_in (by omega)]; rfl⟩, ?_⟩
      by_cases e : i = q
      · subst e
        rw [pk_us, pk_us, pk_us, epart, ea, eb, eo]
        refine ⟨a - (if a < k then a else k), b + (if a < k then a else k), if o + k - (if a < k then a else k) < 99999 then o + k - (if a < k then a else k) else 99999, ?_, ?_, ?_, ?_, ?_⟩
        · split <;> omega
        · split <;> split <;> omega
        · exact pk_sub (by split <;> omega)
        · exact nI_add _ _
        · exact owes_nat (by split <;> omega) ho (by omega)
      · rw [pk_un e, pk_un e, pk_un e]
        exact (m1 i hi).2
    · rw [m2, psum_upd hq]
    · intro i hi
      rw [zf_out (by omega), sOv_oth (by omega) (by omega) (by omega) (by omega) (by omega) (by omega) (by omega) (by omega), pk_un (by omega)]
