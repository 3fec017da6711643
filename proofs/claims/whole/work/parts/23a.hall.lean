-- java/lang/Integer.bitCount(I)I
def uJ6_bitCount_0f7a4 : List Cond := .code yJ6_bitCount_0f7a4 cJ6_bitCount_0f7a4 1 (some .int) :: wsU
set_option maxHeartbeats 4000000 in
set_option maxRecDepth 100000 in
theorem tJ6_bitCount_0f7a4 {p : Program} {l : Launch} {e : Env} {R : Room} {s : State} {m : MethodId} {args : Array Value} {below : List Frame} {meth : Method} {c : Code} {dC : Nat → ClassId} {dI : Nat → Nat → Nat} {cI cJ cB cZ cF cG : ClassId} {A : Nat → Prop} (hA : ∀ q : Nat, s.heap.size ≤ q → A q) (C0 : Cx p s m meth c args cJ6_bitCount_0f7a4 1 (some .int) RJ6 uJ6_bitCount_0f7a4) (hR : 0 ≤ R.frames ∧ 0 ≤ R.locals) (o_r : Int32) :
    ∀ (x0 : Int32), fJ6_bitCount_0f7a4 x0 = some o_r → ∀ (H : Heap) (locs : List Loc), Wd dC dI cI cJ cB cZ cF cG A s H locs [] → ∀ (ls : Array Slot), lv_has ls 1 [(0, .int x0)] → W p l e R s m args below meth c H locs 0 0 (MQ below (PQi dC dI cI cJ cB cZ cF cG A o_r []) args s 0 0 A) (F0 m 0 ls []) := by
  obtain ⟨hx, hb, hrt, hml, hown, hts, hlocks⟩ := id C0
  intro x0 hr H locs hW ls hl
  obtain ⟨hK, hP, hD, hS⟩ := hW
  have hr : (nmv (x0 - ((zushr x0 1) &&& 1431655765)) (fun w1 => nmv ((w1 &&& 858993459) + ((zushr w1 2) &&& 858993459)) (fun w2 => nmv ((w2 + (zushr w2 4)) &&& 252645135) (fun w3 => nmv (w3 + (zushr w3 8)) (fun w4 => nmv (w4 + (zushr w4 16)) (fun w5 => some (w5 &&& 63)))))) : Option (Int32)) = some o_r := hr
  refine lv_iload_n hx hb dJ6_bitCount_0f7a4_0 rfl (lv_at hl 0 rfl) ?_
  refine lv_iload_n hx hb dJ6_bitCount_0f7a4_1 rfl (lv_at hl 0 rfl) ?_
  refine lv_iconst (v := 1) hx hb dJ6_bitCount_0f7a4_2 (by decide) ?_
  refine lv_iushr (v := (zushr x0 1)) hx hb dJ6_bitCount_0f7a4_3 rfl ?_
  refine lv_ldcw (v := 1431655765) hx hb hown (hts _ (List.mem_cons_of_mem _ U_705)) dJ6_bitCount_0f7a4_4 ?_
  refine z_pc (pc' := 7) rfl ?_
  refine lv_iand hx hb dJ6_bitCount_0f7a4_7 ?_
  refine lv_isub hx hb dJ6_bitCount_0f7a4_8 ?_
  obtain ⟨w1, hw1, hr⟩ := nm_s hr
  refine z_topi hw1 ?_
  refine lv_istore_n (lv' := [(0, .int w1)]) hx hb dJ6_bitCount_0f7a4_9 rfl hl (by decide) rfl (fun ls hl => ?_)
  refine lv_iload_n hx hb dJ6_bitCount_0f7a4_10 rfl (lv_at hl 0 rfl) ?_
  refine lv_ldcw (v := 858993459) hx hb hown (hts _ (List.mem_cons_of_mem _ U_706)) dJ6_bitCount_0f7a4_11 ?_
  refine lv_iand hx hb dJ6_bitCount_0f7a4_14 ?_
  refine z_pc (pc' := 15) rfl ?_
  refine lv_iload_n hx hb dJ6_bitCount_0f7a4_15 rfl (lv_at hl 0 rfl) ?_
  refine lv_iconst (v := 2) hx hb dJ6_bitCount_0f7a4_16 (by decide) ?_
  refine lv_iushr (v := (zushr w1 2)) hx hb dJ6_bitCount_0f7a4_17 rfl ?_
  refine lv_ldcw (v := 858993459) hx hb hown (hts _ (List.mem_cons_of_mem _ U_706)) dJ6_bitCount_0f7a4_18 ?_
  refine lv_iand hx hb dJ6_bitCount_0f7a4_21 ?_
  refine lv_iadd hx hb dJ6_bitCount_0f7a4_22 ?_
  refine z_pc (pc' := 23) rfl ?_
  obtain ⟨w2, hw2, hr⟩ := nm_s hr
  refine z_topi hw2 ?_
  refine lv_istore_n (lv' := [(0, .int w2)]) hx hb dJ6_bitCount_0f7a4_23 rfl hl (by decide) rfl (fun ls hl => ?_)
  refine lv_iload_n hx hb dJ6_bitCount_0f7a4_24 rfl (lv_at hl 0 rfl) ?_
  refine lv_iload_n hx hb dJ6_bitCount_0f7a4_25 rfl (lv_at hl 0 rfl) ?_
  refine lv_iconst (v := 4) hx hb dJ6_bitCount_0f7a4_26 (by decide) ?_
  refine lv_iushr (v := (zushr w2 4)) hx hb dJ6_bitCount_0f7a4_27 rfl ?_
  refine lv_iadd hx hb dJ6_bitCount_0f7a4_28 ?_
  refine z_pc (pc' := 29) rfl ?_
  refine lv_ldcw (v := 252645135) hx hb hown (hts _ (List.mem_cons_of_mem _ U_707)) dJ6_bitCount_0f7a4_29 ?_
  refine lv_iand hx hb dJ6_bitCount_0f7a4_32 ?_
  obtain ⟨w3, hw3, hr⟩ := nm_s hr
  refine z_topi hw3 ?_
  refine lv_istore_n (lv' := [(0, .int w3)]) hx hb dJ6_bitCount_0f7a4_33 rfl hl (by decide) rfl (fun ls hl => ?_)
  refine lv_iload_n hx hb dJ6_bitCount_0f7a4_34 rfl (lv_at hl 0 rfl) ?_
  refine lv_iload_n hx hb dJ6_bitCount_0f7a4_35 rfl (lv_at hl 0 rfl) ?_
  refine lv_bipush (v := 8) hx hb dJ6_bitCount_0f7a4_36 (by decide) ?_
  refine z_pc (pc' := 38) rfl ?_
  refine lv_iushr (v := (zushr w3 8)) hx hb dJ6_bitCount_0f7a4_38 rfl ?_
  refine lv_iadd hx hb dJ6_bitCount_0f7a4_39 ?_
  obtain ⟨w4, hw4, hr⟩ := nm_s hr
  refine z_topi hw4 ?_
  refine lv_istore_n (lv' := [(0, .int w4)]) hx hb dJ6_bitCount_0f7a4_40 rfl hl (by decide) rfl (fun ls hl => ?_)
  refine lv_iload_n hx hb dJ6_bitCount_0f7a4_41 rfl (lv_at hl 0 rfl) ?_
  refine lv_iload_n hx hb dJ6_bitCount_0f7a4_42 rfl (lv_at hl 0 rfl) ?_
  refine lv_bipush (v := 16) hx hb dJ6_bitCount_0f7a4_43 (by decide) ?_
  refine z_pc (pc' := 45) rfl ?_
  refine lv_iushr (v := (zushr w4 16)) hx hb dJ6_bitCount_0f7a4_45 rfl ?_
  refine lv_iadd hx hb dJ6_bitCount_0f7a4_46 ?_
  obtain ⟨w5, hw5, hr⟩ := nm_s hr
  refine z_topi hw5 ?_
  refine lv_istore_n (lv' := [(0, .int w5)]) hx hb dJ6_bitCount_0f7a4_47 rfl hl (by decide) rfl (fun ls hl => ?_)
  refine lv_iload_n hx hb dJ6_bitCount_0f7a4_48 rfl (lv_at hl 0 rfl) ?_
  refine lv_bipush (v := 63) hx hb dJ6_bitCount_0f7a4_49 (by decide) ?_
  refine lv_iand hx hb dJ6_bitCount_0f7a4_51 ?_
  refine z_pc (pc' := 52) rfl ?_
  have q0 := Option.some.inj hr
  subst q0
  exact W.iret (v := (w5 &&& 63)) hx hb hrt (fun t ht hW => ⟨⟨(w5 &&& 63), (), rfl, rfl, by rw [ht]; exact hP, va_K.moved hW.alike hK, hD⟩, hS.F ht⟩) hS.2.2 dJ6_bitCount_0f7a4_52 hlocks
set_option maxHeartbeats 4000000 in
set_option maxRecDepth 100000 in
theorem mJ6_bitCount_0f7a4 (l : Launch) (dC : Nat → ClassId) (dI : Nat → Nat → Nat) (cI cJ cB cZ cF cG : ClassId) (sz : Nat) (x0 : Int32) (o_r : Int32) (hf : fJ6_bitCount_0f7a4 x0 = some o_r) : Met l yJ6_bitCount_0f7a4 uJ6_bitCount_0f7a4 ({ frames := 0, cells := 0, slots := 0, locals := 0 }) (va_Pc [.int x0] (fun U => U.heap.size = sz ∧ va_P (dC, dI) vwCl [] U.heap ∧ va_K (dC, dI) vwCl (TYS cI cJ cB cZ cF cG) U ∧ va_D (fun _ => True) [])) (PQi dC dI cI cJ cB cZ cF cG (va_A [] sz) o_r []) 0 0 (va_A [] sz) := by
  refine Met.ofW (cc := cJ6_bitCount_0f7a4) (maxL := 1) (ret := (some .int)) (by decide) rfl ?_
  intro p e s m args below meth c s₁ B hml hv
  obtain ⟨rfl, hsz, hP, hK, hD0⟩ := hv
  have hx := B.exec
  have hb := B.bytes
  have hr := B.returns
  have hts := atoms_spec (ws := uJ6_bitCount_0f7a4) B.pre
  have hown : s.vm.findClass RJ6 = some m.cls := findClass_of_methodNamed B.named
  have hlocks := B.notSynchronized
  subst hsz
  have hD := hD0.self (sz := s.heap.size)
  generalize hAe : va_A [] s.heap.size = A at hD ⊢
  have hA : ∀ q : Nat, s.heap.size ≤ q → A q := fun q h => by rw [← hAe]; exact Or.inr h
  have hS : va_S A s.heap s.heap [] := va_S.rf
  have hl := lv_entry ([.int x0]) (n := 1) (Nat.le_of_ble_eq_true rfl)
  rw [lg_entry_eq]
  generalize (lg_sl ([.int x0]) ++ List.replicate (1 - (lg_sl ([.int x0])).length) Slot.unset).toArray = ls at hl ⊢
  have hl : lv_has ls 1 [(0, .int x0)] := hl
  exact tJ6_bitCount_0f7a4 hA ⟨hx, hb, hr, hml, hown, hts, hlocks⟩ ⟨Nat.le_refl _, Nat.le_refl _⟩ o_r x0 hf _ _ ⟨hK, hP, hD, hS⟩ ls hl
-- LastSeat$Hall.hasChair(I)Z
def uX2_hasChair : List Cond := .code yX2_hasChair cX2_hasChair 2 (some .boolean) :: wsU
set_option maxHeartbeats 4000000 in
set_option maxRecDepth 100000 in
theorem tX2_hasChair {p : Program} {l : Launch} {e : Env} {R : Room} {s : State} {m : MethodId} {args : Array Value} {below : List Frame} {meth : Method} {c : Code} {dC : Nat → ClassId} {dI : Nat → Nat → Nat} {cI cJ cB cZ cF cG : ClassId} {A : Nat → Prop} (hA : ∀ q : Nat, s.heap.size ≤ q → A q) (C0 : Cx p s m meth c args cX2_hasChair 2 (some .boolean) RX2 uX2_hasChair) (hR : 0 ≤ R.frames ∧ 0 ≤ R.locals) (h_this : Nat) (h_guestName : Nat) (h_coins : Nat) (h_pride : Nat) (h_speed : Nat) (h_place : Nat) (h_payer : Nat) (h_dishName : Nat) (h_cost : Nat) (v_chairs : Int32) (v_guests : Int32) (v_dishes : Int32) (o_r : Int32) :
    ∀ (x1 : Int32), fX2_hasChair v_chairs x1 = some o_r → ∀ (H : Heap) (locs : List Loc), Wd dC dI cI cJ cB cZ cF cG A s H locs [oX2 h_this h_guestName h_coins h_pride h_speed h_place h_payer h_dishName h_cost v_chairs v_guests v_dishes] → ∀ (ls : Array Slot), lv_has ls 2 [(0, .ref h_this), (1, .int x1)] → W p l e R s m args below meth c H locs 0 0 (MQ below (PQz dC dI cI cJ cB cZ cF cG A o_r [oX2 h_this h_guestName h_coins h_pride h_speed h_place h_payer h_dishName h_cost v_chairs v_guests v_dishes]) args s 0 0 A) (F0 m 0 ls []) := by
  obtain ⟨hx, hb, hrt, hml, hown, hts, hlocks⟩ := id C0
  intro x1 hr H locs hW ls hl
  obtain ⟨hK, hP, hD, hS⟩ := hW
  have hr : (if x1 < 0 then some 0 else if v_chairs ≤ x1 then some 0 else some 1 : Option (Int32)) = some o_r := hr
  refine lv_iload_n hx hb dX2_hasChair_0 rfl (lv_at hl 1 rfl) ?_
  refine lv_if_lt (tgt := 16) hx hb dX2_hasChair_1 (by decide) (fun hc => ?_) (fun hc => ?_)
  · have hr := iteP hc hr
    refine lv_iconst (v := 0) hx hb dX2_hasChair_16 (by decide) ?_
    have q0 := Option.some.inj hr
    subst q0
    exact W.zret (v := 0) hx hb hrt rfl (fun t ht hW => ⟨⟨0, (), rfl, ⟨rfl, rfl⟩, by rw [ht]; exact hP, va_K.moved hW.alike hK, hD⟩, hS.F ht⟩) hS.2.2 dX2_hasChair_17 hlocks
  · have hr := iteN hc hr
    refine lv_iload_n hx hb dX2_hasChair_4 rfl (lv_at hl 1 rfl) ?_
    refine lv_aload_n hx hb dX2_hasChair_5 rfl (lv_at hl 0 rfl) ?_
    refine va_get (D := (dC, dI)) (ci := 2) (v := .int v_chairs) (C := RX2) (T := TX2) (N := 11) hx hb hts (fun w h => List.mem_cons_of_mem _ (inU_2 w h)) hown hK hP 0 rfl rfl 8 (by decide) (hts _ (List.mem_cons_of_mem _ U_138)) (fun _ h9 => h9) rfl dX2_hasChair_6 ?_
    refine lv_icmp_ge (tgt := 16) hx hb dX2_hasChair_9 (by decide) (fun hc => ?_) (fun hc => ?_)
    · have hr := iteP hc hr
      refine lv_iconst (v := 0) hx hb dX2_hasChair_16 (by decide) ?_
      have q0 := Option.some.inj hr
      subst q0
      exact W.zret (v := 0) hx hb hrt rfl (fun t ht hW => ⟨⟨0, (), rfl, ⟨rfl, rfl⟩, by rw [ht]; exact hP, va_K.moved hW.alike hK, hD⟩, hS.F ht⟩) hS.2.2 dX2_hasChair_17 hlocks
    · have hr := iteN hc hr
      refine lv_iconst (v := 1) hx hb dX2_hasChair_12 (by decide) ?_
      refine lv_goto (tgt := 17) hx hb dX2_hasChair_13 (by decide) ?_
      have q0 := Option.some.inj hr
      subst q0
      exact W.zret (v := 1) hx hb hrt rfl (fun t ht hW => ⟨⟨1, (), rfl, ⟨rfl, rfl⟩, by rw [ht]; exact hP, va_K.moved hW.alike hK, hD⟩, hS.F ht⟩) hS.2.2 dX2_hasChair_17 hlocks
set_option maxHeartbeats 4000000 in
set_option maxRecDepth 100000 in
theorem mX2_hasChair (l : Launch) (dC : Nat → ClassId) (dI : Nat → Nat → Nat) (cI cJ cB cZ cF cG : ClassId) (h_this : Nat) (h_guestName : Nat) (h_coins : Nat) (h_pride : Nat) (h_speed : Nat) (h_place : Nat) (h_payer : Nat) (h_dishName : Nat) (h_cost : Nat) (sz : Nat) (v_chairs : Int32) (v_guests : Int32) (v_dishes : Int32) (x1 : Int32) (o_r : Int32) (hf : fX2_hasChair v_chairs x1 = some o_r) : Met l yX2_hasChair uX2_hasChair ({ frames := 0, cells := 0, slots := 0, locals := 0 }) (va_Pc [.ref h_this, .int x1] (fun U => U.heap.size = sz ∧ va_P (dC, dI) vwCl [oX2 h_this h_guestName h_coins h_pride h_speed h_place h_payer h_dishName h_cost v_chairs v_guests v_dishes] U.heap ∧ va_K (dC, dI) vwCl (TYS cI cJ cB cZ cF cG) U ∧ va_D (fun _ => True) [oX2 h_this h_guestName h_coins h_pride h_speed h_place h_payer h_dishName h_cost v_chairs v_guests v_dishes])) (PQz dC dI cI cJ cB cZ cF cG (va_A [oX2 h_this h_guestName h_coins h_pride h_speed h_place h_payer h_dishName h_cost v_chairs v_guests v_dishes] sz) o_r [oX2 h_this h_guestName h_coins h_pride h_speed h_place h_payer h_dishName h_cost v_chairs v_guests v_dishes]) 0 0 (va_A [oX2 h_this h_guestName h_coins h_pride h_speed h_place h_payer h_dishName h_cost v_chairs v_guests v_dishes] sz) := by
  refine Met.ofW (cc := cX2_hasChair) (maxL := 2) (ret := (some .boolean)) (by decide) rfl ?_
  intro p e s m args below meth c s₁ B hml hv
  obtain ⟨rfl, hsz, hP, hK, hD0⟩ := hv
  have hx := B.exec
  have hb := B.bytes
  have hr := B.returns
  have hts := atoms_spec (ws := uX2_hasChair) B.pre
  have hown : s.vm.findClass RX2 = some m.cls := findClass_of_methodNamed B.named
  have hlocks := B.notSynchronized
  subst hsz
  have hD := hD0.self (sz := s.heap.size)
  generalize hAe : va_A [oX2 h_this h_guestName h_coins h_pride h_speed h_place h_payer h_dishName h_cost v_chairs v_guests v_dishes] s.heap.size = A at hD ⊢
  have hA : ∀ q : Nat, s.heap.size ≤ q → A q := fun q h => by rw [← hAe]; exact Or.inr h
  have hS : va_S A s.heap s.heap [] := va_S.rf
  have hl := lv_entry ([.ref h_this, .int x1]) (n := 2) (Nat.le_of_ble_eq_true rfl)
  rw [lg_entry_eq]
  generalize (lg_sl ([.ref h_this, .int x1]) ++ List.replicate (2 - (lg_sl ([.ref h_this, .int x1])).length) Slot.unset).toArray = ls at hl ⊢
  have hl : lv_has ls 2 [(0, .ref h_this), (1, .int x1)] := hl
  exact tX2_hasChair hA ⟨hx, hb, hr, hml, hown, hts, hlocks⟩ ⟨Nat.le_refl _, Nat.le_refl _⟩ h_this h_guestName h_coins h_pride h_speed h_place h_payer h_dishName h_cost v_chairs v_guests v_dishes o_r x1 hf _ _ ⟨hK, hP, hD, hS⟩ ls hl
-- LastSeat$Hall.costOf(I)I
def uX2_costOf : List Cond := .code yX2_costOf cX2_costOf 4 (some .int) :: wsU
set_option maxHeartbeats 4000000 in
set_option maxRecDepth 100000 in
theorem tX2_costOf_4 {p : Program} {l : Launch} {e : Env} {R : Room} {s : State} {m : MethodId} {args : Array Value} {below : List Frame} {meth : Method} {c : Code} {dC : Nat → ClassId} {dI : Nat → Nat → Nat} {cI cJ cB cZ cF cG : ClassId} {A : Nat → Prop} (hA : ∀ q : Nat, s.heap.size ≤ q → A q) (C0 : Cx p s m meth c args cX2_costOf 4 (some .int) RX2 uX2_costOf) (hR : 0 ≤ R.frames ∧ 0 ≤ R.locals) (h_this : Nat) (h_cost : Nat) (h_guestName : Nat) (h_coins : Nat) (h_pride : Nat) (h_speed : Nat) (h_place : Nat) (h_payer : Nat) (h_dishName : Nat) (v_chairs : Int32) (v_guests : Int32) (v_dishes : Int32) (v_cost : Nat → Int32) (o_r : Int32) :
    ∀ n : Nat, ∀ (x1 : Int32) (x2 : Int32) (x3 : Int32), lX2_costOf_4 v_dishes v_cost n x1 x2 x3 = some o_r → ∀ (H : Heap) (locs : List Loc), Wd dC dI cI cJ cB cZ cF cG A s H locs [oX2 h_this h_guestName h_coins h_pride h_speed h_place h_payer h_dishName h_cost v_chairs v_guests v_dishes, aI cI h_cost 6 v_cost] → ∀ (ls : Array Slot), lv_has ls 4 [(0, .ref h_this), (1, .int x1), (2, .int x2), (3, .int x3)] → W p l e R s m args below meth c H locs 0 0 (MQ below (PQi dC dI cI cJ cB cZ cF cG A o_r [oX2 h_this h_guestName h_coins h_pride h_speed h_place h_payer h_dishName h_cost v_chairs v_guests v_dishes, aI cI h_cost 6 v_cost]) args s 0 0 A) (F0 m 4 ls []) := by
  obtain ⟨hx, hb, hrt, hml, hown, hts, hlocks⟩ := id C0
  intro n
  induction n with
  | zero =>
    intro x1 x2 x3 hr
    exact nomatch (show (none : Option (Int32)) = some _ from hr)
  | succ n ih =>
    intro x1 x2 x3 hr H locs hW ls hl
    obtain ⟨hK, hP, hD, hS⟩ := hW
    have hr : (if v_dishes ≤ x3 then some x2 else if ((x1 >>> (x3 &&& 31)) &&& 1) = 1 then gI x3 6 (nmv (x2 + (v_cost (Int32.toNatClampNeg x3))) (fun w1 => lX2_costOf_4 v_dishes v_cost n x1 w1 (x3 + 1))) else lX2_costOf_4 v_dishes v_cost n x1 x2 (x3 + 1) : Option (Int32)) = some o_r := hr
    refine lv_iload_n hx hb dX2_costOf_4 rfl (lv_at hl 3 rfl) ?_
    refine lv_aload_n hx hb dX2_costOf_5 rfl (lv_at hl 0 rfl) ?_
    refine va_get (D := (dC, dI)) (ci := 2) (v := .int v_dishes) (C := RX2) (T := TX2) (N := 11) hx hb hts (fun w h => List.mem_cons_of_mem _ (inU_2 w h)) hown hK hP 0 rfl rfl 10 (by decide) (hts _ (List.mem_cons_of_mem _ U_356)) (fun _ h9 => h9) rfl dX2_costOf_6 ?_
    refine lv_icmp_ge (tgt := 36) hx hb dX2_costOf_9 (by decide) (fun hc => ?_) (fun hc => ?_)
    · have hr := iteP hc hr
      refine lv_iload_n hx hb dX2_costOf_36 rfl (lv_at hl 2 rfl) ?_
      have q0 := Option.some.inj hr
      subst q0
      exact W.iret (v := x2) hx hb hrt (fun t ht hW => ⟨⟨x2, (), rfl, rfl, by rw [ht]; exact hP, va_K.moved hW.alike hK, hD⟩, hS.F ht⟩) hS.2.2 dX2_costOf_37 hlocks
    · have hr := iteN hc hr
      refine lv_iload_n hx hb dX2_costOf_12 rfl (lv_at hl 1 rfl) ?_
      refine lv_iload_n hx hb dX2_costOf_13 rfl (lv_at hl 3 rfl) ?_
      refine lv_ishr hx hb dX2_costOf_14 ?_
      refine lv_iconst (v := 1) hx hb dX2_costOf_15 (by decide) ?_
      refine lv_iand hx hb dX2_costOf_16 ?_
      refine z_pc (pc' := 17) rfl ?_
      refine lv_iconst (v := 1) hx hb dX2_costOf_17 (by decide) ?_
      refine lv_icmp_ne (tgt := 30) hx hb dX2_costOf_18 (by decide) (fun hc => ?_) (fun hc => ?_)
      · have hr := iteN hc hr
        refine lv_iinc (v := (x3 + 1)) (lv' := [(3, .int (x3 + 1)), (0, .ref h_this), (1, .int x1), (2, .int x2)]) hx hb dX2_costOf_30 hl (k := 3) rfl rfl (by decide) rfl (fun ls hl => ?_)
        refine lv_goto (tgt := 4) hx hb dX2_costOf_33 (by decide) ?_
        exact ih x1 x2 (x3 + 1) hr _ _ ⟨hK, hP, hD, hS⟩ ls (lv_sub hl [1, 2, 3, 0] rfl)
      · have hr := iteP hc hr
        refine lv_iload_n hx hb dX2_costOf_21 rfl (lv_at hl 2 rfl) ?_
        refine lv_aload_n hx hb dX2_costOf_22 rfl (lv_at hl 0 rfl) ?_
        refine va_get (D := (dC, dI)) (ci := 2) (v := .ref h_cost) (C := RX2) (T := TX2) (N := 11) hx hb hts (fun w h => List.mem_cons_of_mem _ (inU_2 w h)) hown hK hP 0 rfl rfl 7 (by decide) (hts _ (List.mem_cons_of_mem _ U_137)) (fun _ h9 => h9) rfl dX2_costOf_23 ?_
        refine lv_iload_n hx hb dX2_costOf_26 rfl (lv_at hl 3 rfl) ?_
        obtain ⟨hg, hr⟩ := gI_s hr
        refine z_iald hx hb hK hP 1 0 rfl rfl hg rfl dX2_costOf_27 ?_
        refine z_pc (pc' := 28) rfl ?_
        refine lv_iadd hx hb dX2_costOf_28 ?_
        obtain ⟨w1, hw1, hr⟩ := nm_s hr
        refine z_topi hw1 ?_
        refine lv_istore_n (lv' := [(2, .int w1), (0, .ref h_this), (1, .int x1), (3, .int x3)]) hx hb dX2_costOf_29 rfl hl (by decide) rfl (fun ls hl => ?_)
        refine lv_iinc (v := (x3 + 1)) (lv' := [(3, .int (x3 + 1)), (2, .int w1), (0, .ref h_this), (1, .int x1)]) hx hb dX2_costOf_30 hl (k := 3) rfl rfl (by decide) rfl (fun ls hl => ?_)
        refine lv_goto (tgt := 4) hx hb dX2_costOf_33 (by decide) ?_
        exact ih x1 w1 (x3 + 1) hr _ _ ⟨hK, hP, hD, hS⟩ ls (lv_sub hl [2, 3, 1, 0] rfl)
set_option maxHeartbeats 4000000 in
set_option maxRecDepth 100000 in
theorem tX2_costOf {p : Program} {l : Launch} {e : Env} {R : Room} {s : State} {m : MethodId} {args : Array Value} {below : List Frame} {meth : Method} {c : Code} {dC : Nat → ClassId} {dI : Nat → Nat → Nat} {cI cJ cB cZ cF cG : ClassId} {A : Nat → Prop} (hA : ∀ q : Nat, s.heap.size ≤ q → A q) (C0 : Cx p s m meth c args cX2_costOf 4 (some .int) RX2 uX2_costOf) (hR : 0 ≤ R.frames ∧ 0 ≤ R.locals) (h_this : Nat) (h_cost : Nat) (h_guestName : Nat) (h_coins : Nat) (h_pride : Nat) (h_speed : Nat) (h_place : Nat) (h_payer : Nat) (h_dishName : Nat) (v_chairs : Int32) (v_guests : Int32) (v_dishes : Int32) (v_cost : Nat → Int32) (o_r : Int32) :
    ∀ (x1 : Int32), fX2_costOf v_dishes v_cost x1 = some o_r → ∀ (H : Heap) (locs : List Loc), Wd dC dI cI cJ cB cZ cF cG A s H locs [oX2 h_this h_guestName h_coins h_pride h_speed h_place h_payer h_dishName h_cost v_chairs v_guests v_dishes, aI cI h_cost 6 v_cost] → ∀ (ls : Array Slot), lv_has ls 4 [(0, .ref h_this), (1, .int x1)] → W p l e R s m args below meth c H locs 0 0 (MQ below (PQi dC dI cI cJ cB cZ cF cG A o_r [oX2 h_this h_guestName h_coins h_pride h_speed h_place h_payer h_dishName h_cost v_chairs v_guests v_dishes, aI cI h_cost 6 v_cost]) args s 0 0 A) (F0 m 0 ls []) := by
  obtain ⟨hx, hb, hrt, hml, hown, hts, hlocks⟩ := id C0
  intro x1 hr H locs hW ls hl
  obtain ⟨hK, hP, hD, hS⟩ := hW
  have hr : (lX2_costOf_4 v_dishes v_cost 5000 x1 0 0 : Option (Int32)) = some o_r := hr
  refine lv_iconst (v := 0) hx hb dX2_costOf_0 (by decide) ?_
  refine lv_istore_n (lv' := [(2, .int 0), (0, .ref h_this), (1, .int x1)]) hx hb dX2_costOf_1 rfl hl (by decide) rfl (fun ls hl => ?_)
  refine lv_iconst (v := 0) hx hb dX2_costOf_2 (by decide) ?_
  refine lv_istore_n (lv' := [(3, .int 0), (2, .int 0), (0, .ref h_this), (1, .int x1)]) hx hb dX2_costOf_3 rfl hl (by decide) rfl (fun ls hl => ?_)
  exact tX2_costOf_4 hA C0 hR h_this h_cost h_guestName h_coins h_pride h_speed h_place h_payer h_dishName v_chairs v_guests v_dishes v_cost o_r 5000 x1 0 0 hr _ _ ⟨hK, hP, hD, hS⟩ ls (lv_sub hl [2, 3, 1, 0] rfl)
set_option maxHeartbeats 4000000 in
set_option maxRecDepth 100000 in
theorem mX2_costOf (l : Launch) (dC : Nat → ClassId) (dI : Nat → Nat → Nat) (cI cJ cB cZ cF cG : ClassId) (h_this : Nat) (h_cost : Nat) (h_guestName : Nat) (h_coins : Nat) (h_pride : Nat) (h_speed : Nat) (h_place : Nat) (h_payer : Nat) (h_dishName : Nat) (sz : Nat) (v_chairs : Int32) (v_guests : Int32) (v_dishes : Int32) (v_cost : Nat → Int32) (x1 : Int32) (o_r : Int32) (hf : fX2_costOf v_dishes v_cost x1 = some o_r) : Met l yX2_costOf uX2_costOf ({ frames := 0, cells := 0, slots := 0, locals := 0 }) (va_Pc [.ref h_this, .int x1] (fun U => U.heap.size = sz ∧ va_P (dC, dI) vwCl [oX2 h_this h_guestName h_coins h_pride h_speed h_place h_payer h_dishName h_cost v_chairs v_guests v_dishes, aI cI h_cost 6 v_cost] U.heap ∧ va_K (dC, dI) vwCl (TYS cI cJ cB cZ cF cG) U ∧ va_D (fun _ => True) [oX2 h_this h_guestName h_coins h_pride h_speed h_place h_payer h_dishName h_cost v_chairs v_guests v_dishes, aI cI h_cost 6 v_cost])) (PQi dC dI cI cJ cB cZ cF cG (va_A [oX2 h_this h_guestName h_coins h_pride h_speed h_place h_payer h_dishName h_cost v_chairs v_guests v_dishes, aI cI h_cost 6 v_cost] sz) o_r [oX2 h_this h_guestName h_coins h_pride h_speed h_place h_payer h_dishName h_cost v_chairs v_guests v_dishes, aI cI h_cost 6 v_cost]) 0 0 (va_A [oX2 h_this h_guestName h_coins h_pride h_speed h_place h_payer h_dishName h_cost v_chairs v_guests v_dishes, aI cI h_cost 6 v_cost] sz) := by
  refine Met.ofW (cc := cX2_costOf) (maxL := 4) (ret := (some .int)) (by decide) rfl ?_
  intro p e s m args below meth c s₁ B hml hv
  obtain ⟨rfl, hsz, hP, hK, hD0⟩ := hv
  have hx := B.exec
  have hb := B.bytes
  have hr := B.returns
  have hts := atoms_spec (ws := uX2_costOf) B.pre
  have hown : s.vm.findClass RX2 = some m.cls := findClass_of_methodNamed B.named
  have hlocks := B.notSynchronized
  subst hsz
  have hD := hD0.self (sz := s.heap.size)
  generalize hAe : va_A [oX2 h_this h_guestName h_coins h_pride h_speed h_place h_payer h_dishName h_cost v_chairs v_guests v_dishes, aI cI h_cost 6 v_cost] s.heap.size = A at hD ⊢
  have hA : ∀ q : Nat, s.heap.size ≤ q → A q := fun q h => by rw [← hAe]; exact Or.inr h
  have hS : va_S A s.heap s.heap [] := va_S.rf
  have hl := lv_entry ([.ref h_this, .int x1]) (n := 4) (Nat.le_of_ble_eq_true rfl)
  rw [lg_entry_eq]
  generalize (lg_sl ([.ref h_this, .int x1]) ++ List.replicate (4 - (lg_sl ([.ref h_this, .int x1])).length) Slot.unset).toArray = ls at hl ⊢
  have hl : lv_has ls 4 [(0, .ref h_this), (1, .int x1)] := hl
  exact tX2_costOf hA ⟨hx, hb, hr, hml, hown, hts, hlocks⟩ ⟨Nat.le_refl _, Nat.le_refl _⟩ h_this h_cost h_guestName h_coins h_pride h_speed h_place h_payer h_dishName v_chairs v_guests v_dishes v_cost o_r x1 hf _ _ ⟨hK, hP, hD, hS⟩ ls hl
-- LastSeat$Hall.clear()V
def uX2_clear : List Cond := .code yX2_clear cX2_clear 1 none :: wsU
set_option maxHeartbeats 4000000 in
set_option maxRecDepth 100000 in
theorem tX2_clear {p : Program} {l : Launch} {e : Env} {R : Room} {s : State} {m : MethodId} {args : Array Value} {below : List Frame} {meth : Method} {c : Code} {dC : Nat → ClassId} {dI : Nat → Nat → Nat} {cI cJ cB cZ cF cG : ClassId} {A : Nat → Prop} (hA : ∀ q : Nat, s.heap.size ≤ q → A q) (C0 : Cx p s m meth c args cX2_clear 1 none RX2 uX2_clear) (hR : 0 ≤ R.frames ∧ 0 ≤ R.locals) (h_this : Nat) (h_guestName : Nat) (h_coins : Nat) (h_pride : Nat) (h_speed : Nat) (h_place : Nat) (h_payer : Nat) (h_dishName : Nat) (h_cost : Nat) (o_chairs : Int32) (o_guests : Int32) (o_dishes : Int32) :
    ∀ (v_chairs : Int32) (v_guests : Int32) (v_dishes : Int32), fX2_clear v_chairs v_guests v_dishes = some (o_chairs, o_guests, o_dishes) → ∀ (H : Heap) (locs : List Loc), Wd dC dI cI cJ cB cZ cF cG A s H locs [oX2 h_this h_guestName h_coins h_pride h_speed h_place h_payer h_dishName h_cost v_chairs v_guests v_dishes] → ∀ (ls : Array Slot), lv_has ls 1 [(0, .ref h_this)] → W p l e R s m args below meth c H locs 0 0 (MQ below (PQv dC dI cI cJ cB cZ cF cG A [oX2 h_this h_guestName h_coins h_pride h_speed h_place h_payer h_dishName h_cost o_chairs o_guests o_dishes]) args s 0 0 A) (F0 m 0 ls []) := by
  obtain ⟨hx, hb, hrt, hml, hown, hts, hlocks⟩ := id C0
  intro v_chairs v_guests v_dishes hr H locs hW ls hl
  obtain ⟨hK, hP, hD, hS⟩ := hW
  have hr : (some (6, 0, 0) : Option (Int32 × Int32 × Int32)) = some (o_chairs, o_guests, o_dishes) := hr
  refine lv_aload_n hx hb dX2_clear_0 rfl (lv_at hl 0 rfl) ?_
  refine lv_bipush (v := 6) hx hb dX2_clear_1 (by decide) ?_
  refine va_put (D := (dC, dI)) (ci := 2) (v := .int 6) (ty := .int) (C := RX2) (T := TX2) (N := 11) hx hb hts (fun w h => List.mem_cons_of_mem _ (inU_2 w h)) tyX2 tyX2_ok nmX2 hown hK hP hD hS 0 rfl rfl 8 (by decide) (hts _ (List.mem_cons_of_mem _ U_138)) (fun _ h9 => h9) rfl (by decide +kernel) rfl rfl (Nat.le_of_ble_eq_true rfl) dX2_clear_3 (fun H locs hP hD hS => ?_)
  have hP : va_P (dC, dI) vwCl [oX2 h_this h_guestName h_coins h_pride h_speed h_place h_payer h_dishName h_cost 6 v_guests v_dishes] H := hP
  have hD : va_D A [oX2 h_this h_guestName h_coins h_pride h_speed h_place h_payer h_dishName h_cost 6 v_guests v_dishes] := hD
  refine lv_aload_n hx hb dX2_clear_6 rfl (lv_at hl 0 rfl) ?_
  refine lv_iconst (v := 0) hx hb dX2_clear_7 (by decide) ?_
  refine z_pc (pc' := 8) rfl ?_
  refine va_put (D := (dC, dI)) (ci := 2) (v := .int 0) (ty := .int) (C := RX2) (T := TX2) (N := 11) hx hb hts (fun w h => List.mem_cons_of_mem _ (inU_2 w h)) tyX2 tyX2_ok nmX2 hown hK hP hD hS 0 rfl rfl 9 (by decide) (hts _ (List.mem_cons_of_mem _ U_355)) (fun _ h9 => h9) rfl (by decide +kernel) rfl rfl (Nat.le_of_ble_eq_true rfl) dX2_clear_8 (fun H locs hP hD hS => ?_)
  have hP : va_P (dC, dI) vwCl [oX2 h_this h_guestName h_coins h_pride h_speed h_place h_payer h_dishName h_cost 6 0 v_dishes] H := hP
  have hD : va_D A [oX2 h_this h_guestName h_coins h_pride h_speed h_place h_payer h_dishName h_cost 6 0 v_dishes] := hD
  refine lv_aload_n hx hb dX2_clear_11 rfl (lv_at hl 0 rfl) ?_
  refine lv_iconst (v := 0) hx hb dX2_clear_12 (by decide) ?_
  refine va_put (D := (dC, dI)) (ci := 2) (v := .int 0) (ty := .int) (C := RX2) (T := TX2) (N := 11) hx hb hts (fun w h => List.mem_cons_of_mem _ (inU_2 w h)) tyX2 tyX2_ok nmX2 hown hK hP hD hS 0 rfl rfl 10 (by decide) (hts _ (List.mem_cons_of_mem _ U_356)) (fun _ h9 => h9) rfl (by decide +kernel) rfl rfl (Nat.le_of_ble_eq_true rfl) dX2_clear_13 (fun H locs hP hD hS => ?_)
  have hP : va_P (dC, dI) vwCl [oX2 h_this h_guestName h_coins h_pride h_speed h_place h_payer h_dishName h_cost 6 0 0] H := hP
  have hD : va_D A [oX2 h_this h_guestName h_coins h_pride h_speed h_place h_payer h_dishName h_cost 6 0 0] := hD
  have q0 := Option.some.inj hr
  obtain ⟨e0, q1⟩ := Prod.mk.inj q0
  obtain ⟨e1, q2⟩ := Prod.mk.inj q1
  subst e0; subst e1; subst q2
  exact W.vret hx hb hrt (fun t ht hW => ⟨⟨(), rfl, trivial, by rw [ht]; exact hP, va_K.moved hW.alike hK, hD⟩, hS.F ht⟩) hS.2.2 dX2_clear_16 hlocks
set_option maxHeartbeats 4000000 in
set_option maxRecDepth 100000 in
theorem mX2_clear (l : Launch) (dC : Nat → ClassId) (dI : Nat → Nat → Nat) (cI cJ cB cZ cF cG : ClassId) (h_this : Nat) (h_guestName : Nat) (h_coins : Nat) (h_pride : Nat) (h_speed : Nat) (h_place : Nat) (h_payer : Nat) (h_dishName : Nat) (h_cost : Nat) (sz : Nat) (v_chairs : Int32) (v_guests : Int32) (v_dishes : Int32) (o_chairs : Int32) (o_guests : Int32) (o_dishes : Int32) (hf : fX2_clear v_chairs v_guests v_dishes = some (o_chairs, o_guests, o_dishes)) : Met l yX2_clear uX2_clear ({ frames := 0, cells := 0, slots := 0, locals := 0 }) (va_Pc [.ref h_this] (fun U => U.heap.size = sz ∧ va_P (dC, dI) vwCl [oX2 h_this h_guestName h_coins h_pride h_speed h_place h_payer h_dishName h_cost v_chairs v_guests v_dishes] U.heap ∧ va_K (dC, dI) vwCl (TYS cI cJ cB cZ cF cG) U ∧ va_D (fun _ => True) [oX2 h_this h_guestName h_coins h_pride h_speed h_place h_payer h_dishName h_cost v_chairs v_guests v_dishes])) (PQv dC dI cI cJ cB cZ cF cG (va_A [oX2 h_this h_guestName h_coins h_pride h_speed h_place h_payer h_dishName h_cost v_chairs v_guests v_dishes] sz) [oX2 h_this h_guestName h_coins h_pride h_speed h_place h_payer h_dishName h_cost o_chairs o_guests o_dishes]) 0 0 (va_A [oX2 h_this h_guestName h_coins h_pride h_speed h_place h_payer h_dishName h_cost v_chairs v_guests v_dishes] sz) := by
  refine Met.ofW (cc := cX2_clear) (maxL := 1) (ret := none) (by decide) rfl ?_
  intro p e s m args below meth c s₁ B hml hv
  obtain ⟨rfl, hsz, hP, hK, hD0⟩ := hv
  have hx := B.exec
  have hb := B.bytes
  have hr := B.returns
  have hts := atoms_spec (ws := uX2_clear) B.pre
  have hown : s.vm.findClass RX2 = some m.cls := findClass_of_methodNamed B.named
  have hlocks := B.notSynchronized
  subst hsz
  have hD := hD0.self (sz := s.heap.size)
  generalize hAe : va_A [oX2 h_this h_guestName h_coins h_pride h_speed h_place h_payer h_dishName h_cost v_chairs v_guests v_dishes] s.heap.size = A at hD ⊢
  have hA : ∀ q : Nat, s.heap.size ≤ q → A q := fun q h => by rw [← hAe]; exact Or.inr h
  have hS : va_S A s.heap s.heap [] := va_S.rf
  have hl := lv_entry ([.ref h_this]) (n := 1) (Nat.le_of_ble_eq_true rfl)
  rw [lg_entry_eq]
  generalize (lg_sl ([.ref h_this]) ++ List.replicate (1 - (lg_sl ([.ref h_this])).length) Slot.unset).toArray = ls at hl ⊢
  have hl : lv_has ls 1 [(0, .ref h_this)] := hl
  exact tX2_clear hA ⟨hx, hb, hr, hml, hown, hts, hlocks⟩ ⟨Nat.le_refl _, Nat.le_refl _⟩ h_this h_guestName h_coins h_pride h_speed h_place h_payer h_dishName h_cost o_chairs o_guests o_dishes v_chairs v_guests v_dishes hf _ _ ⟨hK, hP, hD, hS⟩ ls hl
-- LastSeat$Hall.copyFrom(LLastSeat$Hall;)V
def uX2_copyFrom : List Cond := .code yX2_copyFrom cX2_copyFrom 2 none :: wsU
set_option maxHeartbeats 4000000 in
set_option maxRecDepth 100000 in
theorem tX2_copyFrom {p : Program} {l : Launch} {e : Env} {R : Room} {s : State} {m : MethodId} {args : Array Value} {below : List Frame} {meth : Method} {c : Code} {dC : Nat → ClassId} {dI : Nat → Nat → Nat} {cI cJ cB cZ cF cG : ClassId} {A : Nat → Prop} (hA : ∀ q : Nat, s.heap.size ≤ q → A q) (C0 : Cx p s m meth c args cX2_copyFrom 2 none RX2 uX2_copyFrom) (hR : 1 ≤ R.frames ∧ 60 ≤ R.locals) (h_this : Nat) (h_guestName : Nat) (h_coins : Nat) (h_pride : Nat) (h_speed : Nat) (h_place : Nat) (h_payer : Nat) (h_dishName : Nat) (h_cost : Nat) (h_a0 : Nat) (h_a0_guestName : Nat) (h_a0_coins : Nat) (h_a0_pride : Nat) (h_a0_speed : Nat) (h_a0_place : Nat) (h_a0_payer : Nat) (h_a0_dishName : Nat) (h_a0_cost : Nat) (v_a0_chairs : Int32) (v_a0_guests : Int32) (v_a0_dishes : Int32) (v_a0_guestName : Nat → Int64) (v_a0_coins : Nat → Int32) (v_a0_pride : Nat → Int32) (v_a0_speed : Nat → Int32) (v_a0_place : Nat → Int32) (v_a0_payer : Nat → Int32) (v_a0_dishName : Nat → Int64) (v_a0_cost : Nat → Int32) (o_chairs : Int32) (o_guests : Int32) (o_dishes : Int32) (o_guestName : Nat → Int64) (o_coins : Nat → Int32) (o_pride : Nat → Int32) (o_speed : Nat → Int32) (o_place : Nat → Int32) (o_payer : Nat → Int32) (o_dishName : Nat → Int64) (o_cost : Nat → Int32) :
    ∀ (v_chairs : Int32) (v_guests : Int32) (v_dishes : Int32) (v_guestName : Nat → Int64) (v_coins : Nat → Int32) (v_pride : Nat → Int32) (v_speed : Nat → Int32) (v_place : Nat → Int32) (v_payer : Nat → Int32) (v_dishName : Nat → Int64) (v_cost : Nat → Int32), fX2_copyFrom v_a0_chairs v_a0_guests v_a0_dishes v_a0_guestName v_a0_coins v_a0_pride v_a0_speed v_a0_place v_a0_payer v_a0_dishName v_a0_cost v_chairs v_guests v_dishes v_guestName v_coins v_pride v_speed v_place v_payer v_dishName v_cost = some (o_chairs, o_guests, o_dishes, o_guestName, o_coins, o_pride, o_speed, o_place, o_payer, o_dishName, o_cost) → ∀ (H : Heap) (locs : List Loc), Wd dC dI cI cJ cB cZ cF cG A s H locs [oX2 h_this h_guestName h_coins h_pride h_speed h_place h_payer h_dishName h_cost v_chairs v_guests v_dishes, aJ cJ h_guestName 7 v_guestName, aI cI h_coins 7 v_coins, aI cI h_pride 7 v_pride, aI cI h_speed 7 v_speed, aI cI h_place 7 v_place, aI cI h_payer 7 v_payer, aJ cJ h_dishName 6 v_dishName, aI cI h_cost 6 v_cost, oX2 h_a0 h_a0_guestName h_a0_coins h_a0_pride h_a0_speed h_a0_place h_a0_payer h_a0_dishName h_a0_cost v_a0_chairs v_a0_guests v_a0_dishes, aJ cJ h_a0_guestName 7 v_a0_guestName, aI cI h_a0_coins 7 v_a0_coins, aI cI h_a0_pride 7 v_a0_pride, aI cI h_a0_speed 7 v_a0_speed, aI cI h_a0_place 7 v_a0_place, aI cI h_a0_payer 7 v_a0_payer, aJ cJ h_a0_dishName 6 v_a0_dishName, aI cI h_a0_cost 6 v_a0_cost] → ∀ (ls : Array Slot), lv_has ls 2 [(0, .ref h_this), (1, .ref h_a0)] → W p l e R s m args below meth c H locs 0 0 (MQ below (PQv dC dI cI cJ cB cZ cF cG A [oX2 h_this h_guestName h_coins h_pride h_speed h_place h_payer h_dishName h_cost o_chairs o_guests o_dishes, aJ cJ h_guestName 7 o_guestName, aI cI h_coins 7 o_coins, aI cI h_pride 7 o_pride, aI cI h_speed 7 o_speed, aI cI h_place 7 o_place, aI cI h_payer 7 o_payer, aJ cJ h_dishName 6 o_dishName, aI cI h_cost 6 o_cost, oX2 h_a0 h_a0_guestName h_a0_coins h_a0_pride h_a0_speed h_a0_place h_a0_payer h_a0_dishName h_a0_cost v_a0_chairs v_a0_guests v_a0_dishes, aJ cJ h_a0_guestName 7 v_a0_guestName, aI cI h_a0_coins 7 v_a0_coins, aI cI h_a0_pride 7 v_a0_pride, aI cI h_a0_speed 7 v_a0_speed, aI cI h_a0_place 7 v_a0_place, aI cI h_a0_payer 7 v_a0_payer, aJ cJ h_a0_dishName 6 v_a0_dishName, aI cI h_a0_cost 6 v_a0_cost]) args s 0 0 A) (F0 m 0 ls []) := by
  obtain ⟨hx, hb, hrt, hml, hown, hts, hlocks⟩ := id C0
  intro v_chairs v_guests v_dishes v_guestName v_coins v_pride v_speed v_place v_payer v_dishName v_cost hr H locs hW ls hl
  obtain ⟨hK, hP, hD, hS⟩ := hW
  have hr : (some (v_a0_chairs, v_a0_guests, v_a0_dishes, (va_cpy v_a0_guestName v_guestName 0 0 7), (va_cpy v_a0_coins v_coins 0 0 7), (va_cpy v_a0_pride v_pride 0 0 7), (va_cpy v_a0_speed v_speed 0 0 7), (va_cpy v_a0_place v_place 0 0 7), (va_cpy v_a0_payer v_payer 0 0 7), (va_cpy v_a0_dishName v_dishName 0 0 6), (va_cpy v_a0_cost v_cost 0 0 6)) : Option (Int32 × Int32 × Int32 × (Nat → Int64) × (Nat → Int32) × (Nat → Int32) × (Nat → Int32) × (Nat → Int32) × (Nat → Int32) × (Nat → Int64) × (Nat → Int32))) = some (o_chairs, o_guests, o_dishes, o_guestName, o_coins, o_pride, o_speed, o_place, o_payer, o_dishName, o_cost) := hr
  refine lv_aload_n hx hb dX2_copyFrom_0 rfl (lv_at hl 1 rfl) ?_
  refine va_get (D := (dC, dI)) (ci := 2) (v := .ref h_a0_guestName) (C := RX2) (T := TX2) (N := 11) hx hb hts (fun w h => List.mem_cons_of_mem _ (inU_2 w h)) hown hK hP 9 rfl rfl 0 (by decide) (hts _ (List.mem_cons_of_mem _ U_129)) (fun _ h9 => h9) rfl dX2_copyFrom_1 ?_
  refine lv_iconst (v := 0) hx hb dX2_copyFrom_4 (by decide) ?_
  refine lv_aload_n hx hb dX2_copyFrom_5 rfl (lv_at hl 0 rfl) ?_
  refine va_get (D := (dC, dI)) (ci := 2) (v := .ref h_guestName) (C := RX2) (T := TX2) (N := 11) hx hb hts (fun w h => List.mem_cons_of_mem _ (inU_2 w h)) hown hK hP 0 rfl rfl 0 (by decide) (hts _ (List.mem_cons_of_mem _ U_129)) (fun _ h9 => h9) rfl dX2_copyFrom_6 ?_
  refine z_pc (pc' := 9) rfl ?_
  refine lv_iconst (v := 0) hx hb dX2_copyFrom_9 (by decide) ?_
  refine lv_bipush (v := 7) hx hb dX2_copyFrom_10 (by decide) ?_
  refine va_copyl (sp := 0) (dp := 0) (n := 7) hx hb (hml.trans hl.1.symm) hown (hts _ (List.mem_cons_of_mem _ U_431)) (hts _ (List.mem_cons_of_mem _ U_432)) (hts _ (List.mem_cons_of_mem _ U_433)) (hts _ (List.mem_cons_of_mem _ U_434)) hK hP hD hS 10 1 1 1 rfl rfl rfl rfl rfl (by decide) (by decide) (by decide) (by decide) (by decide) (fun _ _ => rfl) (Nat.le_trans (by decide) hR.1) (Nat.le_trans (Nat.le_of_ble_eq_true rfl) hR.2) dX2_copyFrom_12 (fun H locs hP hD hS => ?_)
  have hP : va_P (dC, dI) vwCl [oX2 h_this h_guestName h_coins h_pride h_speed h_place h_payer h_dishName h_cost v_chairs v_guests v_dishes, aJ cJ h_guestName 7 (va_cpy v_a0_guestName v_guestName 0 0 7), aI cI h_coins 7 v_coins, aI cI h_pride 7 v_pride, aI cI h_speed 7 v_speed, aI cI h_place 7 v_place, aI cI h_payer 7 v_payer, aJ cJ h_dishName 6 v_dishName, aI cI h_cost 6 v_cost, oX2 h_a0 h_a0_guestName h_a0_coins h_a0_pride h_a0_speed h_a0_place h_a0_payer h_a0_dishName h_a0_cost v_a0_chairs v_a0_guests v_a0_dishes, aJ cJ h_a0_guestName 7 v_a0_guestName, aI cI h_a0_coins 7 v_a0_coins, aI cI h_a0_pride 7 v_a0_pride, aI cI h_a0_speed 7 v_a0_speed, aI cI h_a0_place 7 v_a0_place, aI cI h_a0_payer 7 v_a0_payer, aJ cJ h_a0_dishName 6 v_a0_dishName, aI cI h_a0_cost 6 v_a0_cost] H := hP
  have hD : va_D A [oX2 h_this h_guestName h_coins h_pride h_speed h_place h_payer h_dishName h_cost v_chairs v_guests v_dishes, aJ cJ h_guestName 7 (va_cpy v_a0_guestName v_guestName 0 0 7), aI cI h_coins 7 v_coins, aI cI h_pride 7 v_pride, aI cI h_speed 7 v_speed, aI cI h_place 7 v_place, aI cI h_payer 7 v_payer, aJ cJ h_dishName 6 v_dishName, aI cI h_cost 6 v_cost, oX2 h_a0 h_a0_guestName h_a0_coins h_a0_pride h_a0_speed h_a0_place h_a0_payer h_a0_dishName h_a0_cost v_a0_chairs v_a0_guests v_a0_dishes, aJ cJ h_a0_guestName 7 v_a0_guestName, aI cI h_a0_coins 7 v_a0_coins, aI cI h_a0_pride 7 v_a0_pride, aI cI h_a0_speed 7 v_a0_speed, aI cI h_a0_place 7 v_a0_place, aI cI h_a0_payer 7 v_a0_payer, aJ cJ h_a0_dishName 6 v_a0_dishName, aI cI h_a0_cost 6 v_a0_cost] := hD
  refine lv_aload_n hx hb dX2_copyFrom_15 rfl (lv_at hl 1 rfl) ?_
  refine va_get (D := (dC, dI)) (ci := 2) (v := .ref h_a0_coins) (C := RX2) (T := TX2) (N := 11) hx hb hts (fun w h => List.mem_cons_of_mem _ (inU_2 w h)) hown hK hP 9 rfl rfl 1 (by decide) (hts _ (List.mem_cons_of_mem _ U_131)) (fun _ h9 => h9) rfl dX2_copyFrom_16 ?_
  refine lv_iconst (v := 0) hx hb dX2_copyFrom_19 (by decide) ?_
  refine z_pc (pc' := 20) rfl ?_
  refine lv_aload_n hx hb dX2_copyFrom_20 rfl (lv_at hl 0 rfl) ?_
  refine va_get (D := (dC, dI)) (ci := 2) (v := .ref h_coins) (C := RX2) (T := TX2) (N := 11) hx hb hts (fun w h => List.mem_cons_of_mem _ (inU_2 w h)) hown hK hP 0 rfl rfl 1 (by decide) (hts _ (List.mem_cons_of_mem _ U_131)) (fun _ h9 => h9) rfl dX2_copyFrom_21 ?_
  refine lv_iconst (v := 0) hx hb dX2_copyFrom_24 (by decide) ?_
  refine lv_bipush (v := 7) hx hb dX2_copyFrom_25 (by decide) ?_
  refine va_copyi (sp := 0) (dp := 0) (n := 7) hx hb (hml.trans hl.1.symm) hown (hts _ (List.mem_cons_of_mem _ U_431)) (hts _ (List.mem_cons_of_mem _ U_432)) (hts _ (List.mem_cons_of_mem _ U_433)) (hts _ (List.mem_cons_of_mem _ U_434)) hK hP hD hS 11 2 0 0 rfl rfl rfl rfl rfl (by decide) (by decide) (by decide) (by decide) (by decide) (fun _ _ => rfl) (Nat.le_trans (by decide) hR.1) (Nat.le_trans (Nat.le_of_ble_eq_true rfl) hR.2) dX2_copyFrom_27 (fun H locs hP hD hS => ?_)
  have hP : va_P (dC, dI) vwCl [oX2 h_this h_guestName h_coins h_pride h_speed h_place h_payer h_dishName h_cost v_chairs v_guests v_dishes, aJ cJ h_guestName 7 (va_cpy v_a0_guestName v_guestName 0 0 7), aI cI h_coins 7 (va_cpy v_a0_coins v_coins 0 0 7), aI cI h_pride 7 v_pride, aI cI h_speed 7 v_speed, aI cI h_place 7 v_place, aI cI h_payer 7 v_payer, aJ cJ h_dishName 6 v_dishName, aI cI h_cost 6 v_cost, oX2 h_a0 h_a0_guestName h_a0_coins h_a0_pride h_a0_speed h_a0_place h_a0_payer h_a0_dishName h_a0_cost v_a0_chairs v_a0_guests v_a0_dishes, aJ cJ h_a0_guestName 7 v_a0_guestName, aI cI h_a0_coins 7 v_a0_coins, aI cI h_a0_pride 7 v_a0_pride, aI cI h_a0_speed 7 v_a0_speed, aI cI h_a0_place 7 v_a0_place, aI cI h_a0_payer 7 v_a0_payer, aJ cJ h_a0_dishName 6 v_a0_dishName, aI cI h_a0_cost 6 v_a0_cost] H := hP
  have hD : va_D A [oX2 h_this h_guestName h_coins h_pride h_speed h_place h_payer h_dishName h_cost v_chairs v_guests v_dishes, aJ cJ h_guestName 7 (va_cpy v_a0_guestName v_guestName 0 0 7), aI cI h_coins 7 (va_cpy v_a0_coins v_coins 0 0 7), aI cI h_pride 7 v_pride, aI cI h_speed 7 v_speed, aI cI h_place 7 v_place, aI cI h_payer 7 v_payer, aJ cJ h_dishName 6 v_dishName, aI cI h_cost 6 v_cost, oX2 h_a0 h_a0_guestName h_a0_coins h_a0_pride h_a0_speed h_a0_place h_a0_payer h_a0_dishName h_a0_cost v_a0_chairs v_a0_guests v_a0_dishes, aJ cJ h_a0_guestName 7 v_a0_guestName, aI cI h_a0_coins 7 v_a0_coins, aI cI h_a0_pride 7 v_a0_pride, aI cI h_a0_speed 7 v_a0_speed, aI cI h_a0_place 7 v_a0_place, aI cI h_a0_payer 7 v_a0_payer, aJ cJ h_a0_dishName 6 v_a0_dishName, aI cI h_a0_cost 6 v_a0_cost] := hD
  refine lv_aload_n hx hb dX2_copyFrom_30 rfl (lv_at hl 1 rfl) ?_
  refine z_pc (pc' := 31) rfl ?_
  refine va_get (D := (dC, dI)) (ci := 2) (v := .ref h_a0_pride) (C := RX2) (T := TX2) (N := 11) hx hb hts (fun w h => List.mem_cons_of_mem _ (inU_2 w h)) hown hK hP 9 rfl rfl 2 (by decide) (hts _ (List.mem_cons_of_mem _ U_132)) (fun _ h9 => h9) rfl dX2_copyFrom_31 ?_
  refine lv_iconst (v := 0) hx hb dX2_copyFrom_34 (by decide) ?_
  refine lv_aload_n hx hb dX2_copyFrom_35 rfl (lv_at hl 0 rfl) ?_
  refine va_get (D := (dC, dI)) (ci := 2) (v := .ref h_pride) (C := RX2) (T := TX2) (N := 11) hx hb hts (fun w h => List.mem_cons_of_mem _ (inU_2 w h)) hown hK hP 0 rfl rfl 2 (by decide) (hts _ (List.mem_cons_of_mem _ U_132)) (fun _ h9 => h9) rfl dX2_copyFrom_36 ?_
  refine lv_iconst (v := 0) hx hb dX2_copyFrom_39 (by decide) ?_
  refine lv_bipush (v := 7) hx hb dX2_copyFrom_40 (by decide) ?_
  refine z_pc (pc' := 42) rfl ?_
  refine va_copyi (sp := 0) (dp := 0) (n := 7) hx hb (hml.trans hl.1.symm) hown (hts _ (List.mem_cons_of_mem _ U_431)) (hts _ (List.mem_cons_of_mem _ U_432)) (hts _ (List.mem_cons_of_mem _ U_433)) (hts _ (List.mem_cons_of_mem _ U_434)) hK hP hD hS 12 3 0 0 rfl rfl rfl rfl rfl (by decide) (by decide) (by decide) (by decide) (by decide) (fun _ _ => rfl) (Nat.le_trans (by decide) hR.1) (Nat.le_trans (Nat.le_of_ble_eq_true rfl) hR.2) dX2_copyFrom_42 (fun H locs hP hD hS => ?_)
  have hP : va_P (dC, dI) vwCl [oX2 h_this h_guestName h_coins h_pride h_speed h_place h_payer h_dishName h_cost v_chairs v_guests v_dishes, aJ cJ h_guestName 7 (va_cpy v_a0_guestName v_guestName 0 0 7), aI cI h_coins 7 (va_cpy v_a0_coins v_coins 0 0 7), aI cI h_pride 7 (va_cpy v_a0_pride v_pride 0 0 7), aI cI h_speed 7 v_speed, aI cI h_place 7 v_place, aI cI h_payer 7 v_payer, aJ cJ h_dishName 6 v_dishName, aI cI h_cost 6 v_cost, oX2 h_a0 h_a0_guestName h_a0_coins h_a0_pride h_a0_speed h_a0_place h_a0_payer h_a0_dishName h_a0_cost v_a0_chairs v_a0_guests v_a0_dishes, aJ cJ h_a0_guestName 7 v_a0_guestName, aI cI h_a0_coins 7 v_a0_coins, aI cI h_a0_pride 7 v_a0_pride, aI cI h_a0_speed 7 v_a0_speed, aI cI h_a0_place 7 v_a0_place, aI cI h_a0_payer 7 v_a0_payer, aJ cJ h_a0_dishName 6 v_a0_dishName, aI cI h_a0_cost 6 v_a0_cost] H := hP
  have hD : va_D A [oX2 h_this h_guestName h_coins h_pride h_speed h_place h_payer h_dishName h_cost v_chairs v_guests v_dishes, aJ cJ h_guestName 7 (va_cpy v_a0_guestName v_guestName 0 0 7), aI cI h_coins 7 (va_cpy v_a0_coins v_coins 0 0 7), aI cI h_pride 7 (va_cpy v_a0_pride v_pride 0 0 7), aI cI h_speed 7 v_speed, aI cI h_place 7 v_place, aI cI h_payer 7 v_payer, aJ cJ h_dishName 6 v_dishName, aI cI h_cost 6 v_cost, oX2 h_a0 h_a0_guestName h_a0_coins h_a0_pride h_a0_speed h_a0_place h_a0_payer h_a0_dishName h_a0_cost v_a0_chairs v_a0_guests v_a0_dishes, aJ cJ h_a0_guestName 7 v_a0_guestName, aI cI h_a0_coins 7 v_a0_coins, aI cI h_a0_pride 7 v_a0_pride, aI cI h_a0_speed 7 v_a0_speed, aI cI h_a0_place 7 v_a0_place, aI cI h_a0_payer 7 v_a0_payer, aJ cJ h_a0_dishName 6 v_a0_dishName, aI cI h_a0_cost 6 v_a0_cost] := hD
  refine lv_aload_n hx hb dX2_copyFrom_45 rfl (lv_at hl 1 rfl) ?_
  refine va_get (D := (dC, dI)) (ci := 2) (v := .ref h_a0_speed) (C := RX2) (T := TX2) (N := 11) hx hb hts (fun w h => List.mem_cons_of_mem _ (inU_2 w h)) hown hK hP 9 rfl rfl 3 (by decide) (hts _ (List.mem_cons_of_mem _ U_133)) (fun _ h9 => h9) rfl dX2_copyFrom_46 ?_
  refine lv_iconst (v := 0) hx hb dX2_copyFrom_49 (by decide) ?_
  refine lv_aload_n hx hb dX2_copyFrom_50 rfl (lv_at hl 0 rfl) ?_
  refine va_get (D := (dC, dI)) (ci := 2) (v := .ref h_speed) (C := RX2) (T := TX2) (N := 11) hx hb hts (fun w h => List.mem_cons_of_mem _ (inU_2 w h)) hown hK hP 0 rfl rfl 3 (by decide) (hts _ (List.mem_cons_of_mem _ U_133)) (fun _ h9 => h9) rfl dX2_copyFrom_51 ?_
  refine z_pc (pc' := 54) rfl ?_
  refine lv_iconst (v := 0) hx hb dX2_copyFrom_54 (by decide) ?_
  refine lv_bipush (v := 7) hx hb dX2_copyFrom_55 (by decide) ?_
  refine va_copyi (sp := 0) (dp := 0) (n := 7) hx hb (hml.trans hl.1.symm) hown (hts _ (List.mem_cons_of_mem _ U_431)) (hts _ (List.mem_cons_of_mem _ U_432)) (hts _ (List.mem_cons_of_mem _ U_433)) (hts _ (List.mem_cons_of_mem _ U_434)) hK hP hD hS 13 4 0 0 rfl rfl rfl rfl rfl (by decide) (by decide) (by decide) (by decide) (by decide) (fun _ _ => rfl) (Nat.le_trans (by decide) hR.1) (Nat.le_trans (Nat.le_of_ble_eq_true rfl) hR.2) dX2_copyFrom_57 (fun H locs hP hD hS => ?_)
  have hP : va_P (dC, dI) vwCl [oX2 h_this h_guestName h_coins h_pride h_speed h_place h_payer h_dishName h_cost v_chairs v_guests v_dishes, aJ cJ h_guestName 7 (va_cpy v_a0_guestName v_guestName 0 0 7), aI cI h_coins 7 (va_cpy v_a0_coins v_coins 0 0 7), aI cI h_pride 7 (va_cpy v_a0_pride v_pride 0 0 7), aI cI h_speed 7 (va_cpy v_a0_speed v_speed 0 0 7), aI cI h_place 7 v_place, aI cI h_payer 7 v_payer, aJ cJ h_dishName 6 v_dishName, aI cI h_cost 6 v_cost, oX2 h_a0 h_a0_guestName h_a0_coins h_a0_pride h_a0_speed h_a0_place h_a0_payer h_a0_dishName h_a0_cost v_a0_chairs v_a0_guests v_a0_dishes, aJ cJ h_a0_guestName 7 v_a0_guestName, aI cI h_a0_coins 7 v_a0_coins, aI cI h_a0_pride 7 v_a0_pride, aI cI h_a0_speed 7 v_a0_speed, aI cI h_a0_place 7 v_a0_place, aI cI h_a0_payer 7 v_a0_payer, aJ cJ h_a0_dishName 6 v_a0_dishName, aI cI h_a0_cost 6 v_a0_cost] H := hP
  have hD : va_D A [oX2 h_this h_guestName h_coins h_pride h_speed h_place h_payer h_dishName h_cost v_chairs v_guests v_dishes, aJ cJ h_guestName 7 (va_cpy v_a0_guestName v_guestName 0 0 7), aI cI h_coins 7 (va_cpy v_a0_coins v_coins 0 0 7), aI cI h_pride 7 (va_cpy v_a0_pride v_pride 0 0 7), aI cI h_speed 7 (va_cpy v_a0_speed v_speed 0 0 7), aI cI h_place 7 v_place, aI cI h_payer 7 v_payer, aJ cJ h_dishName 6 v_dishName, aI cI h_cost 6 v_cost, oX2 h_a0 h_a0_guestName h_a0_coins h_a0_pride h_a0_speed h_a0_place h_a0_payer h_a0_dishName h_a0_cost v_a0_chairs v_a0_guests v_a0_dishes, aJ cJ h_a0_guestName 7 v_a0_guestName, aI cI h_a0_coins 7 v_a0_coins, aI cI h_a0_pride 7 v_a0_pride, aI cI h_a0_speed 7 v_a0_speed, aI cI h_a0_place 7 v_a0_place, aI cI h_a0_payer 7 v_a0_payer, aJ cJ h_a0_dishName 6 v_a0_dishName, aI cI h_a0_cost 6 v_a0_cost] := hD
  refine lv_aload_n hx hb dX2_copyFrom_60 rfl (lv_at hl 1 rfl) ?_
  refine va_get (D := (dC, dI)) (ci := 2) (v := .ref h_a0_place) (C := RX2) (T := TX2) (N := 11) hx hb hts (fun w h => List.mem_cons_of_mem _ (inU_2 w h)) hown hK hP 9 rfl rfl 4 (by decide) (hts _ (List.mem_cons_of_mem _ U_134)) (fun _ h9 => h9) rfl dX2_copyFrom_61 ?_
  refine lv_iconst (v := 0) hx hb dX2_copyFrom_64 (by decide) ?_
  refine z_pc (pc' := 65) rfl ?_
  refine lv_aload_n hx hb dX2_copyFrom_65 rfl (lv_at hl 0 rfl) ?_
  refine va_get (D := (dC, dI)) (ci := 2) (v := .ref h_place) (C := RX2) (T := TX2) (N := 11) hx hb hts (fun w h => List.mem_cons_of_mem _ (inU_2 w h)) hown hK hP 0 rfl rfl 4 (by decide) (hts _ (List.mem_cons_of_mem _ U_134)) (fun _ h9 => h9) rfl dX2_copyFrom_66 ?_
  refine lv_iconst (v := 0) hx hb dX2_copyFrom_69 (by decide) ?_
  refine lv_bipush (v := 7) hx hb dX2_copyFrom_70 (by decide) ?_
  refine va_copyi (sp := 0) (dp := 0) (n := 7) hx hb (hml.trans hl.1.symm) hown (hts _ (List.mem_cons_of_mem _ U_431)) (hts _ (List.mem_cons_of_mem _ U_432)) (hts _ (List.mem_cons_of_mem _ U_433)) (hts _ (List.mem_cons_of_mem _ U_434)) hK hP hD hS 14 5 0 0 rfl rfl rfl rfl rfl (by decide) (by decide) (by decide) (by decide) (by decide) (fun _ _ => rfl) (Nat.le_trans (by decide) hR.1) (Nat.le_trans (Nat.le_of_ble_eq_true rfl) hR.2) dX2_copyFrom_72 (fun H locs hP hD hS => ?_)
  have hP : va_P (dC, dI) vwCl [oX2 h_this h_guestName h_coins h_pride h_speed h_place h_payer h_dishName h_cost v_chairs v_guests v_dishes, aJ cJ h_guestName 7 (va_cpy v_a0_guestName v_guestName 0 0 7), aI cI h_coins 7 (va_cpy v_a0_coins v_coins 0 0 7), aI cI h_pride 7 (va_cpy v_a0_pride v_pride 0 0 7), aI cI h_speed 7 (va_cpy v_a0_speed v_speed 0 0 7), aI cI h_place 7 (va_cpy v_a0_place v_place 0 0 7), aI cI h_payer 7 v_payer, aJ cJ h_dishName 6 v_dishName, aI cI h_cost 6 v_cost, oX2 h_a0 h_a0_guestName h_a0_coins h_a0_pride h_a0_speed h_a0_place h_a0_payer h_a0_dishName h_a0_cost v_a0_chairs v_a0_guests v_a0_dishes, aJ cJ h_a0_guestName 7 v_a0_guestName, aI cI h_a0_coins 7 v_a0_coins, aI cI h_a0_pride 7 v_a0_pride, aI cI h_a0_speed 7 v_a0_speed, aI cI h_a0_place 7 v_a0_place, aI cI h_a0_payer 7 v_a0_payer, aJ cJ h_a0_dishName 6 v_a0_dishName, aI cI h_a0_cost 6 v_a0_cost] H := hP
  have hD : va_D A [oX2 h_this h_guestName h_coins h_pride h_speed h_place h_payer h_dishName h_cost v_chairs v_guests v_dishes, aJ cJ h_guestName 7 (va_cpy v_a0_guestName v_guestName 0 0 7), aI cI h_coins 7 (va_cpy v_a0_coins v_coins 0 0 7), aI cI h_pride 7 (va_cpy v_a0_pride v_pride 0 0 7), aI cI h_speed 7 (va_cpy v_a0_speed v_speed 0 0 7), aI cI h_place 7 (va_cpy v_a0_place v_place 0 0 7), aI cI h_payer 7 v_payer, aJ cJ h_dishName 6 v_dishName, aI cI h_cost 6 v_cost, oX2 h_a0 h_a0_guestName h_a0_coins h_a0_pride h_a0_speed h_a0_place h_a0_payer h_a0_dishName h_a0_cost v_a0_chairs v_a0_guests v_a0_dishes, aJ cJ h_a0_guestName 7 v_a0_guestName, aI cI h_a0_coins 7 v_a0_coins, aI cI h_a0_pride 7 v_a0_pride, aI cI h_a0_speed 7 v_a0_speed, aI cI h_a0_place 7 v_a0_place, aI cI h_a0_payer 7 v_a0_payer, aJ cJ h_a0_dishName 6 v_a0_dishName, aI cI h_a0_cost 6 v_a0_cost] := hD
  refine lv_aload_n hx hb dX2_copyFrom_75 rfl (lv_at hl 1 rfl) ?_
  refine z_pc (pc' := 76) rfl ?_
  refine va_get (D := (dC, dI)) (ci := 2) (v := .ref h_a0_payer) (C := RX2) (T := TX2) (N := 11) hx hb hts (fun w h => List.mem_cons_of_mem _ (inU_2 w h)) hown hK hP 9 rfl rfl 5 (by decide) (hts _ (List.mem_cons_of_mem _ U_135)) (fun _ h9 => h9) rfl dX2_copyFrom_76 ?_
  refine lv_iconst (v := 0) hx hb dX2_copyFrom_79 (by decide) ?_
  refine lv_aload_n hx hb dX2_copyFrom_80 rfl (lv_at hl 0 rfl) ?_
  refine va_get (D := (dC, dI)) (ci := 2) (v := .ref h_payer) (C := RX2) (T := TX2) (N := 11) hx hb hts (fun w h => List.mem_cons_of_mem _ (inU_2 w h)) hown hK hP 0 rfl rfl 5 (by decide) (hts _ (List.mem_cons_of_mem _ U_135)) (fun _ h9 => h9) rfl dX2_copyFrom_81 ?_
  refine lv_iconst (v := 0) hx hb dX2_copyFrom_84 (by decide) ?_
  refine lv_bipush (v := 7) hx hb dX2_copyFrom_85 (by decide) ?_
  refine z_pc (pc' := 87) rfl ?_
  refine va_copyi (sp := 0) (dp := 0) (n := 7) hx hb (hml.trans hl.1.symm) hown (hts _ (List.mem_cons_of_mem _ U_431)) (hts _ (List.mem_cons_of_mem _ U_432)) (hts _ (List.mem_cons_of_mem _ U_433)) (hts _ (List.mem_cons_of_mem _ U_434)) hK hP hD hS 15 6 0 0 rfl rfl rfl rfl rfl (by decide) (by decide) (by decide) (by decide) (by decide) (fun _ _ => rfl) (Nat.le_trans (by decide) hR.1) (Nat.le_trans (Nat.le_of_ble_eq_true rfl) hR.2) dX2_copyFrom_87 (fun H locs hP hD hS => ?_)
  have hP : va_P (dC, dI) vwCl [oX2 h_this h_guestName h_coins h_pride h_speed h_place h_payer h_dishName h_cost v_chairs v_guests v_dishes, aJ cJ h_guestName 7 (va_cpy v_a0_guestName v_guestName 0 0 7), aI cI h_coins 7 (va_cpy v_a0_coins v_coins 0 0 7), aI cI h_pride 7 (va_cpy v_a0_pride v_pride 0 0 7), aI cI h_speed 7 (va_cpy v_a0_speed v_speed 0 0 7), aI cI h_place 7 (va_cpy v_a0_place v_place 0 0 7), aI cI h_payer 7 (va_cpy v_a0_payer v_payer 0 0 7), aJ cJ h_dishName 6 v_dishName, aI cI h_cost 6 v_cost, oX2 h_a0 h_a0_guestName h_a0_coins h_a0_pride h_a0_speed h_a0_place h_a0_payer h_a0_dishName h_a0_cost v_a0_chairs v_a0_guests v_a0_dishes, aJ cJ h_a0_guestName 7 v_a0_guestName, aI cI h_a0_coins 7 v_a0_coins, aI cI h_a0_pride 7 v_a0_pride, aI cI h_a0_speed 7 v_a0_speed, aI cI h_a0_place 7 v_a0_place, aI cI h_a0_payer 7 v_a0_payer, aJ cJ h_a0_dishName 6 v_a0_dishName, aI cI h_a0_cost 6 v_a0_cost] H := hP
  have hD : va_D A [oX2 h_this h_guestName h_coins h_pride h_speed h_place h_payer h_dishName h_cost v_chairs v_guests v_dishes, aJ cJ h_guestName 7 (va_cpy v_a0_guestName v_guestName 0 0 7), aI cI h_coins 7 (va_cpy v_a0_coins v_coins 0 0 7), aI cI h_pride 7 (va_cpy v_a0_pride v_pride 0 0 7), aI cI h_speed 7 (va_cpy v_a0_speed v_speed 0 0 7), aI cI h_place 7 (va_cpy v_a0_place v_place 0 0 7), aI cI h_payer 7 (va_cpy v_a0_payer v_payer 0 0 7), aJ cJ h_dishName 6 v_dishName, aI cI h_cost 6 v_cost, oX2 h_a0 h_a0_guestName h_a0_coins h_a0_pride h_a0_speed h_a0_place h_a0_payer h_a0_dishName h_a0_cost v_a0_chairs v_a0_guests v_a0_dishes, aJ cJ h_a0_guestName 7 v_a0_guestName, aI cI h_a0_coins 7 v_a0_coins, aI cI h_a0_pride 7 v_a0_pride, aI cI h_a0_speed 7 v_a0_speed, aI cI h_a0_place 7 v_a0_place, aI cI h_a0_payer 7 v_a0_payer, aJ cJ h_a0_dishName 6 v_a0_dishName, aI cI h_a0_cost 6 v_a0_cost] := hD
  refine lv_aload_n hx hb dX2_copyFrom_90 rfl (lv_at hl 1 rfl) ?_
  refine va_get (D := (dC, dI)) (ci := 2) (v := .ref h_a0_dishName) (C := RX2) (T := TX2) (N := 11) hx hb hts (fun w h => List.mem_cons_of_mem _ (inU_2 w h)) hown hK hP 9 rfl rfl 6 (by decide) (hts _ (List.mem_cons_of_mem _ U_136)) (fun _ h9 => h9) rfl dX2_copyFrom_91 ?_
  refine lv_iconst (v := 0) hx hb dX2_copyFrom_94 (by decide) ?_
  refine lv_aload_n hx hb dX2_copyFrom_95 rfl (lv_at hl 0 rfl) ?_
  refine va_get (D := (dC, dI)) (ci := 2) (v := .ref h_dishName) (C := RX2) (T := TX2) (N := 11) hx hb hts (fun w h => List.mem_cons_of_mem _ (inU_2 w h)) hown hK hP 0 rfl rfl 6 (by decide) (hts _ (List.mem_cons_of_mem _ U_136)) (fun _ h9 => h9) rfl dX2_copyFrom_96 ?_
  refine z_pc (pc' := 99) rfl ?_
  refine lv_iconst (v := 0) hx hb dX2_copyFrom_99 (by decide) ?_
  refine lv_bipush (v := 6) hx hb dX2_copyFrom_100 (by decide) ?_
  refine va_copyl (sp := 0) (dp := 0) (n := 6) hx hb (hml.trans hl.1.symm) hown (hts _ (List.mem_cons_of_mem _ U_431)) (hts _ (List.mem_cons_of_mem _ U_432)) (hts _ (List.mem_cons_of_mem _ U_433)) (hts _ (List.mem_cons_of_mem _ U_434)) hK hP hD hS 16 7 1 1 rfl rfl rfl rfl rfl (by decide) (by decide) (by decide) (by decide) (by decide) (fun _ _ => rfl) (Nat.le_trans (by decide) hR.1) (Nat.le_trans (Nat.le_of_ble_eq_true rfl) hR.2) dX2_copyFrom_102 (fun H locs hP hD hS => ?_)
  have hP : va_P (dC, dI) vwCl [oX2 h_this h_guestName h_coins h_pride h_speed h_place h_payer h_dishName h_cost v_chairs v_guests v_dishes, aJ cJ h_guestName 7 (va_cpy v_a0_guestName v_guestName 0 0 7), aI cI h_coins 7 (va_cpy v_a0_coins v_coins 0 0 7), aI cI h_pride 7 (va_cpy v_a0_pride v_pride 0 0 7), aI cI h_speed 7 (va_cpy v_a0_speed v_speed 0 0 7), aI cI h_place 7 (va_cpy v_a0_place v_place 0 0 7), aI cI h_payer 7 (va_cpy v_a0_payer v_payer 0 0 7), aJ cJ h_dishName 6 (va_cpy v_a0_dishName v_dishName 0 0 6), aI cI h_cost 6 v_cost, oX2 h_a0 h_a0_guestName h_a0_coins h_a0_pride h_a0_speed h_a0_place h_a0_payer h_a0_dishName h_a0_cost v_a0_chairs v_a0_guests v_a0_dishes, aJ cJ h_a0_guestName 7 v_a0_guestName, aI cI h_a0_coins 7 v_a0_coins, aI cI h_a0_pride 7 v_a0_pride, aI cI h_a0_speed 7 v_a0_speed, aI cI h_a0_place 7 v_a0_place, aI cI h_a0_payer 7 v_a0_payer, aJ cJ h_a0_dishName 6 v_a0_dishName, aI cI h_a0_cost 6 v_a0_cost] H := hP
  have hD : va_D A [oX2 h_this h_guestName h_coins h_pride h_speed h_place h_payer h_dishName h_cost v_chairs v_guests v_dishes, aJ cJ h_guestName 7 (va_cpy v_a0_guestName v_guestName 0 0 7), aI cI h_coins 7 (va_cpy v_a0_coins v_coins 0 0 7), aI cI h_pride 7 (va_cpy v_a0_pride v_pride 0 0 7), aI cI h_speed 7 (va_cpy v_a0_speed v_speed 0 0 7), aI cI h_place 7 (va_cpy v_a0_place v_place 0 0 7), aI cI h_payer 7 (va_cpy v_a0_payer v_payer 0 0 7), aJ cJ h_dishName 6 (va_cpy v_a0_dishName v_dishName 0 0 6), aI cI h_cost 6 v_cost, oX2 h_a0 h_a0_guestName h_a0_coins h_a0_pride h_a0_speed h_a0_place h_a0_payer h_a0_dishName h_a0_cost v_a0_chairs v_a0_guests v_a0_dishes, aJ cJ h_a0_guestName 7 v_a0_guestName, aI cI h_a0_coins 7 v_a0_coins, aI cI h_a0_pride 7 v_a0_pride, aI cI h_a0_speed 7 v_a0_speed, aI cI h_a0_place 7 v_a0_place, aI cI h_a0_payer 7 v_a0_payer, aJ cJ h_a0_dishName 6 v_a0_dishName, aI cI h_a0_cost 6 v_a0_cost] := hD
  refine lv_aload_n hx hb dX2_copyFrom_105 rfl (lv_at hl 1 rfl) ?_
  refine va_get (D := (dC, dI)) (ci := 2) (v := .ref h_a0_cost) (C := RX2) (T := TX2) (N := 11) hx hb hts (fun w h => List.mem_cons_of_mem _ (inU_2 w h)) hown hK hP 9 rfl rfl 7 (by decide) (hts _ (List.mem_cons_of_mem _ U_137)) (fun _ h9 => h9) rfl dX2_copyFrom_106 ?_
  refine lv_iconst (v := 0) hx hb dX2_copyFrom_109 (by decide) ?_
  refine z_pc (pc' := 110) rfl ?_
  refine lv_aload_n hx hb dX2_copyFrom_110 rfl (lv_at hl 0 rfl) ?_
  refine va_get (D := (dC, dI)) (ci := 2) (v := .ref h_cost) (C := RX2) (T := TX2) (N := 11) hx hb hts (fun w h => List.mem_cons_of_mem _ (inU_2 w h)) hown hK hP 0 rfl rfl 7 (by decide) (hts _ (List.mem_cons_of_mem _ U_137)) (fun _ h9 => h9) rfl dX2_copyFrom_111 ?_
  refine lv_iconst (v := 0) hx hb dX2_copyFrom_114 (by decide) ?_
  refine lv_bipush (v := 6) hx hb dX2_copyFrom_115 (by decide) ?_
  refine va_copyi (sp := 0) (dp := 0) (n := 6) hx hb (hml.trans hl.1.symm) hown (hts _ (List.mem_cons_of_mem _ U_431)) (hts _ (List.mem_cons_of_mem _ U_432)) (hts _ (List.mem_cons_of_mem _ U_433)) (hts _ (List.mem_cons_of_mem _ U_434)) hK hP hD hS 17 8 0 0 rfl rfl rfl rfl rfl (by decide) (by decide) (by decide) (by decide) (by decide) (fun _ _ => rfl) (Nat.le_trans (by decide) hR.1) (Nat.le_trans (Nat.le_of_ble_eq_true rfl) hR.2) dX2_copyFrom_117 (fun H locs hP hD hS => ?_)
  have hP : va_P (dC, dI) vwCl [oX2 h_this h_guestName h_coins h_pride h_speed h_place h_payer h_dishName h_cost v_chairs v_guests v_dishes, aJ cJ h_guestName 7 (va_cpy v_a0_guestName v_guestName 0 0 7), aI cI h_coins 7 (va_cpy v_a0_coins v_coins 0 0 7), aI cI h_pride 7 (va_cpy v_a0_pride v_pride 0 0 7), aI cI h_speed 7 (va_cpy v_a0_speed v_speed 0 0 7), aI cI h_place 7 (va_cpy v_a0_place v_place 0 0 7), aI cI h_payer 7 (va_cpy v_a0_payer v_payer 0 0 7), aJ cJ h_dishName 6 (va_cpy v_a0_dishName v_dishName 0 0 6), aI cI h_cost 6 (va_cpy v_a0_cost v_cost 0 0 6), oX2 h_a0 h_a0_guestName h_a0_coins h_a0_pride h_a0_speed h_a0_place h_a0_payer h_a0_dishName h_a0_cost v_a0_chairs v_a0_guests v_a0_dishes, aJ cJ h_a0_guestName 7 v_a0_guestName, aI cI h_a0_coins 7 v_a0_coins, aI cI h_a0_pride 7 v_a0_pride, aI cI h_a0_speed 7 v_a0_speed, aI cI h_a0_place 7 v_a0_place, aI cI h_a0_payer 7 v_a0_payer, aJ cJ h_a0_dishName 6 v_a0_dishName, aI cI h_a0_cost 6 v_a0_cost] H := hP
  have hD : va_D A [oX2 h_this h_guestName h_coins h_pride h_speed h_place h_payer h_dishName h_cost v_chairs v_guests v_dishes, aJ cJ h_guestName 7 (va_cpy v_a0_guestName v_guestName 0 0 7), aI cI h_coins 7 (va_cpy v_a0_coins v_coins 0 0 7), aI cI h_pride 7 (va_cpy v_a0_pride v_pride 0 0 7), aI cI h_speed 7 (va_cpy v_a0_speed v_speed 0 0 7), aI cI h_place 7 (va_cpy v_a0_place v_place 0 0 7), aI cI h_payer 7 (va_cpy v_a0_payer v_payer 0 0 7), aJ cJ h_dishName 6 (va_cpy v_a0_dishName v_dishName 0 0 6), aI cI h_cost 6 (va_cpy v_a0_cost v_cost 0 0 6), oX2 h_a0 h_a0_guestName h_a0_coins h_a0_pride h_a0_speed h_a0_place h_a0_payer h_a0_dishName h_a0_cost v_a0_chairs v_a0_guests v_a0_dishes, aJ cJ h_a0_guestName 7 v_a0_guestName, aI cI h_a0_coins 7 v_a0_coins, aI cI h_a0_pride 7 v_a0_pride, aI cI h_a0_speed 7 v_a0_speed, aI cI h_a0_place 7 v_a0_place, aI cI h_a0_payer 7 v_a0_payer, aJ cJ h_a0_dishName 6 v_a0_dishName, aI cI h_a0_cost 6 v_a0_cost] := hD
  refine lv_aload_n hx hb dX2_copyFrom_120 rfl (lv_at hl 0 rfl) ?_
  refine z_pc (pc' := 121) rfl ?_
  refine lv_aload_n hx hb dX2_copyFrom_121 rfl (lv_at hl 1 rfl) ?_
  refine va_get (D := (dC, dI)) (ci := 2) (v := .int v_a0_chairs) (C := RX2) (T := TX2) (N := 11) hx hb hts (fun w h => List.mem_cons_of_mem _ (inU_2 w h)) hown hK hP 9 rfl rfl 8 (by decide) (hts _ (List.mem_cons_of_mem _ U_138)) (fun _ h9 => h9) rfl dX2_copyFrom_122 ?_
  refine va_put (D := (dC, dI)) (ci := 2) (v := .int v_a0_chairs) (ty := .int) (C := RX2) (T := TX2) (N := 11) hx hb hts (fun w h => List.mem_cons_of_mem _ (inU_2 w h)) tyX2 tyX2_ok nmX2 hown hK hP hD hS 0 rfl rfl 8 (by decide) (hts _ (List.mem_cons_of_mem _ U_138)) (fun _ h9 => h9) rfl (by decide +kernel) rfl rfl (Nat.le_of_ble_eq_true rfl) dX2_copyFrom_125 (fun H locs hP hD hS => ?_)
  have hP : va_P (dC, dI) vwCl [oX2 h_this h_guestName h_coins h_pride h_speed h_place h_payer h_dishName h_cost v_a0_chairs v_guests v_dishes, aJ cJ h_guestName 7 (va_cpy v_a0_guestName v_guestName 0 0 7), aI cI h_coins 7 (va_cpy v_a0_coins v_coins 0 0 7), aI cI h_pride 7 (va_cpy v_a0_pride v_pride 0 0 7), aI cI h_speed 7 (va_cpy v_a0_speed v_speed 0 0 7), aI cI h_place 7 (va_cpy v_a0_place v_place 0 0 7), aI cI h_payer 7 (va_cpy v_a0_payer v_payer 0 0 7), aJ cJ h_dishName 6 (va_cpy v_a0_dishName v_dishName 0 0 6), aI cI h_cost 6 (va_cpy v_a0_cost v_cost 0 0 6), oX2 h_a0 h_a0_guestName h_a0_coins h_a0_pride h_a0_speed h_a0_place h_a0_payer h_a0_dishName h_a0_cost v_a0_chairs v_a0_guests v_a0_dishes, aJ cJ h_a0_guestName 7 v_a0_guestName, aI cI h_a0_coins 7 v_a0_coins, aI cI h_a0_pride 7 v_a0_pride, aI cI h_a0_speed 7 v_a0_speed, aI cI h_a0_place 7 v_a0_place, aI cI h_a0_payer 7 v_a0_payer, aJ cJ h_a0_dishName 6 v_a0_dishName, aI cI h_a0_cost 6 v_a0_cost] H := hP
  have hD : va_D A [oX2 h_this h_guestName h_coins h_pride h_speed h_place h_payer h_dishName h_cost v_a0_chairs v_guests v_dishes, aJ cJ h_guestName 7 (va_cpy v_a0_guestName v_guestName 0 0 7), aI cI h_coins 7 (va_cpy v_a0_coins v_coins 0 0 7), aI cI h_pride 7 (va_cpy v_a0_pride v_pride 0 0 7), aI cI h_speed 7 (va_cpy v_a0_speed v_speed 0 0 7), aI cI h_place 7 (va_cpy v_a0_place v_place 0 0 7), aI cI h_payer 7 (va_cpy v_a0_payer v_payer 0 0 7), aJ cJ h_dishName 6 (va_cpy v_a0_dishName v_dishName 0 0 6), aI cI h_cost 6 (va_cpy v_a0_cost v_cost 0 0 6), oX2 h_a0 h_a0_guestName h_a0_coins h_a0_pride h_a0_speed h_a0_place h_a0_payer h_a0_dishName h_a0_cost v_a0_chairs v_a0_guests v_a0_dishes, aJ cJ h_a0_guestName 7 v_a0_guestName, aI cI h_a0_coins 7 v_a0_coins, aI cI h_a0_pride 7 v_a0_pride, aI cI h_a0_speed 7 v_a0_speed, aI cI h_a0_place 7 v_a0_place, aI cI h_a0_payer 7 v_a0_payer, aJ cJ h_a0_dishName 6 v_a0_dishName, aI cI h_a0_cost 6 v_a0_cost] := hD
  refine lv_aload_n hx hb dX2_copyFrom_128 rfl (lv_at hl 0 rfl) ?_
  refine lv_aload_n hx hb dX2_copyFrom_129 rfl (lv_at hl 1 rfl) ?_
  refine va_get (D := (dC, dI)) (ci := 2) (v := .int v_a0_guests) (C := RX2) (T := TX2) (N := 11) hx hb hts (fun w h => List.mem_cons_of_mem _ (inU_2 w h)) hown hK hP 9 rfl rfl 9 (by decide) (hts _ (List.mem_cons_of_mem _ U_355)) (fun _ h9 => h9) rfl dX2_copyFrom_130 ?_
  refine z_pc (pc' := 133) rfl ?_
  refine va_put (D := (dC, dI)) (ci := 2) (v := .int v_a0_guests) (ty := .int) (C := RX2) (T := TX2) (N := 11) hx hb hts (fun w h => List.mem_cons_of_mem _ (inU_2 w h)) tyX2 tyX2_ok nmX2 hown hK hP hD hS 0 rfl rfl 9 (by decide) (hts _ (List.mem_cons_of_mem _ U_355)) (fun _ h9 => h9) rfl (by decide +kernel) rfl rfl (Nat.le_of_ble_eq_true rfl) dX2_copyFrom_133 (fun H locs hP hD hS => ?_)
  have hP : va_P (dC, dI) vwCl [oX2 h_this h_guestName h_coins h_pride h_speed h_place h_payer h_dishName h_cost v_a0_chairs v_a0_guests v_dishes, aJ cJ h_guestName 7 (va_cpy v_a0_guestName v_guestName 0 0 7), aI cI h_coins 7 (va_cpy v_a0_coins v_coins 0 0 7), aI cI h_pride 7 (va_cpy v_a0_pride v_pride 0 0 7), aI cI h_speed 7 (va_cpy v_a0_speed v_speed 0 0 7), aI cI h_place 7 (va_cpy v_a0_place v_place 0 0 7), aI cI h_payer 7 (va_cpy v_a0_payer v_payer 0 0 7), aJ cJ h_dishName 6 (va_cpy v_a0_dishName v_dishName 0 0 6), aI cI h_cost 6 (va_cpy v_a0_cost v_cost 0 0 6), oX2 h_a0 h_a0_guestName h_a0_coins h_a0_pride h_a0_speed h_a0_place h_a0_payer h_a0_dishName h_a0_cost v_a0_chairs v_a0_guests v_a0_dishes, aJ cJ h_a0_guestName 7 v_a0_guestName, aI cI h_a0_coins 7 v_a0_coins, aI cI h_a0_pride 7 v_a0_pride, aI cI h_a0_speed 7 v_a0_speed, aI cI h_a0_place 7 v_a0_place, aI cI h_a0_payer 7 v_a0_payer, aJ cJ h_a0_dishName 6 v_a0_dishName, aI cI h_a0_cost 6 v_a0_cost] H := hP
  have hD : va_D A [oX2 h_this h_guestName h_coins h_pride h_speed h_place h_payer h_dishName h_cost v_a0_chairs v_a0_guests v_dishes, aJ cJ h_guestName 7 (va_cpy v_a0_guestName v_guestName 0 0 7), aI cI h_coins 7 (va_cpy v_a0_coins v_coins 0 0 7), aI cI h_pride 7 (va_cpy v_a0_pride v_pride 0 0 7), aI cI h_speed 7 (va_cpy v_a0_speed v_speed 0 0 7), aI cI h_place 7 (va_cpy v_a0_place v_place 0 0 7), aI cI h_payer 7 (va_cpy v_a0_payer v_payer 0 0 7), aJ cJ h_dishName 6 (va_cpy v_a0_dishName v_dishName 0 0 6), aI cI h_cost 6 (va_cpy v_a0_cost v_cost 0 0 6), oX2 h_a0 h_a0_guestName h_a0_coins h_a0_pride h_a0_speed h_a0_place h_a0_payer h_a0_dishName h_a0_cost v_a0_chairs v_a0_guests v_a0_dishes, aJ cJ h_a0_guestName 7 v_a0_guestName, aI cI h_a0_coins 7 v_a0_coins, aI cI h_a0_pride 7 v_a0_pride, aI cI h_a0_speed 7 v_a0_speed, aI cI h_a0_place 7 v_a0_place, aI cI h_a0_payer 7 v_a0_payer, aJ cJ h_a0_dishName 6 v_a0_dishName, aI cI h_a0_cost 6 v_a0_cost] := hD
  refine lv_aload_n hx hb dX2_copyFrom_136 rfl (lv_at hl 0 rfl) ?_
  refine lv_aload_n hx hb dX2_copyFrom_137 rfl (lv_at hl 1 rfl) ?_
  refine va_get (D := (dC, dI)) (ci := 2) (v := .int v_a0_dishes) (C := RX2) (T := TX2) (N := 11) hx hb hts (fun w h => List.mem_cons_of_mem _ (inU_2 w h)) hown hK hP 9 rfl rfl 10 (by decide) (hts _ (List.mem_cons_of_mem _ U_356)) (fun _ h9 => h9) rfl dX2_copyFrom_138 ?_
  refine va_put (D := (dC, dI)) (ci := 2) (v := .int v_a0_dishes) (ty := .int) (C := RX2) (T := TX2) (N := 11) hx hb hts (fun w h => List.mem_cons_of_mem _ (inU_2 w h)) tyX2 tyX2_ok nmX2 hown hK hP hD hS 0 rfl rfl 10 (by decide) (hts _ (List.mem_cons_of_mem _ U_356)) (fun _ h9 => h9) rfl (by decide +kernel) rfl rfl (Nat.le_of_ble_eq_true rfl) dX2_copyFrom_141 (fun H locs hP hD hS => ?_)
  have hP : va_P (dC, dI) vwCl [oX2 h_this h_guestName h_coins h_pride h_speed h_place h_payer h_dishName h_cost v_a0_chairs v_a0_guests v_a0_dishes, aJ cJ h_guestName 7 (va_cpy v_a0_guestName v_guestName 0 0 7), aI cI h_coins 7 (va_cpy v_a0_coins v_coins 0 0 7), aI cI h_pride 7 (va_cpy v_a0_pride v_pride 0 0 7), aI cI h_speed 7 (va_cpy v_a0_speed v_speed 0 0 7), aI cI h_place 7 (va_cpy v_a0_place v_place 0 0 7), aI cI h_payer 7 (va_cpy v_a0_payer v_payer 0 0 7), aJ cJ h_dishName 6 (va_cpy v_a0_dishName v_dishName 0 0 6), aI cI h_cost 6 (va_cpy v_a0_cost v_cost 0 0 6), oX2 h_a0 h_a0_guestName h_a0_coins h_a0_pride h_a0_speed h_a0_place h_a0_payer h_a0_dishName h_a0_cost v_a0_chairs v_a0_guests v_a0_dishes, aJ cJ h_a0_guestName 7 v_a0_guestName, aI cI h_a0_coins 7 v_a0_coins, aI cI h_a0_pride 7 v_a0_pride, aI cI h_a0_speed 7 v_a0_speed, aI cI h_a0_place 7 v_a0_place, aI cI h_a0_payer 7 v_a0_payer, aJ cJ h_a0_dishName 6 v_a0_dishName, aI cI h_a0_cost 6 v_a0_cost] H := hP
  have hD : va_D A [oX2 h_this h_guestName h_coins h_pride h_speed h_place h_payer h_dishName h_cost v_a0_chairs v_a0_guests v_a0_dishes, aJ cJ h_guestName 7 (va_cpy v_a0_guestName v_guestName 0 0 7), aI cI h_coins 7 (va_cpy v_a0_coins v_coins 0 0 7), aI cI h_pride 7 (va_cpy v_a0_pride v_pride 0 0 7), aI cI h_speed 7 (va_cpy v_a0_speed v_speed 0 0 7), aI cI h_place 7 (va_cpy v_a0_place v_place 0 0 7), aI cI h_payer 7 (va_cpy v_a0_payer v_payer 0 0 7), aJ cJ h_dishName 6 (va_cpy v_a0_dishName v_dishName 0 0 6), aI cI h_cost 6 (va_cpy v_a0_cost v_cost 0 0 6), oX2 h_a0 h_a0_guestName h_a0_coins h_a0_pride h_a0_speed h_a0_place h_a0_payer h_a0_dishName h_a0_cost v_a0_chairs v_a0_guests v_a0_dishes, aJ cJ h_a0_guestName 7 v_a0_guestName, aI cI h_a0_coins 7 v_a0_coins, aI cI h_a0_pride 7 v_a0_pride, aI cI h_a0_speed 7 v_a0_speed, aI cI h_a0_place 7 v_a0_place, aI cI h_a0_payer 7 v_a0_payer, aJ cJ h_a0_dishName 6 v_a0_dishName, aI cI h_a0_cost 6 v_a0_cost] := hD
  have q0 := Option.some.inj hr
  obtain ⟨e0, q1⟩ := Prod.mk.inj q0
  obtain ⟨e1, q2⟩ := Prod.mk.inj q1
  obtain ⟨e2, q3⟩ := Prod.mk.inj q2
  obtain ⟨e3, q4⟩ := Prod.mk.inj q3
  obtain ⟨e4, q5⟩ := Prod.mk.inj q4
  obtain ⟨e5, q6⟩ := Prod.mk.inj q5
  obtain ⟨e6, q7⟩ := Prod.mk.inj q6
  obtain ⟨e7, q8⟩ := Prod.mk.inj q7
  obtain ⟨e8, q9⟩ := Prod.mk.inj q8
  obtain ⟨e9, q10⟩ := Prod.mk.inj q9
  subst e0; subst e1; subst e2; subst e3; subst e4; subst e5; subst e6; subst e7; subst e8; subst e9; subst q10
  exact W.vret hx hb hrt (fun t ht hW => ⟨⟨(), rfl, trivial, by rw [ht]; exact hP, va_K.moved hW.alike hK, hD⟩, hS.F ht⟩) hS.2.2 dX2_copyFrom_144 hlocks
set_option maxHeartbeats 4000000 in
set_option maxRecDepth 100000 in
theorem mX2_copyFrom (l : Launch) (dC : Nat → ClassId) (dI : Nat → Nat → Nat) (cI cJ cB cZ cF cG : ClassId) (h_this : Nat) (h_guestName : Nat) (h_coins : Nat) (h_pride : Nat) (h_speed : Nat) (h_place : Nat) (h_payer : Nat) (h_dishName : Nat) (h_cost : Nat) (h_a0 : Nat) (h_a0_guestName : Nat) (h_a0_coins : Nat) (h_a0_pride : Nat) (h_a0_speed : Nat) (h_a0_place : Nat) (h_a0_payer : Nat) (h_a0_dishName : Nat) (h_a0_cost : Nat) (sz : Nat) (v_chairs : Int32) (v_guests : Int32) (v_dishes : Int32) (v_guestName : Nat → Int64) (v_coins : Nat → Int32) (v_pride : Nat → Int32) (v_speed : Nat → Int32) (v_place : Nat → Int32) (v_payer : Nat → Int32) (v_dishName : Nat → Int64) (v_cost : Nat → Int32) (v_a0_chairs : Int32) (v_a0_guests : Int32) (v_a0_dishes : Int32) (v_a0_guestName : Nat → Int64) (v_a0_coins : Nat → Int32) (v_a0_pride : Nat → Int32) (v_a0_speed : Nat → Int32) (v_a0_place : Nat → Int32) (v_a0_payer : Nat → Int32) (v_a0_dishName : Nat → Int64) (v_a0_cost : Nat → Int32) (o_chairs : Int32) (o_guests : Int32) (o_dishes : Int32) (o_guestName : Nat → Int64) (o_coins : Nat → Int32) (o_pride : Nat → Int32) (o_speed : Nat → Int32) (o_place : Nat → Int32) (o_payer : Nat → Int32) (o_dishName : Nat → Int64) (o_cost : Nat → Int32) (hf : fX2_copyFrom v_a0_chairs v_a0_guests v_a0_dishes v_a0_guestName v_a0_coins v_a0_pride v_a0_speed v_a0_place v_a0_payer v_a0_dishName v_a0_cost v_chairs v_guests v_dishes v_guestName v_coins v_pride v_speed v_place v_payer v_dishName v_cost = some (o_chairs, o_guests, o_dishes, o_guestName, o_coins, o_pride, o_speed, o_place, o_payer, o_dishName, o_cost)) : Met l yX2_copyFrom uX2_copyFrom ({ frames := 1, cells := 0, slots := 0, locals := 60 }) (va_Pc [.ref h_this, .ref h_a0] (fun U => U.heap.size = sz ∧ va_P (dC, dI) vwCl [oX2 h_this h_guestName h_coins h_pride h_speed h_place h_payer h_dishName h_cost v_chairs v_guests v_dishes, aJ cJ h_guestName 7 v_guestName, aI cI h_coins 7 v_coins, aI cI h_pride 7 v_pride, aI cI h_speed 7 v_speed, aI cI h_place 7 v_place, aI cI h_payer 7 v_payer, aJ cJ h_dishName 6 v_dishName, aI cI h_cost 6 v_cost, oX2 h_a0 h_a0_guestName h_a0_coins h_a0_pride h_a0_speed h_a0_place h_a0_payer h_a0_dishName h_a0_cost v_a0_chairs v_a0_guests v_a0_dishes, aJ cJ h_a0_guestName 7 v_a0_guestName, aI cI h_a0_coins 7 v_a0_coins, aI cI h_a0_pride 7 v_a0_pride, aI cI h_a0_speed 7 v_a0_speed, aI cI h_a0_place 7 v_a0_place, aI cI h_a0_payer 7 v_a0_payer, aJ cJ h_a0_dishName 6 v_a0_dishName, aI cI h_a0_cost 6 v_a0_cost] U.heap ∧ va_K (dC, dI) vwCl (TYS cI cJ cB cZ cF cG) U ∧ va_D (fun _ => True) [oX2 h_this h_guestName h_coins h_pride h_speed h_place h_payer h_dishName h_cost v_chairs v_guests v_dishes, aJ cJ h_guestName 7 v_guestName, aI cI h_coins 7 v_coins, aI cI h_pride 7 v_pride, aI cI h_speed 7 v_speed, aI cI h_place 7 v_place, aI cI h_payer 7 v_payer, aJ cJ h_dishName 6 v_dishName, aI cI h_cost 6 v_cost, oX2 h_a0 h_a0_guestName h_a0_coins h_a0_pride h_a0_speed h_a0_place h_a0_payer h_a0_dishName h_a0_cost v_a0_chairs v_a0_guests v_a0_dishes, aJ cJ h_a0_guestName 7 v_a0_guestName, aI cI h_a0_coins 7 v_a0_coins, aI cI h_a0_pride 7 v_a0_pride, aI cI h_a0_speed 7 v_a0_speed, aI cI h_a0_place 7 v_a0_place, aI cI h_a0_payer 7 v_a0_payer, aJ cJ h_a0_dishName 6 v_a0_dishName, aI cI h_a0_cost 6 v_a0_cost])) (PQv dC dI cI cJ cB cZ cF cG (va_A [oX2 h_this h_guestName h_coins h_pride h_speed h_place h_payer h_dishName h_cost v_chairs v_guests v_dishes, aJ cJ h_guestName 7 v_guestName, aI cI h_coins 7 v_coins, aI cI h_pride 7 v_pride, aI cI h_speed 7 v_speed, aI cI h_place 7 v_place, aI cI h_payer 7 v_payer, aJ cJ h_dishName 6 v_dishName, aI cI h_cost 6 v_cost, oX2 h_a0 h_a0_guestName h_a0_coins h_a0_pride h_a0_speed h_a0_place h_a0_payer h_a0_dishName h_a0_cost v_a0_chairs v_a0_guests v_a0_dishes, aJ cJ h_a0_guestName 7 v_a0_guestName, aI cI h_a0_coins 7 v_a0_coins, aI cI h_a0_pride 7 v_a0_pride, aI cI h_a0_speed 7 v_a0_speed, aI cI h_a0_place 7 v_a0_place, aI cI h_a0_payer 7 v_a0_payer, aJ cJ h_a0_dishName 6 v_a0_dishName, aI cI h_a0_cost 6 v_a0_cost] sz) [oX2 h_this h_guestName h_coins h_pride h_speed h_place h_payer h_dishName h_cost o_chairs o_guests o_dishes, aJ cJ h_guestName 7 o_guestName, aI cI h_coins 7 o_coins, aI cI h_pride 7 o_pride, aI cI h_speed 7 o_speed, aI cI h_place 7 o_place, aI cI h_payer 7 o_payer, aJ cJ h_dishName 6 o_dishName, aI cI h_cost 6 o_cost, oX2 h_a0 h_a0_guestName h_a0_coins h_a0_pride h_a0_speed h_a0_place h_a0_payer h_a0_dishName h_a0_cost v_a0_chairs v_a0_guests v_a0_dishes, aJ cJ h_a0_guestName 7 v_a0_guestName, aI cI h_a0_coins 7 v_a0_coins, aI cI h_a0_pride 7 v_a0_pride, aI cI h_a0_speed 7 v_a0_speed, aI cI h_a0_place 7 v_a0_place, aI cI h_a0_payer 7 v_a0_payer, aJ cJ h_a0_dishName 6 v_a0_dishName, aI cI h_a0_cost 6 v_a0_cost]) 0 0 (va_A [oX2 h_this h_guestName h_coins h_pride h_speed h_place h_payer h_dishName h_cost v_chairs v_guests v_dishes, aJ cJ h_guestName 7 v_guestName, aI cI h_coins 7 v_coins, aI cI h_pride 7 v_pride, aI cI h_speed 7 v_speed, aI cI h_place 7 v_place, aI cI h_payer 7 v_payer, aJ cJ h_dishName 6 v_dishName, aI cI h_cost 6 v_cost, oX2 h_a0 h_a0_guestName h_a0_coins h_a0_pride h_a0_speed h_a0_place h_a0_payer h_a0_dishName h_a0_cost v_a0_chairs v_a0_guests v_a0_dishes, aJ cJ h_a0_guestName 7 v_a0_guestName, aI cI h_a0_coins 7 v_a0_coins, aI cI h_a0_pride 7 v_a0_pride, aI cI h_a0_speed 7 v_a0_speed, aI cI h_a0_place 7 v_a0_place, aI cI h_a0_payer 7 v_a0_payer, aJ cJ h_a0_dishName 6 v_a0_dishName, aI cI h_a0_cost 6 v_a0_cost] sz) := by
  refine Met.ofW (cc := cX2_copyFrom) (maxL := 2) (ret := none) (by decide) rfl ?_
  intro p e s m args below meth c s₁ B hml hv
  obtain ⟨rfl, hsz, hP, hK, hD0⟩ := hv
  have hx := B.exec
  have hb := B.bytes
  have hr := B.returns
  have hts := atoms_spec (ws := uX2_copyFrom) B.pre
  have hown : s.vm.findClass RX2 = some m.cls := findClass_of_methodNamed B.named
  have hlocks := B.notSynchronized
  subst hsz
  have hD := hD0.self (sz := s.heap.size)
  generalize hAe : va_A [oX2 h_this h_guestName h_coins h_pride h_speed h_place h_payer h_dishName h_cost v_chairs v_guests v_dishes, aJ cJ h_guestName 7 v_guestName, aI cI h_coins 7 v_coins, aI cI h_pride 7 v_pride, aI cI h_speed 7 v_speed, aI cI h_place 7 v_place, aI cI h_payer 7 v_payer, aJ cJ h_dishName 6 v_dishName, aI cI h_cost 6 v_cost, oX2 h_a0 h_a0_guestName h_a0_coins h_a0_pride h_a0_speed h_a0_place h_a0_payer h_a0_dishName h_a0_cost v_a0_chairs v_a0_guests v_a0_dishes, aJ cJ h_a0_guestName 7 v_a0_guestName, aI cI h_a0_coins 7 v_a0_coins, aI cI h_a0_pride 7 v_a0_pride, aI cI h_a0_speed 7 v_a0_speed, aI cI h_a0_place 7 v_a0_place, aI cI h_a0_payer 7 v_a0_payer, aJ cJ h_a0_dishName 6 v_a0_dishName, aI cI h_a0_cost 6 v_a0_cost] s.heap.size = A at hD ⊢
  have hA : ∀ q : Nat, s.heap.size ≤ q → A q := fun q h => by rw [← hAe]; exact Or.inr h
  have hS : va_S A s.heap s.heap [] := va_S.rf
  have hl := lv_entry ([.ref h_this, .ref h_a0]) (n := 2) (Nat.le_of_ble_eq_true rfl)
  rw [lg_entry_eq]
  generalize (lg_sl ([.ref h_this, .ref h_a0]) ++ List.replicate (2 - (lg_sl ([.ref h_this, .ref h_a0])).length) Slot.unset).toArray = ls at hl ⊢
  have hl : lv_has ls 2 [(0, .ref h_this), (1, .ref h_a0)] := hl
  exact tX2_copyFrom hA ⟨hx, hb, hr, hml, hown, hts, hlocks⟩ ⟨Nat.le_refl _, Nat.le_refl _⟩ h_this h_guestName h_coins h_pride h_speed h_place h_payer h_dishName h_cost h_a0 h_a0_guestName h_a0_coins h_a0_pride h_a0_speed h_a0_place h_a0_payer h_a0_dishName h_a0_cost v_a0_chairs v_a0_guests v_a0_dishes v_a0_guestName v_a0_coins v_a0_pride v_a0_speed v_a0_place v_a0_payer v_a0_dishName v_a0_cost o_chairs o_guests o_dishes o_guestName o_coins o_pride o_speed o_place o_payer o_dishName o_cost v_chairs v_guests v_dishes v_guestName v_coins v_pride v_speed v_place v_payer v_dishName v_cost hf _ _ ⟨hK, hP, hD, hS⟩ ls hl
-- LastSeat$Hall.hasGuest(I)Z
def uX2_hasGuest : List Cond := .code yX2_hasGuest cX2_hasGuest 2 (some .boolean) :: wsU
set_option maxHeartbeats 4000000 in
set_option maxRecDepth 100000 in
theorem tX2_hasGuest {p : Program} {l : Launch} {e : Env} {R : Room} {s : State} {m : MethodId} {args : Array Value} {below : List Frame} {meth : Method} {c : Code} {dC : Nat → ClassId} {dI : Nat → Nat → Nat} {cI cJ cB cZ cF cG : ClassId} {A : Nat → Prop} (hA : ∀ q : Nat, s.heap.size ≤ q → A q) (C0 : Cx p s m meth c args cX2_hasGuest 2 (some .boolean) RX2 uX2_hasGuest) (hR : 0 ≤ R.frames ∧ 0 ≤ R.locals) (h_this : Nat) (h_guestName : Nat) (h_coins : Nat) (h_pride : Nat) (h_speed : Nat) (h_place : Nat) (h_payer : Nat) (h_dishName : Nat) (h_cost : Nat) (v_chairs : Int32) (v_guests : Int32) (v_dishes : Int32) (o_r : Int32) :
    ∀ (x1 : Int32), fX2_hasGuest v_guests x1 = some o_r → ∀ (H : Heap) (locs : List Loc), Wd dC dI cI cJ cB cZ cF cG A s H locs [oX2 h_this h_guestName h_coins h_pride h_speed h_place h_payer h_dishName h_cost v_chairs v_guests v_dishes] → ∀ (ls : Array Slot), lv_has ls 2 [(0, .ref h_this), (1, .int x1)] → W p l e R s m args below meth c H locs 0 0 (MQ below (PQz dC dI cI cJ cB cZ cF cG A o_r [oX2 h_this h_guestName h_coins h_pride h_speed h_place h_payer h_dishName h_cost v_chairs v_guests v_dishes]) args s 0 0 A) (F0 m 0 ls []) := by
  obtain ⟨hx, hb, hrt, hml, hown, hts, hlocks⟩ := id C0
  intro x1 hr H locs hW ls hl
  obtain ⟨hK, hP, hD, hS⟩ := hW
  have hr : (if x1 < 0 then some 0 else if v_guests ≤ x1 then some 0 else some 1 : Option (Int32)) = some o_r := hr
  refine lv_iload_n hx hb dX2_hasGuest_0 rfl (lv_at hl 1 rfl) ?_
  refine lv_if_lt (tgt := 16) hx hb dX2_hasGuest_1 (by decide) (fun hc => ?_) (fun hc => ?_)
  · have hr := iteP hc hr
    refine lv_iconst (v := 0) hx hb dX2_hasGuest_16 (by decide) ?_
    have q0 := Option.some.inj hr
    subst q0
    exact W.zret (v := 0) hx hb hrt rfl (fun t ht hW => ⟨⟨0, (), rfl, ⟨rfl, rfl⟩, by rw [ht]; exact hP, va_K.moved hW.alike hK, hD⟩, hS.F ht⟩) hS.2.2 dX2_hasGuest_17 hlocks
  · have hr := iteN hc hr
    refine lv_iload_n hx hb dX2_hasGuest_4 rfl (lv_at hl 1 rfl) ?_
    refine lv_aload_n hx hb dX2_hasGuest_5 rfl (lv_at hl 0 rfl) ?_
    refine va_get (D := (dC, dI)) (ci := 2) (v := .int v_guests) (C := RX2) (T := TX2) (N := 11) hx hb hts (fun w h => List.mem_cons_of_mem _ (inU_2 w h)) hown hK hP 0 rfl rfl 9 (by decide) (hts _ (List.mem_cons_of_mem _ U_355)) (fun _ h9 => h9) rfl dX2_hasGuest_6 ?_
    refine lv_icmp_ge (tgt := 16) hx hb dX2_hasGuest_9 (by decide) (fun hc => ?_) (fun hc => ?_)
    · have hr := iteP hc hr
      refine lv_iconst (v := 0) hx hb dX2_hasGuest_16 (by decide) ?_
      have q0 := Option.some.inj hr
      subst q0
      exact W.zret (v := 0) hx hb hrt rfl (fun t ht hW => ⟨⟨0, (), rfl, ⟨rfl, rfl⟩, by rw [ht]; exact hP, va_K.moved hW.alike hK, hD⟩, hS.F ht⟩) hS.2.2 dX2_hasGuest_17 hlocks
    · have hr := iteN hc hr
      refine lv_iconst (v := 1) hx hb dX2_hasGuest_12 (by decide) ?_
      refine lv_goto (tgt := 17) hx hb dX2_hasGuest_13 (by decide) ?_
      have q0 := Option.some.inj hr
      subst q0
      exact W.zret (v := 1) hx hb hrt rfl (fun t ht hW => ⟨⟨1, (), rfl, ⟨rfl, rfl⟩, by rw [ht]; exact hP, va_K.moved hW.alike hK, hD⟩, hS.F ht⟩) hS.2.2 dX2_hasGuest_17 hlocks
set_option maxHeartbeats 4000000 in
set_option maxRecDepth 100000 in
theorem mX2_hasGuest (l : Launch) (dC : Nat → ClassId) (dI : Nat → Nat → Nat) (cI cJ cB cZ cF cG : ClassId) (h_this : Nat) (h_guestName : Nat) (h_coins : Nat) (h_pride : Nat) (h_speed : Nat) (h_place : Nat) (h_payer : Nat) (h_dishName : Nat) (h_cost : Nat) (sz : Nat) (v_chairs : Int32) (v_guests : Int32) (v_dishes : Int32) (x1 : Int32) (o_r : Int32) (hf : fX2_hasGuest v_guests x1 = some o_r) : Met l yX2_hasGuest uX2_hasGuest ({ frames := 0, cells := 0, slots := 0, locals := 0 }) (va_Pc [.ref h_this, .int x1] (fun U => U.heap.size = sz ∧ va_P (dC, dI) vwCl [oX2 h_this h_guestName h_coins h_pride h_speed h_place h_payer h_dishName h_cost v_chairs v_guests v_dishes] U.heap ∧ va_K (dC, dI) vwCl (TYS cI cJ cB cZ cF cG) U ∧ va_D (fun _ => True) [oX2 h_this h_guestName h_coins h_pride h_speed h_place h_payer h_dishName h_cost v_chairs v_guests v_dishes])) (PQz dC dI cI cJ cB cZ cF cG (va_A [oX2 h_this h_guestName h_coins h_pride h_speed h_place h_payer h_dishName h_cost v_chairs v_guests v_dishes] sz) o_r [oX2 h_this h_guestName h_coins h_pride h_speed h_place h_payer h_dishName h_cost v_chairs v_guests v_dishes]) 0 0 (va_A [oX2 h_this h_guestName h_coins h_pride h_speed h_place h_payer h_dishName h_cost v_chairs v_guests v_dishes] sz) := by
  refine Met.ofW (cc := cX2_hasGuest) (maxL := 2) (ret := (some .boolean)) (by decide) rfl ?_
  intro p e s m args below meth c s₁ B hml hv
  obtain ⟨rfl, hsz, hP, hK, hD0⟩ := hv
  have hx := B.exec
  have hb := B.bytes
  have hr := B.returns
  have hts := atoms_spec (ws := uX2_hasGuest) B.pre
  have hown : s.vm.findClass RX2 = some m.cls := findClass_of_methodNamed B.named
  have hlocks := B.notSynchronized
  subst hsz
  have hD := hD0.self (sz := s.heap.size)
  generalize hAe : va_A [oX2 h_this h_guestName h_coins h_pride h_speed h_place h_payer h_dishName h_cost v_chairs v_guests v_dishes] s.heap.size = A at hD ⊢
  have hA : ∀ q : Nat, s.heap.size ≤ q → A q := fun q h => by rw [← hAe]; exact Or.inr h
  have hS : va_S A s.heap s.heap [] := va_S.rf
  have hl := lv_entry ([.ref h_this, .int x1]) (n := 2) (Nat.le_of_ble_eq_true rfl)
  rw [lg_entry_eq]
  generalize (lg_sl ([.ref h_this, .int x1]) ++ List.replicate (2 - (lg_sl ([.ref h_this, .int x1])).length) Slot.unset).toArray = ls at hl ⊢
  have hl : lv_has ls 2 [(0, .ref h_this), (1, .int x1)] := hl
  exact tX2_hasGuest hA ⟨hx, hb, hr, hml, hown, hts, hlocks⟩ ⟨Nat.le_refl _, Nat.le_refl _⟩ h_this h_guestName h_coins h_pride h_speed h_place h_payer h_dishName h_cost v_chairs v_guests v_dishes o_r x1 hf _ _ ⟨hK, hP, hD, hS⟩ ls hl
-- LastSeat$Hall.guestNamed(J)I
def uX2_guestNamed : List Cond := .code yX2_guestNamed cX2_guestNamed 4 (some .int) :: wsU
set_option maxHeartbeats 4000000 in
set_option maxRecDepth 100000 in
theorem tX2_guestNamed_2 {p : Program} {l : Launch} {e : Env} {R : Room} {s : State} {m : MethodId} {args : Array Value} {below : List Frame} {meth : Method} {c : Code} {dC : Nat → ClassId} {dI : Nat → Nat → Nat} {cI cJ cB cZ cF cG : ClassId} {A : Nat → Prop} (hA : ∀ q : Nat, s.heap.size ≤ q → A q) (C0 : Cx p s m meth c args cX2_guestNamed 4 (some .int) RX2 uX2_guestNamed) (hR : 0 ≤ R.frames ∧ 0 ≤ R.locals) (h_this : Nat) (h_guestName : Nat) (h_coins : Nat) (h_pride : Nat) (h_speed : Nat) (h_place : Nat) (h_payer : Nat) (h_dishName : Nat) (h_cost : Nat) (v_chairs : Int32) (v_guests : Int32) (v_dishes : Int32) (v_guestName : Nat → Int64) (o_r : Int32) :
    ∀ n : Nat, ∀ (x1 : Int64) (x3 : Int32), lX2_guestNamed_2 v_guests v_guestName n x1 x3 = some o_r → ∀ (H : Heap) (locs : List Loc), Wd dC dI cI cJ cB cZ cF cG A s H locs [oX2 h_this h_guestName h_coins h_pride h_speed h_place h_payer h_dishName h_cost v_chairs v_guests v_dishes, aJ cJ h_guestName 7 v_guestName] → ∀ (ls : Array Slot), lv_has ls 4 [(0, .ref h_this), (1, .long x1), (3, .int x3)] → W p l e R s m args below meth c H locs 0 0 (MQ below (PQi dC dI cI cJ cB cZ cF cG A o_r [oX2 h_this h_guestName h_coins h_pride h_speed h_place h_payer h_dishName h_cost v_chairs v_guests v_dishes, aJ cJ h_guestName 7 v_guestName]) args s 0 0 A) (F0 m 2 ls []) := by
  obtain ⟨hx, hb, hrt, hml, hown, hts, hlocks⟩ := id C0
  intro n
  induction n with
  | zero =>
    intro x1 x3 hr
    exact nomatch (show (none : Option (Int32)) = some _ from hr)
  | succ n ih =>
    intro x1 x3 hr H locs hW ls hl
    obtain ⟨hK, hP, hD, hS⟩ := hW
    have hr : (if v_guests ≤ x3 then some (-1) else gI x3 7 (if (lg_cmp (v_guestName (Int32.toNatClampNeg x3)) x1) = 0 then some x3 else lX2_guestNamed_2 v_guests v_guestName n x1 (x3 + 1)) : Option (Int32)) = some o_r := hr
    refine lv_iload_n hx hb dX2_guestNamed_2 rfl (lv_at hl 2 rfl) ?_
    refine lv_aload_n hx hb dX2_guestNamed_3 rfl (lv_at hl 0 rfl) ?_
    refine va_get (D := (dC, dI)) (ci := 2) (v := .int v_guests) (C := RX2) (T := TX2) (N := 11) hx hb hts (fun w h => List.mem_cons_of_mem _ (inU_2 w h)) hown hK hP 0 rfl rfl 9 (by decide) (hts _ (List.mem_cons_of_mem _ U_355)) (fun _ h9 => h9) rfl dX2_guestNamed_4 ?_
    refine lv_icmp_ge (tgt := 29) hx hb dX2_guestNamed_7 (by decide) (fun hc => ?_) (fun hc => ?_)
    · have hr := iteP hc hr
      refine lv_iconst (v := (-1)) hx hb dX2_guestNamed_29 (by decide) ?_
      have q0 := Option.some.inj hr
      subst q0
      exact W.iret (v := (-1)) hx hb hrt (fun t ht hW => ⟨⟨(-1), (), rfl, rfl, by rw [ht]; exact hP, va_K.moved hW.alike hK, hD⟩, hS.F ht⟩) hS.2.2 dX2_guestNamed_30 hlocks
    · have hr := iteN hc hr
      refine lv_aload_n hx hb dX2_guestNamed_10 rfl (lv_at hl 0 rfl) ?_
      refine va_get (D := (dC, dI)) (ci := 2) (v := .ref h_guestName) (C := RX2) (T := TX2) (N := 11) hx hb hts (fun w h => List.mem_cons_of_mem _ (inU_2 w h)) hown hK hP 0 rfl rfl 0 (by decide) (hts _ (List.mem_cons_of_mem _ U_129)) (fun _ h9 => h9) rfl dX2_guestNamed_11 ?_
      refine lv_iload_n hx hb dX2_guestNamed_14 rfl (lv_at hl 2 rfl) ?_
      obtain ⟨hg, hr⟩ := gI_s hr
      refine z_lald hx hb hK hP 1 1 rfl rfl hg rfl dX2_guestNamed_15 ?_
      refine lv_lload_n hx hb dX2_guestNamed_16 rfl (lv_at hl 1 rfl) ?_
      refine z_pc (pc' := 17) rfl ?_
      refine W.lcmp hx hb dX2_guestNamed_17 ?_
      refine lv_if_ne (tgt := 23) hx hb dX2_guestNamed_18 (by decide) (fun hc => ?_) (fun hc => ?_)
      · have hr := iteN hc hr
        refine lv_iinc (v := (x3 + 1)) (lv' := [(3, .int (x3 + 1)), (0, .ref h_this), (1, .long x1)]) hx hb dX2_guestNamed_23 hl (k := 2) rfl rfl (by decide) rfl (fun ls hl => ?_)
        refine lv_goto (tgt := 2) hx hb dX2_guestNamed_26 (by decide) ?_
        exact ih x1 (x3 + 1) hr _ _ ⟨hK, hP, hD, hS⟩ ls (lv_sub hl [1, 2, 0] rfl)
      · have hr := iteP hc hr
        refine lv_iload_n hx hb dX2_guestNamed_21 rfl (lv_at hl 2 rfl) ?_
        have q0 := Option.some.inj hr
        subst q0
        exact W.iret (v := x3) hx hb hrt (fun t ht hW => ⟨⟨x3, (), rfl, rfl, by rw [ht]; exact hP, va_K.moved hW.alike hK, hD⟩, hS.F ht⟩) hS.2.2 dX2_guestNamed_22 hlocks
set_option maxHeartbeats 4000000 in
set_option maxRecDepth 100000 in
theorem tX2_guestNamed {p : Program} {l : Launch} {e : Env} {R : Room} {s : State} {m : MethodId} {args : Array Value} {below : List Frame} {meth : Method} {c : Code} {dC : Nat → ClassId} {dI : Nat → Nat → Nat} {cI cJ cB cZ cF cG : ClassId} {A : Nat → Prop} (hA : ∀ q : Nat, s.heap.size ≤ q → A q) (C0 : Cx p s m meth c args cX2_guestNamed 4 (some .int) RX2 uX2_guestNamed) (hR : 0 ≤ R.frames ∧ 0 ≤ R.locals) (h_this : Nat) (h_guestName : Nat) (h_coins : Nat) (h_pride : Nat) (h_speed : Nat) (h_place : Nat) (h_payer : Nat) (h_dishName : Nat) (h_cost : Nat) (v_chairs : Int32) (v_guests : Int32) (v_dishes : Int32) (v_guestName : Nat → Int64) (o_r : Int32) :
    ∀ (x1 : Int64), fX2_guestNamed v_guests v_guestName x1 = some o_r → ∀ (H : Heap) (locs : List Loc), Wd dC dI cI cJ cB cZ cF cG A s H locs [oX2 h_this h_guestName h_coins h_pride h_speed h_place h_payer h_dishName h_cost v_chairs v_guests v_dishes, aJ cJ h_guestName 7 v_guestName] → ∀ (ls : Array Slot), lv_has ls 4 [(0, .ref h_this), (1, .long x1)] → W p l e R s m args below meth c H locs 0 0 (MQ below (PQi dC dI cI cJ cB cZ cF cG A o_r [oX2 h_this h_guestName h_coins h_pride h_speed h_place h_payer h_dishName h_cost v_chairs v_guests v_dishes, aJ cJ h_guestName 7 v_guestName]) args s 0 0 A) (F0 m 0 ls []) := by
  obtain ⟨hx, hb, hrt, hml, hown, hts, hlocks⟩ := id C0
  intro x1 hr H locs hW ls hl
  obtain ⟨hK, hP, hD, hS⟩ := hW
  have hr : (lX2_guestNamed_2 v_guests v_guestName 5000 x1 0 : Option (Int32)) = some o_r := hr
  refine lv_iconst (v := 0) hx hb dX2_guestNamed_0 (by decide) ?_
  refine lv_istore_n (lv' := [(3, .int 0), (0, .ref h_this), (1, .long x1)]) hx hb dX2_guestNamed_1 rfl hl (by decide) rfl (fun ls hl => ?_)
  exact tX2_guestNamed_2 hA C0 hR h_this h_guestName h_coins h_pride h_speed h_place h_payer h_dishName h_cost v_chairs v_guests v_dishes v_guestName o_r 5000 x1 0 hr _ _ ⟨hK, hP, hD, hS⟩ ls (lv_sub hl [1, 2, 0] rfl)
set_option maxHeartbeats 4000000 in
set_option maxRecDepth 100000 in
theorem mX2_guestNamed (l : Launch) (dC : Nat → ClassId) (dI : Nat → Nat → Nat) (cI cJ cB cZ cF cG : ClassId) (h_this : Nat) (h_guestName : Nat) (h_coins : Nat) (h_pride : Nat) (h_speed : Nat) (h_place : Nat) (h_payer : Nat) (h_dishName : Nat) (h_cost : Nat) (sz : Nat) (v_chairs : Int32) (v_guests : Int32) (v_dishes : Int32) (v_guestName : Nat → Int64) (x1 : Int64) (o_r : Int32) (hf : fX2_guestNamed v_guests v_guestName x1 = some o_r) : Met l yX2_guestNamed uX2_guestNamed ({ frames := 0, cells := 0, slots := 0, locals := 0 }) (va_Pc [.ref h_this, .long x1] (fun U => U.heap.size = sz ∧ va_P (dC, dI) vwCl [oX2 h_this h_guestName h_coins h_pride h_speed h_place h_payer h_dishName h_cost v_chairs v_guests v_dishes, aJ cJ h_guestName 7 v_guestName] U.heap ∧ va_K (dC, dI) vwCl (TYS cI cJ cB cZ cF cG) U ∧ va_D (fun _ => True) [oX2 h_this h_guestName h_coins h_pride h_speed h_place h_payer h_dishName h_cost v_chairs v_guests v_dishes, aJ cJ h_guestName 7 v_guestName])) (PQi dC dI cI cJ cB cZ cF cG (va_A [oX2 h_this h_guestName h_coins h_pride h_speed h_place h_payer h_dishName h_cost v_chairs v_guests v_dishes, aJ cJ h_guestName 7 v_guestName] sz) o_r [oX2 h_this h_guestName h_coins h_pride h_speed h_place h_payer h_dishName h_cost v_chairs v_guests v_dishes, aJ cJ h_guestName 7 v_guestName]) 0 0 (va_A [oX2 h_this h_guestName h_coins h_pride h_speed h_place h_payer h_dishName h_cost v_chairs v_guests v_dishes, aJ cJ h_guestName 7 v_guestName] sz) := by
  refine Met.ofW (cc := cX2_guestNamed) (maxL := 4) (ret := (some .int)) (by decide) rfl ?_
  intro p e s m args below meth c s₁ B hml hv
  obtain ⟨rfl, hsz, hP, hK, hD0⟩ := hv
  have hx := B.exec
  have hb := B.bytes
  have hr := B.returns
  have hts := atoms_spec (ws := uX2_guestNamed) B.pre
  have hown : s.vm.findClass RX2 = some m.cls := findClass_of_methodNamed B.named
  have hlocks := B.notSynchronized
  subst hsz
  have hD := hD0.self (sz := s.heap.size)
  generalize hAe : va_A [oX2 h_this h_guestName h_coins h_pride h_speed h_place h_payer h_dishName h_cost v_chairs v_guests v_dishes, aJ cJ h_guestName 7 v_guestName] s.heap.size = A at hD ⊢
  have hA : ∀ q : Nat, s.heap.size ≤ q → A q := fun q h => by rw [← hAe]; exact Or.inr h
  have hS : va_S A s.heap s.heap [] := va_S.rf
  have hl := lv_entry ([.ref h_this, .long x1]) (n := 4) (Nat.le_of_ble_eq_true rfl)
  rw [lg_entry_eq]
  generalize (lg_sl ([.ref h_this, .long x1]) ++ List.replicate (4 - (lg_sl ([.ref h_this, .long x1])).length) Slot.unset).toArray = ls at hl ⊢
  have hl : lv_has ls 4 [(0, .ref h_this), (1, .long x1)] := hl
  exact tX2_guestNamed hA ⟨hx, hb, hr, hml, hown, hts, hlocks⟩ ⟨Nat.le_refl _, Nat.le_refl _⟩ h_this h_guestName h_coins h_pride h_speed h_place h_payer h_dishName h_cost v_chairs v_guests v_dishes v_guestName o_r x1 hf _ _ ⟨hK, hP, hD, hS⟩ ls hl
-- LastSeat$Hall.dishNamed(J)I
def uX2_dishNamed : List Cond := .code yX2_dishNamed cX2_dishNamed 4 (some .int) :: wsU
set_option maxHeartbeats 4000000 in
set_option maxRecDepth 100000 in
theorem tX2_dishNamed_2 {p : Program} {l : Launch} {e : Env} {R : Room} {s : State} {m : MethodId} {args : Array Value} {below : List Frame} {meth : Method} {c : Code} {dC : Nat → ClassId} {dI : Nat → Nat → Nat} {cI cJ cB cZ cF cG : ClassId} {A : Nat → Prop} (hA : ∀ q : Nat, s.heap.size ≤ q → A q) (C0 : Cx p s m meth c args cX2_dishNamed 4 (some .int) RX2 uX2_dishNamed) (hR : 0 ≤ R.frames ∧ 0 ≤ R.locals) (h_this : Nat) (h_dishName : Nat) (h_guestName : Nat) (h_coins : Nat) (h_pride : Nat) (h_speed : Nat) (h_place : Nat) (h_payer : Nat) (h_cost : Nat) (v_chairs : Int32) (v_guests : Int32) (v_dishes : Int32) (v_dishName : Nat → Int64) (o_r : Int32) :
    ∀ n : Nat, ∀ (x1 : Int64) (x3 : Int32), lX2_dishNamed_2 v_dishes v_dishName n x1 x3 = some o_r → ∀ (H : Heap) (locs : List Loc), Wd dC dI cI cJ cB cZ cF cG A s H locs [oX2 h_this h_guestName h_coins h_pride h_speed h_place h_payer h_dishName h_cost v_chairs v_guests v_dishes, aJ cJ h_dishName 6 v_dishName] → ∀ (ls : Array Slot), lv_has ls 4 [(0, .ref h_this), (1, .long x1), (3, .int x3)] → W p l e R s m args below meth c H locs 0 0 (MQ below (PQi dC dI cI cJ cB cZ cF cG A o_r [oX2 h_this h_guestName h_coins h_pride h_speed h_place h_payer h_dishName h_cost v_chairs v_guests v_dishes, aJ cJ h_dishName 6 v_dishName]) args s 0 0 A) (F0 m 2 ls []) := by
  obtain ⟨hx, hb, hrt, hml, hown, hts, hlocks⟩ := id C0
  intro n
  induction n with
  | zero =>
    intro x1 x3 hr
    exact nomatch (show (none : Option (Int32)) = some _ from hr)
  | succ n ih =>
    intro x1 x3 hr H locs hW ls hl
    obtain ⟨hK, hP, hD, hS⟩ := hW
    have hr : (if v_dishes ≤ x3 then some (-1) else gI x3 6 (if (lg_cmp (v_dishName (Int32.toNatClampNeg x3)) x1) = 0 then some x3 else lX2_dishNamed_2 v_dishes v_dishName n x1 (x3 + 1)) : Option (Int32)) = some o_r := hr
    refine lv_iload_n hx hb dX2_dishNamed_2 rfl (lv_at hl 2 rfl) ?_
    refine lv_aload_n hx hb dX2_dishNamed_3 rfl (lv_at hl 0 rfl) ?_
    refine va_get (D := (dC, dI)) (ci := 2) (v := .int v_dishes) (C := RX2) (T := TX2) (N := 11) hx hb hts (fun w h => List.mem_cons_of_mem _ (inU_2 w h)) hown hK hP 0 rfl rfl 10 (by decide) (hts _ (List.mem_cons_of_mem _ U_356)) (fun _ h9 => h9) rfl dX2_dishNamed_4 ?_
    refine lv_icmp_ge (tgt := 29) hx hb dX2_dishNamed_7 (by decide) (fun hc => ?_) (fun hc => ?_)
    · have hr := iteP hc hr
      refine lv_iconst (v := (-1)) hx hb dX2_dishNamed_29 (by decide) ?_
      have q0 := Option.some.inj hr
      subst q0
      exact W.iret (v := (-1)) hx hb hrt (fun t ht hW => ⟨⟨(-1), (), rfl, rfl, by rw [ht]; exact hP, va_K.moved hW.alike hK, hD⟩, hS.F ht⟩) hS.2.2 dX2_dishNamed_30 hlocks
    · have hr := iteN hc hr
      refine lv_aload_n hx hb dX2_dishNamed_10 rfl (lv_at hl 0 rfl) ?_
      refine va_get (D := (dC, dI)) (ci := 2) (v := .ref h_dishName) (C := RX2) (T := TX2) (N := 11) hx hb hts (fun w h => List.mem_cons_of_mem _ (inU_2 w h)) hown hK hP 0 rfl rfl 6 (by decide) (hts _ (List.mem_cons_of_mem _ U_136)) (fun _ h9 => h9) rfl dX2_dishNamed_11 ?_
      refine lv_iload_n hx hb dX2_dishNamed_14 rfl (lv_at hl 2 rfl) ?_
      obtain ⟨hg, hr⟩ := gI_s hr
      refine z_lald hx hb hK hP 1 1 rfl rfl hg rfl dX2_dishNamed_15 ?_
      refine lv_lload_n hx hb dX2_dishNamed_16 rfl (lv_at hl 1 rfl) ?_
      refine z_pc (pc' := 17) rfl ?_
      refine W.lcmp hx hb dX2_dishNamed_17 ?_
      refine lv_if_ne (tgt := 23) hx hb dX2_dishNamed_18 (by decide) (fun hc => ?_) (fun hc => ?_)
      · have hr := iteN hc hr
        refine lv_iinc (v := (x3 + 1)) (lv' := [(3, .int (x3 + 1)), (0, .ref h_this), (1, .long x1)]) hx hb dX2_dishNamed_23 hl (k := 2) rfl rfl (by decide) rfl (fun ls hl => ?_)
        refine lv_goto (tgt := 2) hx hb dX2_dishNamed_26 (by decide) ?_
        exact ih x1 (x3 + 1) hr _ _ ⟨hK, hP, hD, hS⟩ ls (lv_sub hl [1, 2, 0] rfl)
      · have hr := iteP hc hr
        refine lv_iload_n hx hb dX2_dishNamed_21 rfl (lv_at hl 2 rfl) ?_
        have q0 := Option.some.inj hr
        subst q0
        exact W.iret (v := x3) hx hb hrt (fun t ht hW => ⟨⟨x3, (), rfl, rfl, by rw [ht]; exact hP, va_K.moved hW.alike hK, hD⟩, hS.F ht⟩) hS.2.2 dX2_dishNamed_22 hlocks
set_option maxHeartbeats 4000000 in
set_option maxRecDepth 100000 in
theorem tX2_dishNamed {p : Program} {l : Launch} {e : Env} {R : Room} {s : State} {m : MethodId} {args : Array Value} {below : List Frame} {meth : Method} {c : Code} {dC : Nat → ClassId} {dI : Nat → Nat → Nat} {cI cJ cB cZ cF cG : ClassId} {A : Nat → Prop} (hA : ∀ q : Nat, s.heap.size ≤ q → A q) (C0 : Cx p s m meth c args cX2_dishNamed 4 (some .int) RX2 uX2_dishNamed) (hR : 0 ≤ R.frames ∧ 0 ≤ R.locals) (h_this : Nat) (h_dishName : Nat) (h_guestName : Nat) (h_coins : Nat) (h_pride : Nat) (h_speed : Nat) (h_place : Nat) (h_payer : Nat) (h_cost : Nat) (v_chairs : Int32) (v_guests : Int32) (v_dishes : Int32) (v_dishName : Nat → Int64) (o_r : Int32) :
    ∀ (x1 : Int64), fX2_dishNamed v_dishes v_dishName x1 = some o_r → ∀ (H : Heap) (locs : List Loc), Wd dC dI cI cJ cB cZ cF cG A s H locs [oX2 h_this h_guestName h_coins h_pride h_speed h_place h_payer h_dishName h_cost v_chairs v_guests v_dishes, aJ cJ h_dishName 6 v_dishName] → ∀ (ls : Array Slot), lv_has ls 4 [(0, .ref h_this), (1, .long x1)] → W p l e R s m args below meth c H locs 0 0 (MQ below (PQi dC dI cI cJ cB cZ cF cG A o_r [oX2 h_this h_guestName h_coins h_pride h_speed h_place h_payer h_dishName h_cost v_chairs v_guests v_dishes, aJ cJ h_dishName 6 v_dishName]) args s 0 0 A) (F0 m 0 ls []) := by
  obtain ⟨hx, hb, hrt, hml, hown, hts, hlocks⟩ := id C0
  intro x1 hr H locs hW ls hl
  obtain ⟨hK, hP, hD, hS⟩ := hW
  have hr : (lX2_dishNamed_2 v_dishes v_dishName 5000 x1 0 : Option (Int32)) = some o_r := hr
  refine lv_iconst (v := 0) hx hb dX2_dishNamed_0 (by decide) ?_
  refine lv_istore_n (lv' := [(3, .int 0), (0, .ref h_this), (1, .long x1)]) hx hb dX2_dishNamed_1 rfl hl (by decide) rfl (fun ls hl => ?_)
  exact tX2_dishNamed_2 hA C0 hR h_this h_dishName h_guestName h_coins h_pride h_speed h_place h_payer h_cost v_chairs v_guests v_dishes v_dishName o_r 5000 x1 0 hr _ _ ⟨hK, hP, hD, hS⟩ ls (lv_sub hl [1, 2, 0] rfl)
set_option maxHeartbeats 4000000 in
set_option maxRecDepth 100000 in
theorem mX2_dishNamed (l : Launch) (dC : Nat → ClassId) (dI : Nat → Nat → Nat) (cI cJ cB cZ cF cG : ClassId) (h_this : Nat) (h_dishName : Nat) (h_guestName : Nat) (h_coins : Nat) (h_pride : Nat) (h_speed : Nat) (h_place : Nat) (h_payer : Nat) (h_cost : Nat) (sz : Nat) (v_chairs : Int32) (v_guests : Int32) (v_dishes : Int32) (v_dishName : Nat → Int64) (x1 : Int64) (o_r : Int32) (hf : fX2_dishNamed v_dishes v_dishName x1 = some o_r) : Met l yX2_dishNamed uX2_dishNamed ({ frames := 0, cells := 0, slots := 0, locals := 0 }) (va_Pc [.ref h_this, .long x1] (fun U => U.heap.size = sz ∧ va_P (dC, dI) vwCl [oX2 h_this h_guestName h_coins h_pride h_speed h_place h_payer h_dishName h_cost v_chairs v_guests v_dishes, aJ cJ h_dishName 6 v_dishName] U.heap ∧ va_K (dC, dI) vwCl (TYS cI cJ cB cZ cF cG) U ∧ va_D (fun _ => True) [oX2 h_this h_guestName h_coins h_pride h_speed h_place h_payer h_dishName h_cost v_chairs v_guests v_dishes, aJ cJ h_dishName 6 v_dishName])) (PQi dC dI cI cJ cB cZ cF cG (va_A [oX2 h_this h_guestName h_coins h_pride h_speed h_place h_payer h_dishName h_cost v_chairs v_guests v_dishes, aJ cJ h_dishName 6 v_dishName] sz) o_r [oX2 h_this h_guestName h_coins h_pride h_speed h_place h_payer h_dishName h_cost v_chairs v_guests v_dishes, aJ cJ h_dishName 6 v_dishName]) 0 0 (va_A [oX2 h_this h_guestName h_coins h_pride h_speed h_place h_payer h_dishName h_cost v_chairs v_guests v_dishes, aJ cJ h_dishName 6 v_dishName] sz) := by
  refine Met.ofW (cc := cX2_dishNamed) (maxL := 4) (ret := (some .int)) (by decide) rfl ?_
  intro p e s m args below meth c s₁ B hml hv
  obtain ⟨rfl, hsz, hP, hK, hD0⟩ := hv
  have hx := B.exec
  have hb := B.bytes
  have hr := B.returns
  have hts := atoms_spec (ws := uX2_dishNamed) B.pre
  have hown : s.vm.findClass RX2 = some m.cls := findClass_of_methodNamed B.named
  have hlocks := B.notSynchronized
  subst hsz
  have hD := hD0.self (sz := s.heap.size)
  generalize hAe : va_A [oX2 h_this h_guestName h_coins h_pride h_speed h_place h_payer h_dishName h_cost v_chairs v_guests v_dishes, aJ cJ h_dishName 6 v_dishName] s.heap.size = A at hD ⊢
  have hA : ∀ q : Nat, s.heap.size ≤ q → A q := fun q h => by rw [← hAe]; exact Or.inr h
  have hS : va_S A s.heap s.heap [] := va_S.rf
  have hl := lv_entry ([.ref h_this, .long x1]) (n := 4) (Nat.le_of_ble_eq_true rfl)
  rw [lg_entry_eq]
  generalize (lg_sl ([.ref h_this, .long x1]) ++ List.replicate (4 - (lg_sl ([.ref h_this, .long x1])).length) Slot.unset).toArray = ls at hl ⊢
  have hl : lv_has ls 4 [(0, .ref h_this), (1, .long x1)] := hl
  exact tX2_dishNamed hA ⟨hx, hb, hr, hml, hown, hts, hlocks⟩ ⟨Nat.le_refl _, Nat.le_refl _⟩ h_this h_dishName h_guestName h_coins h_pride h_speed h_place h_payer h_cost v_chairs v_guests v_dishes v_dishName o_r x1 hf _ _ ⟨hK, hP, hD, hS⟩ ls hl
-- LastSeat$Tape.at(I)I
def uX10_at : List Cond := .code yX10_at cX10_at 2 (some .int) :: wsU
set_option maxHeartbeats 4000000 in
set_option maxRecDepth 100000 in
theorem tX10_at {p : Program} {l : Launch} {e : Env} {R : Room} {s : State} {m : MethodId} {args : Array Value} {below : List Frame} {meth : Method} {c : Code} {dC : Nat → ClassId} {dI : Nat → Nat → Nat} {cI cJ cB cZ cF cG : ClassId} {A : Nat → Prop} (hA : ∀ q : Nat, s.heap.size ≤ q → A q) (C0 : Cx p s m meth c args cX10_at 2 (some .int) RX10 uX10_at) (hR : 0 ≤ R.frames ∧ 0 ≤ R.locals) (h_this : Nat) (h_bytes : Nat) (n_bytes : Nat) (v_size : Int32) (v_bytes : Nat → Int32) (o_r : Int32) :
    ∀ (x1 : Int32), fX10_at n_bytes v_size v_bytes x1 = some o_r → ∀ (H : Heap) (locs : List Loc), Wd dC dI cI cJ cB cZ cF cG A s H locs [oX10 h_this h_bytes v_size, aB cB h_bytes n_bytes v_bytes] → ∀ (ls : Array Slot), lv_has ls 2 [(0, .ref h_this), (1, .int x1)] → W p l e R s m args below meth c H locs 0 0 (MQ below (PQi dC dI cI cJ cB cZ cF cG A o_r [oX10 h_this h_bytes v_size, aB cB h_bytes n_bytes v_bytes]) args s 0 0 A) (F0 m 0 ls []) := by
  obtain ⟨hx, hb, hrt, hml, hown, hts, hlocks⟩ := id C0
  intro x1 hr H locs hW ls hl
  obtain ⟨hK, hP, hD, hS⟩ := hW
  have hr : (if x1 < 0 then some (-1) else if v_size ≤ x1 then some (-1) else if (Int32.ofNat n_bytes) ≤ x1 then some (-1) else gI x1 n_bytes (some ((v_bytes (Int32.toNatClampNeg x1)) &&& 255)) : Option (Int32)) = some o_r := hr
  refine lv_iload_n hx hb dX10_at_0 rfl (lv_at hl 1 rfl) ?_
  refine lv_if_lt (tgt := 34) hx hb dX10_at_1 (by decide) (fun hc => ?_) (fun hc => ?_)
  · have hr := iteP hc hr
    refine lv_iconst (v := (-1)) hx hb dX10_at_34 (by decide) ?_
    have q0 := Option.some.inj hr
    subst q0
    exact W.iret (v := (-1)) hx hb hrt (fun t ht hW => ⟨⟨(-1), (), rfl, rfl, by rw [ht]; exact hP, va_K.moved hW.alike hK, hD⟩, hS.F ht⟩) hS.2.2 dX10_at_35 hlocks
  · have hr := iteN hc hr
    refine lv_iload_n hx hb dX10_at_4 rfl (lv_at hl 1 rfl) ?_
    refine lv_aload_n hx hb dX10_at_5 rfl (lv_at hl 0 rfl) ?_
    refine va_get (D := (dC, dI)) (ci := 10) (v := .int v_size) (C := RX10) (T := TX10) (N := 2) hx hb hts (fun w h => List.mem_cons_of_mem _ (inU_10 w h)) hown hK hP 0 rfl rfl 1 (by decide) (hts _ (List.mem_cons_of_mem _ U_68)) (fun _ h9 => h9) rfl dX10_at_6 ?_
    refine lv_icmp_ge (tgt := 34) hx hb dX10_at_9 (by decide) (fun hc => ?_) (fun hc => ?_)
    · have hr := iteP hc hr
      refine lv_iconst (v := (-1)) hx hb dX10_at_34 (by decide) ?_
      have q0 := Option.some.inj hr
      subst q0
      exact W.iret (v := (-1)) hx hb hrt (fun t ht hW => ⟨⟨(-1), (), rfl, rfl, by rw [ht]; exact hP, va_K.moved hW.alike hK, hD⟩, hS.F ht⟩) hS.2.2 dX10_at_35 hlocks
    · have hr := iteN hc hr
      refine lv_iload_n hx hb dX10_at_12 rfl (lv_at hl 1 rfl) ?_
      refine lv_aload_n hx hb dX10_at_13 rfl (lv_at hl 0 rfl) ?_
      refine va_get (D := (dC, dI)) (ci := 10) (v := .ref h_bytes) (C := RX10) (T := TX10) (N := 2) hx hb hts (fun w h => List.mem_cons_of_mem _ (inU_10 w h)) hown hK hP 0 rfl rfl 0 (by decide) (hts _ (List.mem_cons_of_mem _ U_67)) (fun _ h9 => h9) rfl dX10_at_14 ?_
      refine va_alen (v := (Int32.ofNat n_bytes)) hx hb hK hP 1 2 rfl rfl rfl dX10_at_17 ?_
      refine lv_icmp_ge (tgt := 34) hx hb dX10_at_18 (by decide) (fun hc => ?_) (fun hc => ?_)
      · have hr := iteP hc hr
        refine lv_iconst (v := (-1)) hx hb dX10_at_34 (by decide) ?_
        have q0 := Option.some.inj hr
        subst q0
        exact W.iret (v := (-1)) hx hb hrt (fun t ht hW => ⟨⟨(-1), (), rfl, rfl, by rw [ht]; exact hP, va_K.moved hW.alike hK, hD⟩, hS.F ht⟩) hS.2.2 dX10_at_35 hlocks
      · have hr := iteN hc hr
        refine lv_aload_n hx hb dX10_at_21 rfl (lv_at hl 0 rfl) ?_
        refine va_get (D := (dC, dI)) (ci := 10) (v := .ref h_bytes) (C := RX10) (T := TX10) (N := 2) hx hb hts (fun w h => List.mem_cons_of_mem _ (inU_10 w h)) hown hK hP 0 rfl rfl 0 (by decide) (hts _ (List.mem_cons_of_mem _ U_67)) (fun _ h9 => h9) rfl dX10_at_22 ?_
        refine lv_iload_n hx hb dX10_at_25 rfl (lv_at hl 1 rfl) ?_
        obtain ⟨hg, hr⟩ := gI_s hr
        refine z_bald hx hb hK hP 1 2 rfl rfl hg rfl dX10_at_26 ?_
        refine lv_sipush (v := 255) hx hb dX10_at_27 (by decide) ?_
        refine z_pc (pc' := 30) rfl ?_
        refine lv_iand hx hb dX10_at_30 ?_
        refine lv_goto (tgt := 35) hx hb dX10_at_31 (by decide) ?_
        have q0 := Option.some.inj hr
        subst q0
        exact W.iret (v := ((v_bytes (Int32.toNatClampNeg x1)) &&& 255)) hx hb hrt (fun t ht hW => ⟨⟨((v_bytes (Int32.toNatClampNeg x1)) &&& 255), (), rfl, rfl, by rw [ht]; exact hP, va_K.moved hW.alike hK, hD⟩, hS.F ht⟩) hS.2.2 dX10_at_35 hlocks
set_option maxHeartbeats 4000000 in
set_option maxRecDepth 100000 in
theorem mX10_at (l : Launch) (dC : Nat → ClassId) (dI : Nat → Nat → Nat) (cI cJ cB cZ cF cG : ClassId) (h_this : Nat) (h_bytes : Nat) (sz : Nat) (n_bytes : Nat) (v_size : Int32) (v_bytes : Nat → Int32) (x1 : Int32) (o_r : Int32) (hf : fX10_at n_bytes v_size v_bytes x1 = some o_r) : Met l yX10_at uX10_at ({ frames := 0, cells := 0, slots := 0, locals := 0 }) (va_Pc [.ref h_this, .int x1] (fun U => U.heap.size = sz ∧ va_P (dC, dI) vwCl [oX10 h_this h_bytes v_size, aB cB h_bytes n_bytes v_bytes] U.heap ∧ va_K (dC, dI) vwCl (TYS cI cJ cB cZ cF cG) U ∧ va_D (fun _ => True) [oX10 h_this h_bytes v_size, aB cB h_bytes n_bytes v_bytes])) (PQi dC dI cI cJ cB cZ cF cG (va_A [oX10 h_this h_bytes v_size, aB cB h_bytes n_bytes v_bytes] sz) o_r [oX10 h_this h_bytes v_size, aB cB h_bytes n_bytes v_bytes]) 0 0 (va_A [oX10 h_this h_bytes v_size, aB cB h_bytes n_bytes v_bytes] sz) := by
  refine Met.ofW (cc := cX10_at) (maxL := 2) (ret := (some .int)) (by decide) rfl ?_
  intro p e s m args below meth c s₁ B hml hv
  obtain ⟨rfl, hsz, hP, hK, hD0⟩ := hv
  have hx := B.exec
  have hb := B.bytes
  have hr := B.returns
  have hts := atoms_spec (ws := uX10_at) B.pre
  have hown : s.vm.findClass RX10 = some m.cls := findClass_of_methodNamed B.named
  have hlocks := B.notSynchronized
  subst hsz
  have hD := hD0.self (sz := s.heap.size)
  generalize hAe : va_A [oX10 h_this h_bytes v_size, aB cB h_bytes n_bytes v_bytes] s.heap.size = A at hD ⊢
  have hA : ∀ q : Nat, s.heap.size ≤ q → A q := fun q h => by rw [← hAe]; exact Or.inr h
  have hS : va_S A s.heap s.heap [] := va_S.rf
  have hl := lv_entry ([.ref h_this, .int x1]) (n := 2) (Nat.le_of_ble_eq_true rfl)
  rw [lg_entry_eq]
  generalize (lg_sl ([.ref h_this, .int x1]) ++ List.replicate (2 - (lg_sl ([.ref h_this, .int x1])).length) Slot.unset).toArray = ls at hl ⊢
  have hl : lv_has ls 2 [(0, .ref h_this), (1, .int x1)] := hl
  exact tX10_at hA ⟨hx, hb, hr, hml, hown, hts, hlocks⟩ ⟨Nat.le_refl _, Nat.le_refl _⟩ h_this h_bytes n_bytes v_size v_bytes o_r x1 hf _ _ ⟨hK, hP, hD, hS⟩ ls hl
-- LastSeat$Tape.put(I)V
def uX10_put : List Cond := .code yX10_put cX10_put 2 none :: wsU
set_option maxHeartbeats 4000000 in
set_option maxRecDepth 100000 in
theorem tX10_put {p : Program} {l : Launch} {e : Env} {R : Room} {s : State} {m : MethodId} {args : Array Value} {below : List Frame} {meth : Method} {c : Code} {dC : Nat → ClassId} {dI : Nat → Nat → Nat} {cI cJ cB cZ cF cG : ClassId} {A : Nat → Prop} (hA : ∀ q : Nat, s.heap.size ≤ q → A q) (C0 : Cx p s m meth c args cX10_put 2 none RX10 uX10_put) (hR : 0 ≤ R.frames ∧ 0 ≤ R.locals) (h_this : Nat) (h_bytes : Nat) (n_bytes : Nat) (o_size : Int32) (o_bytes : Nat → Int32) :
    ∀ (v_size : Int32) (v_bytes : Nat → Int32) (x1 : Int32), fX10_put n_bytes v_size v_bytes x1 = some (o_size, o_bytes) → ∀ (H : Heap) (locs : List Loc), Wd dC dI cI cJ cB cZ cF cG A s H locs [oX10 h_this h_bytes v_size, aB cB h_bytes n_bytes v_bytes] → ∀ (ls : Array Slot), lv_has ls 2 [(0, .ref h_this), (1, .int x1)] → W p l e R s m args below meth c H locs 0 0 (MQ below (PQv dC dI cI cJ cB cZ cF cG A [oX10 h_this h_bytes o_size, aB cB h_bytes n_bytes o_bytes]) args s 0 0 A) (F0 m 0 ls []) := by
  obtain ⟨hx, hb, hrt, hml, hown, hts, hlocks⟩ := id C0
  intro v_size v_bytes x1 hr H locs hW ls hl
  obtain ⟨hK, hP, hD, hS⟩ := hW
  have hr : (if v_size < 0 then some (v_size, v_bytes) else if (Int32.ofNat n_bytes) ≤ v_size then some (v_size, v_bytes) else gI v_size n_bytes (nmv (upd v_bytes (Int32.toNatClampNeg v_size) (vp_nar .byte (zi2b x1))) (fun w1 => some ((v_size + 1), w1))) : Option (Int32 × (Nat → Int32))) = some (o_size, o_bytes) := hr
  refine lv_aload_n hx hb dX10_put_0 rfl (lv_at hl 0 rfl) ?_
  refine va_get (D := (dC, dI)) (ci := 10) (v := .int v_size) (C := RX10) (T := TX10) (N := 2) hx hb hts (fun w h => List.mem_cons_of_mem _ (inU_10 w h)) hown hK hP 0 rfl rfl 1 (by decide) (hts _ (List.mem_cons_of_mem _ U_68)) (fun _ h9 => h9) rfl dX10_put_1 ?_
  refine lv_if_lt (tgt := 40) hx hb dX10_put_4 (by decide) (fun hc => ?_) (fun hc => ?_)
  · have hr := iteP hc hr
    have q0 := Option.some.inj hr
    obtain ⟨e0, q1⟩ := Prod.mk.inj q0
    subst e0; subst q1
    exact W.vret hx hb hrt (fun t ht hW => ⟨⟨(), rfl, trivial, by rw [ht]; exact hP, va_K.moved hW.alike hK, hD⟩, hS.F ht⟩) hS.2.2 dX10_put_40 hlocks
  · have hr := iteN hc hr
    refine lv_aload_n hx hb dX10_put_7 rfl (lv_at hl 0 rfl) ?_
    refine va_get (D := (dC, dI)) (ci := 10) (v := .int v_size) (C := RX10) (T := TX10) (N := 2) hx hb hts (fun w h => List.mem_cons_of_mem _ (inU_10 w h)) hown hK hP 0 rfl rfl 1 (by decide) (hts _ (List.mem_cons_of_mem _ U_68)) (fun _ h9 => h9) rfl dX10_put_8 ?_
    refine lv_aload_n hx hb dX10_put_11 rfl (lv_at hl 0 rfl) ?_
    refine va_get (D := (dC, dI)) (ci := 10) (v := .ref h_bytes) (C := RX10) (T := TX10) (N := 2) hx hb hts (fun w h => List.mem_cons_of_mem _ (inU_10 w h)) hown hK hP 0 rfl rfl 0 (by decide) (hts _ (List.mem_cons_of_mem _ U_67)) (fun _ h9 => h9) rfl dX10_put_12 ?_
    refine va_alen (v := (Int32.ofNat n_bytes)) hx hb hK hP 1 2 rfl rfl rfl dX10_put_15 ?_
    refine z_pc (pc' := 16) rfl ?_
    refine lv_icmp_ge (tgt := 40) hx hb dX10_put_16 (by decide) (fun hc => ?_) (fun hc => ?_)
    · have hr := iteP hc hr
      have q0 := Option.some.inj hr
      obtain ⟨e0, q1⟩ := Prod.mk.inj q0
      subst e0; subst q1
      exact W.vret hx hb hrt (fun t ht hW => ⟨⟨(), rfl, trivial, by rw [ht]; exact hP, va_K.moved hW.alike hK, hD⟩, hS.F ht⟩) hS.2.2 dX10_put_40 hlocks
    · have hr := iteN hc hr
      refine lv_aload_n hx hb dX10_put_19 rfl (lv_at hl 0 rfl) ?_
      refine va_get (D := (dC, dI)) (ci := 10) (v := .ref h_bytes) (C := RX10) (T := TX10) (N := 2) hx hb hts (fun w h => List.mem_cons_of_mem _ (inU_10 w h)) hown hK hP 0 rfl rfl 0 (by decide) (hts _ (List.mem_cons_of_mem _ U_67)) (fun _ h9 => h9) rfl dX10_put_20 ?_
      refine lv_aload_n hx hb dX10_put_23 rfl (lv_at hl 0 rfl) ?_
      refine va_get (D := (dC, dI)) (ci := 10) (v := .int v_size) (C := RX10) (T := TX10) (N := 2) hx hb hts (fun w h => List.mem_cons_of_mem _ (inU_10 w h)) hown hK hP 0 rfl rfl 1 (by decide) (hts _ (List.mem_cons_of_mem _ U_68)) (fun _ h9 => h9) rfl dX10_put_24 ?_
      refine lv_iload_n hx hb dX10_put_27 rfl (lv_at hl 1 rfl) ?_
      refine z_pc (pc' := 28) rfl ?_
      refine lv_i2b (v := (zi2b x1)) hx hb dX10_put_28 rfl ?_
      obtain ⟨hg, hr⟩ := gI_s hr
      obtain ⟨w1, hw1, hr⟩ := nm_s hr
      refine z_bast hx hb hK hP hD hS 1 2 rfl rfl hg rfl hw1 dX10_put_29 (fun H locs hP hD hS => ?_)
      have hP : va_P (dC, dI) vwCl [oX10 h_this h_bytes v_size, aB cB h_bytes n_bytes w1] H := hP
      have hD : va_D A [oX10 h_this h_bytes v_size, aB cB h_bytes n_bytes w1] := hD
      refine lv_aload_n hx hb dX10_put_30 rfl (lv_at hl 0 rfl) ?_
      refine lv_dup hx hb dX10_put_31 rfl ?_
      refine va_get (D := (dC, dI)) (ci := 10) (v := .int v_size) (C := RX10) (T := TX10) (N := 2) hx hb hts (fun w h => List.mem_cons_of_mem _ (inU_10 w h)) hown hK hP 0 rfl rfl 1 (by decide) (hts _ (List.mem_cons_of_mem _ U_68)) (fun _ h9 => h9) rfl dX10_put_32 ?_
      refine lv_iconst (v := 1) hx hb dX10_put_35 (by decide) ?_
      refine z_pc (pc' := 36) rfl ?_
      refine lv_iadd hx hb dX10_put_36 ?_
      refine va_put (D := (dC, dI)) (ci := 10) (v := .int (v_size + 1)) (ty := .int) (C := RX10) (T := TX10) (N := 2) hx hb hts (fun w h => List.mem_cons_of_mem _ (inU_10 w h)) tyX10 tyX10_ok nmX10 hown hK hP hD hS 0 rfl rfl 1 (by decide) (hts _ (List.mem_cons_of_mem _ U_68)) (fun _ h9 => h9) rfl (by decide +kernel) rfl rfl (Nat.le_of_ble_eq_true rfl) dX10_put_37 (fun H locs hP hD hS => ?_)
      have hP : va_P (dC, dI) vwCl [oX10 h_this h_bytes (v_size + 1), aB cB h_bytes n_bytes w1] H := hP
      have hD : va_D A [oX10 h_this h_bytes (v_size + 1), aB cB h_bytes n_bytes w1] := hD
      have q0 := Option.some.inj hr
      obtain ⟨e0, q1⟩ := Prod.mk.inj q0
      subst e0; subst q1
      exact W.vret hx hb hrt (fun t ht hW => ⟨⟨(), rfl, trivial, by rw [ht]; exact hP, va_K.moved hW.alike hK, hD⟩, hS.F ht⟩) hS.2.2 dX10_put_40 hlocks
set_option maxHeartbeats 4000000 in
set_option maxRecDepth 100000 in
theorem mX10_put (l : Launch) (dC : Nat → ClassId) (dI : Nat → Nat → Nat) (cI cJ cB cZ cF cG : ClassId) (h_this : Nat) (h_bytes : Nat) (sz : Nat) (n_bytes : Nat) (v_size : Int32) (v_bytes : Nat → Int32) (x1 : Int32) (o_size : Int32) (o_bytes : Nat → Int32) (hf : fX10_put n_bytes v_size v_bytes x1 = some (o_size, o_bytes)) : Met l yX10_put uX10_put ({ frames := 0, cells := 0, slots := 0, locals := 0 }) (va_Pc [.ref h_this, .int x1] (fun U => U.heap.size = sz ∧ va_P (dC, dI) vwCl [oX10 h_this h_bytes v_size, aB cB h_bytes n_bytes v_bytes] U.heap ∧ va_K (dC, dI) vwCl (TYS cI cJ cB cZ cF cG) U ∧ va_D (fun _ => True) [oX10 h_this h_bytes v_size, aB cB h_bytes n_bytes v_bytes])) (PQv dC dI cI cJ cB cZ cF cG (va_A [oX10 h_this h_bytes v_size, aB cB h_bytes n_bytes v_bytes] sz) [oX10 h_this h_bytes o_size, aB cB h_bytes n_bytes o_bytes]) 0 0 (va_A [oX10 h_this h_bytes v_size, aB cB h_bytes n_bytes v_bytes] sz) := by
  refine Met.ofW (cc := cX10_put) (maxL := 2) (ret := none) (by decide) rfl ?_
  intro p e s m args below meth c s₁ B hml hv
  obtain ⟨rfl, hsz, hP, hK, hD0⟩ := hv
  have hx := B.exec
  have hb := B.bytes
  have hr := B.returns
  have hts := atoms_spec (ws := uX10_put) B.pre
  have hown : s.vm.findClass RX10 = some m.cls := findClass_of_methodNamed B.named
  have hlocks := B.notSynchronized
  subst hsz
  have hD := hD0.self (sz := s.heap.size)
  generalize hAe : va_A [oX10 h_this h_bytes v_size, aB cB h_bytes n_bytes v_bytes] s.heap.size = A at hD ⊢
  have hA : ∀ q : Nat, s.heap.size ≤ q → A q := fun q h => by rw [← hAe]; exact Or.inr h
  have hS : va_S A s.heap s.heap [] := va_S.rf
  have hl := lv_entry ([.ref h_this, .int x1]) (n := 2) (Nat.le_of_ble_eq_true rfl)
  rw [lg_entry_eq]
  generalize (lg_sl ([.ref h_this, .int x1]) ++ List.replicate (2 - (lg_sl ([.ref h_this, .int x1])).length) Slot.unset).toArray = ls at hl ⊢
  have hl : lv_has ls 2 [(0, .ref h_this), (1, .int x1)] := hl
  exact tX10_put hA ⟨hx, hb, hr, hml, hown, hts, hlocks⟩ ⟨Nat.le_refl _, Nat.le_refl _⟩ h_this h_bytes n_bytes o_size o_bytes v_size v_bytes x1 hf _ _ ⟨hK, hP, hD, hS⟩ ls hl
-- LastSeat$Tape.putInt(I)V
def uX10_putInt : List Cond := .code yX10_putInt cX10_putInt 3 none :: wsU
set_option maxHeartbeats 4000000 in
set_option maxRecDepth 100000 in
theorem tX10_putInt_3 {p : Program} {l : Launch} {e : Env} {R : Room} {s : State} {m : MethodId} {args : Array Value} {below : List Frame} {meth : Method} {c : Code} {dC : Nat → ClassId} {dI : Nat → Nat → Nat} {cI cJ cB cZ cF cG : ClassId} {A : Nat → Prop} (hA : ∀ q : Nat, s.heap.size ≤ q → A q) (C0 : Cx p s m meth c args cX10_putInt 3 none RX10 uX10_putInt) (hR : 1 ≤ R.frames ∧ 21 ≤ R.locals) (h_this : Nat) (h_bytes : Nat) (n_bytes : Nat) (o_size : Int32) (o_bytes : Nat → Int32) :
    ∀ n : Nat, ∀ (v_size : Int32) (v_bytes : Nat → Int32) (x1 : Int32) (x2 : Int32), lX10_putInt_3 n_bytes n v_size v_bytes x1 x2 = some (o_size, o_bytes) → ∀ (H : Heap) (locs : List Loc), Wd dC dI cI cJ cB cZ cF cG A s H locs [oX10 h_this h_bytes v_size, aB cB h_bytes n_bytes v_bytes] → ∀ (ls : Array Slot), lv_has ls 3 [(0, .ref h_this), (1, .int x1), (2, .int x2)] → W p l e R s m args below meth c H locs 0 0 (MQ below (PQv dC dI cI cJ cB cZ cF cG A [oX10 h_this h_bytes o_size, aB cB h_bytes n_bytes o_bytes]) args s 0 0 A) (F0 m 3 ls []) := by
  obtain ⟨hx, hb, hrt, hml, hown, hts, hlocks⟩ := id C0
  intro n
  induction n with
  | zero =>
    intro v_size v_bytes x1 x2 hr
    exact nomatch (show (none : Option (Int32 × (Nat → Int32))) = some _ from hr)
  | succ n ih =>
    intro v_size v_bytes x1 x2 hr H locs hW ls hl
    obtain ⟨hK, hP, hD, hS⟩ := hW
    have hr : (if x2 < 0 then some (v_size, v_bytes) else nmv (x1 >>> (x2 &&& 31)) (fun w1 => (fX10_put n_bytes v_size v_bytes w1).bind (fun (u1_size, u1_bytes) => lX10_putInt_3 n_bytes n u1_size u1_bytes x1 (x2 + (-8)))) : Option (Int32 × (Nat → Int32))) = some (o_size, o_bytes) := hr
    refine lv_iload_n hx hb dX10_putInt_3 rfl (lv_at hl 2 rfl) ?_
    refine lv_if_lt (tgt := 20) hx hb dX10_putInt_4 (by decide) (fun hc => ?_) (fun hc => ?_)
    · have hr := iteP hc hr
      have q0 := Option.some.inj hr
      obtain ⟨e0, q1⟩ := Prod.mk.inj q0
      subst e0; subst q1
      exact W.vret hx hb hrt (fun t ht hW => ⟨⟨(), rfl, trivial, by rw [ht]; exact hP, va_K.moved hW.alike hK, hD⟩, hS.F ht⟩) hS.2.2 dX10_putInt_20 hlocks
    · have hr := iteN hc hr
      refine lv_aload_n hx hb dX10_putInt_7 rfl (lv_at hl 0 rfl) ?_
      refine lv_iload_n hx hb dX10_putInt_8 rfl (lv_at hl 1 rfl) ?_
      refine lv_iload_n hx hb dX10_putInt_9 rfl (lv_at hl 2 rfl) ?_
      refine lv_ishr hx hb dX10_putInt_10 ?_
      obtain ⟨w1, hw1, hr⟩ := nm_s hr
      refine z_topi hw1 ?_
      obtain ⟨⟨u1_size, u1_bytes⟩, ho, hr⟩ := bind_s hr
      dsimp only at hr
      have hPc := hP.sub (ws' := [oX10 h_this h_bytes v_size, aB cB h_bytes n_bytes v_bytes]) [0, 1] rfl
      have hDc := hD.sub (ws' := [oX10 h_this h_bytes v_size, aB cB h_bytes n_bytes v_bytes]) [0, 1] (by decide) rfl
      have hFc := va_free (wc := [oX10 h_this h_bytes v_size, aB cB h_bytes n_bytes v_bytes]) hD hS hA [0, 1] rfl
      refine va_callv (va_runV (As := [.int w1]) (rest := []) ⟨hx, hb, hml, hown, hts⟩ (mX10_put l dC dI cI cJ cB cZ cF cG h_this h_bytes H.size n_bytes v_size v_bytes w1 u1_size u1_bytes ho) (cwV 1 hts (goodV U_280 U_281 U_282 U_15 U_283) rfl rfl rfl (by decide +kernel) ⟨Nat.le_trans (by decide) hR.1, Nat.le_trans (Nat.le_of_ble_eq_true rfl) hR.2⟩) ⟨fun a U g mk q => by obtain ⟨q0, q1, qP, qK, qD⟩ := q; exact ⟨q0, q1, qP, va_K.moved (u := U) (U := U.calling g mk a) (Vm.Alike.refl U.vm) qK, qD⟩, va_recv hK hPc (ci := 10) (q0 := 0) rfl rfl, fun U hU hW => ⟨rfl, by rw [hU], by rw [hU]; exact hPc, va_K.moved hW.alike hK, hDc.weaken (fun _ _ _ _ => trivial)⟩⟩ rfl rfl hl.1 rfl (lv_room (Nat.le_of_ble_eq_true rfl)) dX10_putInt_11 ⟨Nat.zero_le _, Nat.zero_le _⟩) hS (fun q _ h => hFc q h) hFc (fun u t H1 locs ht hvm hw hB hz1 hk1 hS => ?_)
      obtain ⟨hP1, hK1, hD1⟩ := hB
      rw [ht] at hP1
      obtain ⟨hP, hD⟩ := va_join (wr := []) (w1 := [oX10 h_this h_bytes u1_size, aB cB h_bytes n_bytes u1_bytes]) hP hD [0, 1] [] rfl rfl (by decide) (by decide) hk1 hFc hP1 hD1
      generalize H1 = H at hP hS ⊢
      have hP : va_P (dC, dI) vwCl [oX10 h_this h_bytes u1_size, aB cB h_bytes n_bytes u1_bytes] H := hP
      have hD : va_D A [oX10 h_this h_bytes u1_size, aB cB h_bytes n_bytes u1_bytes] := hD
      refine z_pc (pc' := 14) rfl ?_
      refine lv_iinc (v := (x2 + (-8))) (lv' := [(2, .int (x2 + (-8))), (0, .ref h_this), (1, .int x1)]) hx hb dX10_putInt_14 hl (k := 2) rfl rfl (by decide) rfl (fun ls hl => ?_)
      refine lv_goto (tgt := 3) hx hb dX10_putInt_17 (by decide) ?_
      exact ih u1_size u1_bytes x1 (x2 + (-8)) hr _ _ ⟨hK, hP, hD, hS⟩ ls (lv_sub hl [1, 2, 0] rfl)
set_option maxHeartbeats 4000000 in
set_option maxRecDepth 100000 in
theorem tX10_putInt {p : Program} {l : Launch} {e : Env} {R : Room} {s : State} {m : MethodId} {args : Array Value} {below : List Frame} {meth : Method} {c : Code} {dC : Nat → ClassId} {dI : Nat → Nat → Nat} {cI cJ cB cZ cF cG : ClassId} {A : Nat → Prop} (hA : ∀ q : Nat, s.heap.size ≤ q → A q) (C0 : Cx p s m meth c args cX10_putInt 3 none RX10 uX10_putInt) (hR : 1 ≤ R.frames ∧ 21 ≤ R.locals) (h_this : Nat) (h_bytes : Nat) (n_bytes : Nat) (o_size : Int32) (o_bytes : Nat → Int32) :
    ∀ (v_size : Int32) (v_bytes : Nat → Int32) (x1 : Int32), fX10_putInt n_bytes v_size v_bytes x1 = some (o_size, o_bytes) → ∀ (H : Heap) (locs : List Loc), Wd dC dI cI cJ cB cZ cF cG A s H locs [oX10 h_this h_bytes v_size, aB cB h_bytes n_bytes v_bytes] → ∀ (ls : Array Slot), lv_has ls 3 [(0, .ref h_this), (1, .int x1)] → W p l e R s m args below meth c H locs 0 0 (MQ below (PQv dC dI cI cJ cB cZ cF cG A [oX10 h_this h_bytes o_size, aB cB h_bytes n_bytes o_bytes]) args s 0 0 A) (F0 m 0 ls []) := by
  obtain ⟨hx, hb, hrt, hml, hown, hts, hlocks⟩ := id C0
  intro v_size v_bytes x1 hr H locs hW ls hl
  obtain ⟨hK, hP, hD, hS⟩ := hW
  have hr : (lX10_putInt_3 n_bytes 5000 v_size v_bytes x1 24 : Option (Int32 × (Nat → Int32))) = some (o_size, o_bytes) := hr
  refine lv_bipush (v := 24) hx hb dX10_putInt_0 (by decide) ?_
  refine lv_istore_n (lv' := [(2, .int 24), (0, .ref h_this), (1, .int x1)]) hx hb dX10_putInt_2 rfl hl (by decide) rfl (fun ls hl => ?_)
  exact tX10_putInt_3 hA C0 hR h_this h_bytes n_bytes o_size o_bytes 5000 v_size v_bytes x1 24 hr _ _ ⟨hK, hP, hD, hS⟩ ls (lv_sub hl [1, 2, 0] rfl)
set_option maxHeartbeats 4000000 in
set_option maxRecDepth 100000 in
theorem mX10_putInt (l : Launch) (dC : Nat → ClassId) (dI : Nat → Nat → Nat) (cI cJ cB cZ cF cG : ClassId) (h_this : Nat) (h_bytes : Nat) (sz : Nat) (n_bytes : Nat) (v_size : Int32) (v_bytes : Nat → Int32) (x1 : Int32) (o_size : Int32) (o_bytes : Nat → Int32) (hf : fX10_putInt n_bytes v_size v_bytes x1 = some (o_size, o_bytes)) : Met l yX10_putInt uX10_putInt ({ frames := 1, cells := 0, slots := 0, locals := 21 }) (va_Pc [.ref h_this, .int x1] (fun U => U.heap.size = sz ∧ va_P (dC, dI) vwCl [oX10 h_this h_bytes v_size, aB cB h_bytes n_bytes v_bytes] U.heap ∧ va_K (dC, dI) vwCl (TYS cI cJ cB cZ cF cG) U ∧ va_D (fun _ => True) [oX10 h_this h_bytes v_size, aB cB h_bytes n_bytes v_bytes])) (PQv dC dI cI cJ cB cZ cF cG (va_A [oX10 h_this h_bytes v_size, aB cB h_bytes n_bytes v_bytes] sz) [oX10 h_this h_bytes o_size, aB cB h_bytes n_bytes o_bytes]) 0 0 (va_A [oX10 h_this h_bytes v_size, aB cB h_bytes n_bytes v_bytes] sz) := by
  refine Met.ofW (cc := cX10_putInt) (maxL := 3) (ret := none) (by decide) rfl ?_
  intro p e s m args below meth c s₁ B hml hv
  obtain ⟨rfl, hsz, hP, hK, hD0⟩ := hv
  have hx := B.exec
  have hb := B.bytes
  have hr := B.returns
  have hts := atoms_spec (ws := uX10_putInt) B.pre
  have hown : s.vm.findClass RX10 = some m.cls := findClass_of_methodNamed B.named
  have hlocks := B.notSynchronized
  subst hsz
  have hD := hD0.self (sz := s.heap.size)
  generalize hAe : va_A [oX10 h_this h_bytes v_size, aB cB h_bytes n_bytes v_bytes] s.heap.size = A at hD ⊢
  have hA : ∀ q : Nat, s.heap.size ≤ q → A q := fun q h => by rw [← hAe]; exact Or.inr h
  have hS : va_S A s.heap s.heap [] := va_S.rf
  have hl := lv_entry ([.ref h_this, .int x1]) (n := 3) (Nat.le_of_ble_eq_true rfl)
  rw [lg_entry_eq]
  generalize (lg_sl ([.ref h_this, .int x1]) ++ List.replicate (3 - (lg_sl ([.ref h_this, .int x1])).length) Slot.unset).toArray = ls at hl ⊢
  have hl : lv_has ls 3 [(0, .ref h_this), (1, .int x1)] := hl
  exact tX10_putInt hA ⟨hx, hb, hr, hml, hown, hts, hlocks⟩ ⟨Nat.le_refl _, Nat.le_refl _⟩ h_this h_bytes n_bytes o_size o_bytes v_size v_bytes x1 hf _ _ ⟨hK, hP, hD, hS⟩ ls hl
-- LastSeat$Tape.putName(J)V
def uX10_putName : List Cond := .code yX10_putName cX10_putName 5 none :: wsU
set_option maxHeartbeats 4000000 in
set_option maxRecDepth 100000 in
theorem tX10_putName_3 {p : Program} {l : Launch} {e : Env} {R : Room} {s : State} {m : MethodId} {args : Array Value} {below : List Frame} {meth : Method} {c : Code} {dC : Nat → ClassId} {dI : Nat → Nat → Nat} {cI cJ cB cZ cF cG : ClassId} {A : Nat → Prop} (hA : ∀ q : Nat, s.heap.size ≤ q → A q) (C0 : Cx p s m meth c args cX10_putName 5 none RX10 uX10_putName) (hR : 1 ≤ R.frames ∧ 21 ≤ R.locals) (h_this : Nat) (h_bytes : Nat) (n_bytes : Nat) (o_size : Int32) (o_bytes : Nat → Int32) :
    ∀ n : Nat, ∀ (v_size : Int32) (v_bytes : Nat → Int32) (x1 : Int64) (x3 : Int32), lX10_putName_3 n_bytes n v_size v_bytes x1 x3 = some (o_size, o_bytes) → ∀ (H : Heap) (locs : List Loc), Wd dC dI cI cJ cB cZ cF cG A s H locs [oX10 h_this h_bytes v_size, aB cB h_bytes n_bytes v_bytes] → ∀ (ls : Array Slot), lv_has ls 5 [(0, .ref h_this), (1, .long x1), (3, .int x3)] → W p l e R s m args below meth c H locs 0 0 (MQ below (PQv dC dI cI cJ cB cZ cF cG A [oX10 h_this h_bytes o_size, aB cB h_bytes n_bytes o_bytes]) args s 0 0 A) (F0 m 3 ls []) := by
  obtain ⟨hx, hb, hrt, hml, hown, hts, hlocks⟩ := id C0
  intro n
  induction n with
  | zero =>
    intro v_size v_bytes x1 x3 hr
    exact nomatch (show (none : Option (Int32 × (Nat → Int32))) = some _ from hr)
  | succ n ih =>
    intro v_size v_bytes x1 x3 hr H locs hW ls hl
    obtain ⟨hK, hP, hD, hS⟩ := hW
    have hr : (if x3 < 0 then some (v_size, v_bytes) else nmv (Int64.toInt32 ((x1 >>> (Int32.toInt64 x3 &&& 63)) &&& 31)) (fun w1 => if w1 = 0 then lX10_putName_3 n_bytes n v_size v_bytes x1 (x3 + (-5)) else (fX10_put n_bytes v_size v_bytes (96 + w1)).bind (fun (u1_size, u1_bytes) => lX10_putName_3 n_bytes n u1_size u1_bytes x1 (x3 + (-5)))) : Option (Int32 × (Nat → Int32))) = some (o_size, o_bytes) := hr
    refine lv_iload_n hx hb dX10_putName_3 rfl (lv_at hl 2 rfl) ?_
    refine lv_if_lt (tgt := 37) hx hb dX10_putName_4 (by decide) (fun hc => ?_) (fun hc => ?_)
    · have hr := iteP hc hr
      have q0 := Option.some.inj hr
      obtain ⟨e0, q1⟩ := Prod.mk.inj q0
      subst e0; subst q1
      exact W.vret hx hb hrt (fun t ht hW => ⟨⟨(), rfl, trivial, by rw [ht]; exact hP, va_K.moved hW.alike hK, hD⟩, hS.F ht⟩) hS.2.2 dX10_putName_37 hlocks
    · have hr := iteN hc hr
      refine lv_lload_n hx hb dX10_putName_7 rfl (lv_at hl 1 rfl) ?_
      refine lv_iload_n hx hb dX10_putName_8 rfl (lv_at hl 2 rfl) ?_
      refine lv_lshr (v := (x1 >>> (Int32.toInt64 x3 &&& 63))) hx hb dX10_putName_9 rfl ?_
      refine lv_ldc2 (v := 31) hx hb hown (hts _ (List.mem_cons_of_mem _ U_1153)) dX10_putName_10 ?_
      refine lv_land hx hb dX10_putName_13 ?_
      refine z_pc (pc' := 14) rfl ?_
      refine lv_l2i (v := (Int64.toInt32 ((x1 >>> (Int32.toInt64 x3 &&& 63)) &&& 31))) hx hb dX10_putName_14 rfl ?_
      obtain ⟨w1, hw1, hr⟩ := nm_s hr
      refine z_topi hw1 ?_
      refine lv_istore (lv' := [(4, .int w1), (0, .ref h_this), (1, .long x1), (3, .int x3)]) hx hb dX10_putName_15 hl (by decide) rfl (fun ls hl => ?_)
      refine lv_iload hx hb dX10_putName_17 (lv_at hl 0 rfl) ?_
      refine lv_if_eq (tgt := 31) hx hb dX10_putName_19 (by decide) (fun hc => ?_) (fun hc => ?_)
      · have hr := iteP hc hr
        refine lv_iinc (v := (x3 + (-5))) (lv' := [(3, .int (x3 + (-5))), (4, .int w1), (0, .ref h_this), (1, .long x1)]) hx hb dX10_putName_31 hl (k := 3) rfl rfl (by decide) rfl (fun ls hl => ?_)
        refine lv_goto (tgt := 3) hx hb dX10_putName_34 (by decide) ?_
        exact ih v_size v_bytes x1 (x3 + (-5)) hr _ _ ⟨hK, hP, hD, hS⟩ ls (lv_sub hl [2, 3, 0] rfl)
      · have hr := iteN hc hr
        refine lv_aload_n hx hb dX10_putName_22 rfl (lv_at hl 1 rfl) ?_
        refine lv_bipush (v := 96) hx hb dX10_putName_23 (by decide) ?_
        refine lv_iload hx hb dX10_putName_25 (lv_at hl 0 rfl) ?_
        refine lv_iadd hx hb dX10_putName_27 ?_
        obtain ⟨⟨u1_size, u1_bytes⟩, ho, hr⟩ := bind_s hr
        dsimp only at hr
        have hPc := hP.sub (ws' := [oX10 h_this h_bytes v_size, aB cB h_bytes n_bytes v_bytes]) [0, 1] rfl
        have hDc := hD.sub (ws' := [oX10 h_this h_bytes v_size, aB cB h_bytes n_bytes v_bytes]) [0, 1] (by decide) rfl
        have hFc := va_free (wc := [oX10 h_this h_bytes v_size, aB cB h_bytes n_bytes v_bytes]) hD hS hA [0, 1] rfl
        refine va_callv (va_runV (As := [.int (96 + w1)]) (rest := []) ⟨hx, hb, hml, hown, hts⟩ (mX10_put l dC dI cI cJ cB cZ cF cG h_this h_bytes H.size n_bytes v_size v_bytes (96 + w1) u1_size u1_bytes ho) (cwV 1 hts (goodV U_280 U_281 U_282 U_15 U_283) rfl rfl rfl (by decide +kernel) ⟨Nat.le_trans (by decide) hR.1, Nat.le_trans (Nat.le_of_ble_eq_true rfl) hR.2⟩) ⟨fun a U g mk q => by obtain ⟨q0, q1, qP, qK, qD⟩ := q; exact ⟨q0, q1, qP, va_K.moved (u := U) (U := U.calling g mk a) (Vm.Alike.refl U.vm) qK, qD⟩, va_recv hK hPc (ci := 10) (q0 := 0) rfl rfl, fun U hU hW => ⟨rfl, by rw [hU], by rw [hU]; exact hPc, va_K.moved hW.alike hK, hDc.weaken (fun _ _ _ _ => trivial)⟩⟩ rfl rfl hl.1 rfl (lv_room (Nat.le_of_ble_eq_true rfl)) dX10_putName_28 ⟨Nat.zero_le _, Nat.zero_le _⟩) hS (fun q _ h => hFc q h) hFc (fun u t H1 locs ht hvm hw hB hz1 hk1 hS => ?_)
        obtain ⟨hP1, hK1, hD1⟩ := hB
        rw [ht] at hP1
        obtain ⟨hP, hD⟩ := va_join (wr := []) (w1 := [oX10 h_this h_bytes u1_size, aB cB h_bytes n_bytes u1_bytes]) hP hD [0, 1] [] rfl rfl (by decide) (by decide) hk1 hFc hP1 hD1
        generalize H1 = H at hP hS ⊢
        have hP : va_P (dC, dI) vwCl [oX10 h_this h_bytes u1_size, aB cB h_bytes n_bytes u1_bytes] H := hP
        have hD : va_D A [oX10 h_this h_bytes u1_size, aB cB h_bytes n_bytes u1_bytes] := hD
        refine z_pc (pc' := 31) rfl ?_
        refine lv_iinc (v := (x3 + (-5))) (lv' := [(3, .int (x3 + (-5))), (4, .int w1), (0, .ref h_this), (1, .long x1)]) hx hb dX10_putName_31 hl (k := 3) rfl rfl (by decide) rfl (fun ls hl => ?_)
        refine lv_goto (tgt := 3) hx hb dX10_putName_34 (by decide) ?_
        exact ih u1_size u1_bytes x1 (x3 + (-5)) hr _ _ ⟨hK, hP, hD, hS⟩ ls (lv_sub hl [2, 3, 0] rfl)
set_option maxHeartbeats 4000000 in
set_option maxRecDepth 100000 in
theorem tX10_putName {p : Program} {l : Launch} {e : Env} {R : Room} {s : State} {m : MethodId} {args : Array Value} {below : List Frame} {meth : Method} {c : Code} {dC : Nat → ClassId} {dI : Nat → Nat → Nat} {cI cJ cB cZ cF cG : ClassId} {A : Nat → Prop} (hA : ∀ q : Nat, s.heap.size ≤ q → A q) (C0 : Cx p s m meth c args cX10_putName 5 none RX10 uX10_putName) (hR : 1 ≤ R.frames ∧ 21 ≤ R.locals) (h_this : Nat) (h_bytes : Nat) (n_bytes : Nat) (o_size : Int32) (o_bytes : Nat → Int32) :
    ∀ (v_size : Int32) (v_bytes : Nat → Int32) (x1 : Int64), fX10_putName n_bytes v_size v_bytes x1 = some (o_size, o_bytes) → ∀ (H : Heap) (locs : List Loc), Wd dC dI cI cJ cB cZ cF cG A s H locs [oX10 h_this h_bytes v_size, aB cB h_bytes n_bytes v_bytes] → ∀ (ls : Array Slot), lv_has ls 5 [(0, .ref h_this), (1, .long x1)] → W p l e R s m args below meth c H locs 0 0 (MQ below (PQv dC dI cI cJ cB cZ cF cG A [oX10 h_this h_bytes o_size, aB cB h_bytes n_bytes o_bytes]) args s 0 0 A) (F0 m 0 ls []) := by
  obtain ⟨hx, hb, hrt, hml, hown, hts, hlocks⟩ := id C0
  intro v_size v_bytes x1 hr H locs hW ls hl
  obtain ⟨hK, hP, hD, hS⟩ := hW
  have hr : (lX10_putName_3 n_bytes 5000 v_size v_bytes x1 30 : Option (Int32 × (Nat → Int32))) = some (o_size, o_bytes) := hr
  refine lv_bipush (v := 30) hx hb dX10_putName_0 (by decide) ?_
  refine lv_istore_n (lv' := [(3, .int 30), (0, .ref h_this), (1, .long x1)]) hx hb dX10_putName_2 rfl hl (by decide) rfl (fun ls hl => ?_)
  exact tX10_putName_3 hA C0 hR h_this h_bytes n_bytes o_size o_bytes 5000 v_size v_bytes x1 30 hr _ _ ⟨hK, hP, hD, hS⟩ ls (lv_sub hl [1, 2, 0] rfl)
set_option maxHeartbeats 4000000 in
set_option maxRecDepth 100000 in
theorem mX10_putName (l : Launch) (dC : Nat → ClassId) (dI : Nat → Nat → Nat) (cI cJ cB cZ cF cG : ClassId) (h_this : Nat) (h_bytes : Nat) (sz : Nat) (n_bytes : Nat) (v_size : Int32) (v_bytes : Nat → Int32) (x1 : Int64) (o_size : Int32) (o_bytes : Nat → Int32) (hf : fX10_putName n_bytes v_size v_bytes x1 = some (o_size, o_bytes)) : Met l yX10_putName uX10_putName ({ frames := 1, cells := 0, slots := 0, locals := 21 }) (va_Pc [.ref h_this, .long x1] (fun U => U.heap.size = sz ∧ va_P (dC, dI) vwCl [oX10 h_this h_bytes v_size, aB cB h_bytes n_bytes v_bytes] U.heap ∧ va_K (dC, dI) vwCl (TYS cI cJ cB cZ cF cG) U ∧ va_D (fun _ => True) [oX10 h_this h_bytes v_size, aB cB h_bytes n_bytes v_bytes])) (PQv dC dI cI cJ cB cZ cF cG (va_A [oX10 h_this h_bytes v_size, aB cB h_bytes n_bytes v_bytes] sz) [oX10 h_this h_bytes o_size, aB cB h_bytes n_bytes o_bytes]) 0 0 (va_A [oX10 h_this h_bytes v_size, aB cB h_bytes n_bytes v_bytes] sz) := by
  refine Met.ofW (cc := cX10_putName) (maxL := 5) (ret := none) (by decide) rfl ?_
  intro p e s m args below meth c s₁ B hml hv
  obtain ⟨rfl, hsz, hP, hK, hD0⟩ := hv
  have hx := B.exec
  have hb := B.bytes
  have hr := B.returns
  have hts := atoms_spec (ws := uX10_putName) B.pre
  have hown : s.vm.findClass RX10 = some m.cls := findClass_of_methodNamed B.named
  have hlocks := B.notSynchronized
  subst hsz
  have hD := hD0.self (sz := s.heap.size)
  generalize hAe : va_A [oX10 h_this h_bytes v_size, aB cB h_bytes n_bytes v_bytes] s.heap.size = A at hD ⊢
  have hA : ∀ q : Nat, s.heap.size ≤ q → A q := fun q h => by rw [← hAe]; exact Or.inr h
  have hS : va_S A s.heap s.heap [] := va_S.rf
  have hl := lv_entry ([.ref h_this, .long x1]) (n := 5) (Nat.le_of_ble_eq_true rfl)
  rw [lg_entry_eq]
  generalize (lg_sl ([.ref h_this, .long x1]) ++ List.replicate (5 - (lg_sl ([.ref h_this, .long x1])).length) Slot.unset).toArray = ls at hl ⊢
  have hl : lv_has ls 5 [(0, .ref h_this), (1, .long x1)] := hl
  exact tX10_putName hA ⟨hx, hb, hr, hml, hown, hts, hlocks⟩ ⟨Nat.le_refl _, Nat.le_refl _⟩ h_this h_bytes n_bytes o_size o_bytes v_size v_bytes x1 hf _ _ ⟨hK, hP, hD, hS⟩ ls hl
-- LastSeat$Tape.putNumber(I)V
def uX10_putNumber : List Cond := .code yX10_putNumber cX10_putNumber 4 none :: wsU
set_option maxHeartbeats 4000000 in
set_option maxRecDepth 100000 in
theorem tX10_putNumber_4 {p : Program} {l : Launch} {e : Env} {R : Room} {s : State} {m : MethodId} {args : Array Value} {below : List Frame} {meth : Method} {c : Code} {dC : Nat → ClassId} {dI : Nat → Nat → Nat} {cI cJ cB cZ cF cG : ClassId} {A : Nat → Prop} {k29 : Int32 → (Nat → Int32) → Int32 → Int32 → Option (Int32 × (Nat → Int32))} (hA : ∀ q : Nat, s.heap.size ≤ q → A q) (C0 : Cx p s m meth c args cX10_putNumber 4 none RX10 uX10_putNumber) (hR : 1 ≤ R.frames ∧ 21 ≤ R.locals) (h_this : Nat) (h_bytes : Nat) (n_bytes : Nat) (o_size : Int32) (o_bytes : Nat → Int32) (hk29 : ∀ (v_size : Int32) (v_bytes : Nat → Int32) (x1 : Int32) (x2 : Int32), k29 v_size v_bytes x1 x2 = some (o_size, o_bytes) → ∀ (H : Heap) (locs : List Loc), Wd dC dI cI cJ cB cZ cF cG A s H locs [oX10 h_this h_bytes v_size, aB cB h_bytes n_bytes v_bytes] → ∀ (ls : Array Slot), lv_has ls 4 [(0, .ref h_this), (1, .int x1), (2, .int x2)] → W p l e R s m args below meth c H locs 0 0 (MQ below (PQv dC dI cI cJ cB cZ cF cG A [oX10 h_this h_bytes o_size, aB cB h_bytes n_bytes o_bytes]) args s 0 0 A) (F0 m 29 ls [])) :
    ∀ n : Nat, ∀ (v_size : Int32) (v_bytes : Nat → Int32) (x1 : Int32) (x2 : Int32) (x3 : Int32), lX10_putNumber_4 n_bytes k29 n v_size v_bytes x1 x2 x3 = some (o_size, o_bytes) → ∀ (H : Heap) (locs : List Loc), Wd dC dI cI cJ cB cZ cF cG A s H locs [oX10 h_this h_bytes v_size, aB cB h_bytes n_bytes v_bytes] → ∀ (ls : Array Slot), lv_has ls 4 [(0, .ref h_this), (1, .int x1), (2, .int x2), (3, .int x3)] → W p l e R s m args below meth c H locs 0 0 (MQ below (PQv dC dI cI cJ cB cZ cF cG A [oX10 h_this h_bytes o_size, aB cB h_bytes n_bytes o_bytes]) args s 0 0 A) (F0 m 4 ls []) := by
  obtain ⟨hx, hb, hrt, hml, hown, hts, hlocks⟩ := id C0
  intro n
  induction n with
  | zero =>
    intro v_size v_bytes x1 x2 x3 hr
    exact nomatch (show (none : Option (Int32 × (Nat → Int32))) = some _ from hr)
  | succ n ih =>
    intro v_size v_bytes x1 x2 x3 hr H locs hW ls hl
    obtain ⟨hK, hP, hD, hS⟩ := hW
    have hr : (if 6 ≤ x3 then k29 v_size v_bytes x1 x2 else if (x1 / 10) < x2 then k29 v_size v_bytes x1 x2 else lX10_putNumber_4 n_bytes k29 n v_size v_bytes x1 (x2 * 10) (x3 + 1) : Option (Int32 × (Nat → Int32))) = some (o_size, o_bytes) := hr
    refine lv_iload_n hx hb dX10_putNumber_4 rfl (lv_at hl 3 rfl) ?_
    refine lv_bipush (v := 6) hx hb dX10_putNumber_5 (by decide) ?_
    refine lv_icmp_ge (tgt := 29) hx hb dX10_putNumber_7 (by decide) (fun hc => ?_) (fun hc => ?_)
    · have hr := iteP hc hr
      exact hk29 v_size v_bytes x1 x2 hr _ _ ⟨hK, hP, hD, hS⟩ ls (lv_sub hl [0, 1, 2] rfl)
    · have hr := iteN hc hr
      refine lv_iload_n hx hb dX10_putNumber_10 rfl (lv_at hl 1 rfl) ?_
      refine lv_bipush (v := 10) hx hb dX10_putNumber_11 (by decide) ?_
      refine lv_idiv hx hb dX10_putNumber_13 (by decide) ?_
      refine lv_iload_n hx hb dX10_putNumber_14 rfl (lv_at hl 2 rfl) ?_
      refine lv_icmp_lt (tgt := 29) hx hb dX10_putNumber_15 (by decide) (fun hc => ?_) (fun hc => ?_)
      · have hr := iteP hc hr
        exact hk29 v_size v_bytes x1 x2 hr _ _ ⟨hK, hP, hD, hS⟩ ls (lv_sub hl [0, 1, 2] rfl)
      · have hr := iteN hc hr
        refine lv_iload_n hx hb dX10_putNumber_18 rfl (lv_at hl 2 rfl) ?_
        refine lv_bipush (v := 10) hx hb dX10_putNumber_19 (by decide) ?_
        refine lv_imul hx hb dX10_putNumber_21 ?_
        refine lv_istore_n (lv' := [(2, .int (x2 * 10)), (0, .ref h_this), (1, .int x1), (3, .int x3)]) hx hb dX10_putNumber_22 rfl hl (by decide) rfl (fun ls hl => ?_)
        refine lv_iinc (v := (x3 + 1)) (lv' := [(3, .int (x3 + 1)), (2, .int (x2 * 10)), (0, .ref h_this), (1, .int x1)]) hx hb dX10_putNumber_23 hl (k := 3) rfl rfl (by decide) rfl (fun ls hl => ?_)
        refine z_pc (pc' := 26) rfl ?_
        refine lv_goto (tgt := 4) hx hb dX10_putNumber_26 (by decide) ?_
        exact ih v_size v_bytes x1 (x2 * 10) (x3 + 1) hr _ _ ⟨hK, hP, hD, hS⟩ ls (lv_sub hl [2, 3, 1, 0] rfl)
set_option maxHeartbeats 4000000 in
set_option maxRecDepth 100000 in
theorem tX10_putNumber_29 {p : Program} {l : Launch} {e : Env} {R : Room} {s : State} {m : MethodId} {args : Array Value} {below : List Frame} {meth : Method} {c : Code} {dC : Nat → ClassId} {dI : Nat → Nat → Nat} {cI cJ cB cZ cF cG : ClassId} {A : Nat → Prop} (hA : ∀ q : Nat, s.heap.size ≤ q → A q) (C0 : Cx p s m meth c args cX10_putNumber 4 none RX10 uX10_putNumber) (hR : 1 ≤ R.frames ∧ 21 ≤ R.locals) (h_this : Nat) (h_bytes : Nat) (n_bytes : Nat) (o_size : Int32) (o_bytes : Nat → Int32) :
    ∀ n : Nat, ∀ (v_size : Int32) (v_bytes : Nat → Int32) (x1 : Int32) (x2 : Int32), lX10_putNumber_29 n_bytes n v_size v_bytes x1 x2 = some (o_size, o_bytes) → ∀ (H : Heap) (locs : List Loc), Wd dC dI cI cJ cB cZ cF cG A s H locs [oX10 h_this h_bytes v_size, aB cB h_bytes n_bytes v_bytes] → ∀ (ls : Array Slot), lv_has ls 4 [(0, .ref h_this), (1, .int x1), (2, .int x2)] → W p l e R s m args below meth c H locs 0 0 (MQ below (PQv dC dI cI cJ cB cZ cF cG A [oX10 h_this h_bytes o_size, aB cB h_bytes n_bytes o_bytes]) args s 0 0 A) (F0 m 29 ls []) := by
  obtain ⟨hx, hb, hrt, hml, hown, hts, hlocks⟩ := id C0
  intro n
  induction n with
  | zero =>
    intro v_size v_bytes x1 x2 hr
    exact nomatch (show (none : Option (Int32 × (Nat → Int32))) = some _ from hr)
  | succ n ih =>
    intro v_size v_bytes x1 x2 hr H locs hW ls hl
    obtain ⟨hK, hP, hD, hS⟩ := hW
    have hr : (if x2 ≤ 0 then some (v_size, v_bytes) else gZ x2 (nmv (48 + ((x1 / x2) - (x1 / x2) / 10 * 10)) (fun w1 => (fX10_put n_bytes v_size v_bytes w1).bind (fun (u1_size, u1_bytes) => lX10_putNumber_29 n_bytes n u1_size u1_bytes x1 (x2 / 10)))) : Option (Int32 × (Nat → Int32))) = some (o_size, o_bytes) := hr
    refine lv_iload_n hx hb dX10_putNumber_29 rfl (lv_at hl 2 rfl) ?_
    refine lv_if_le (tgt := 54) hx hb dX10_putNumber_30 (by decide) (fun hc => ?_) (fun hc => ?_)
    · have hr := iteP hc hr
      have q0 := Option.some.inj hr
      obtain ⟨e0, q1⟩ := Prod.mk.inj q0
      subst e0; subst q1
      exact W.vret hx hb hrt (fun t ht hW => ⟨⟨(), rfl, trivial, by rw [ht]; exact hP, va_K.moved hW.alike hK, hD⟩, hS.F ht⟩) hS.2.2 dX10_putNumber_54 hlocks
    · have hr := iteN hc hr
      refine lv_aload_n hx hb dX10_putNumber_33 rfl (lv_at hl 0 rfl) ?_
      refine lv_bipush (v := 48) hx hb dX10_putNumber_34 (by decide) ?_
      refine lv_iload_n hx hb dX10_putNumber_36 rfl (lv_at hl 1 rfl) ?_
      refine lv_iload_n hx hb dX10_putNumber_37 rfl (lv_at hl 2 rfl) ?_
      obtain ⟨hz, hr⟩ := gZ_s hr
      refine lv_idiv hx hb dX10_putNumber_38 hz ?_
      refine z_pc (pc' := 39) rfl ?_
      refine lv_bipush (v := 10) hx hb dX10_putNumber_39 (by decide) ?_
      refine lv_irem hx hb dX10_putNumber_41 (by decide) ?_
      refine lv_iadd hx hb dX10_putNumber_42 ?_
      obtain ⟨w1, hw1, hr⟩ := nm_s hr
      refine z_topi hw1 ?_
      obtain ⟨⟨u1_size, u1_bytes⟩, ho, hr⟩ := bind_s hr
      dsimp only at hr
      have hPc := hP.sub (ws' := [oX10 h_this h_bytes v_size, aB cB h_bytes n_bytes v_bytes]) [0, 1] rfl
      have hDc := hD.sub (ws' := [oX10 h_this h_bytes v_size, aB cB h_bytes n_bytes v_bytes]) [0, 1] (by decide) rfl
      have hFc := va_free (wc := [oX10 h_this h_bytes v_size, aB cB h_bytes n_bytes v_bytes]) hD hS hA [0, 1] rfl
      refine va_callv (va_runV (As := [.int w1]) (rest := []) ⟨hx, hb, hml, hown, hts⟩ (mX10_put l dC dI cI cJ cB cZ cF cG h_this h_bytes H.size n_bytes v_size v_bytes w1 u1_size u1_bytes ho) (cwV 1 hts (goodV U_280 U_281 U_282 U_15 U_283) rfl rfl rfl (by decide +kernel) ⟨Nat.le_trans (by decide) hR.1, Nat.le_trans (Nat.le_of_ble_eq_true rfl) hR.2⟩) ⟨fun a U g mk q => by obtain ⟨q0, q1, qP, qK, qD⟩ := q; exact ⟨q0, q1, qP, va_K.moved (u := U) (U := U.calling g mk a) (Vm.Alike.refl U.vm) qK, qD⟩, va_recv hK hPc (ci := 10) (q0 := 0) rfl rfl, fun U hU hW => ⟨rfl, by rw [hU], by rw [hU]; exact hPc, va_K.moved hW.alike hK, hDc.weaken (fun _ _ _ _ => trivial)⟩⟩ rfl rfl hl.1 rfl (lv_room (Nat.le_of_ble_eq_true rfl)) dX10_putNumber_43 ⟨Nat.zero_le _, Nat.zero_le _⟩) hS (fun q _ h => hFc q h) hFc (fun u t H1 locs ht hvm hw hB hz1 hk1 hS => ?_)
      obtain ⟨hP1, hK1, hD1⟩ := hB
      rw [ht] at hP1
      obtain ⟨hP, hD⟩ := va_join (wr := []) (w1 := [oX10 h_this h_bytes u1_size, aB cB h_bytes n_bytes u1_bytes]) hP hD [0, 1] [] rfl rfl (by decide) (by decide) hk1 hFc hP1 hD1
      generalize H1 = H at hP hS ⊢
      have hP : va_P (dC, dI) vwCl [oX10 h_this h_bytes u1_size, aB cB h_bytes n_bytes u1_bytes] H := hP
      have hD : va_D A [oX10 h_this h_bytes u1_size, aB cB h_bytes n_bytes u1_bytes] := hD
      refine lv_iload_n hx hb dX10_putNumber_46 rfl (lv_at hl 2 rfl) ?_
      refine lv_bipush (v := 10) hx hb dX10_putNumber_47 (by decide) ?_
      refine z_pc (pc' := 49) rfl ?_
      refine lv_idiv hx hb dX10_putNumber_49 (by decide) ?_
      refine lv_istore_n (lv' := [(2, .int (x2 / 10)), (0, .ref h_this), (1, .int x1)]) hx hb dX10_putNumber_50 rfl hl (by decide) rfl (fun ls hl => ?_)
      refine lv_goto (tgt := 29) hx hb dX10_putNumber_51 (by decide) ?_
      exact ih u1_size u1_bytes x1 (x2 / 10) hr _ _ ⟨hK, hP, hD, hS⟩ ls (lv_sub hl [1, 2, 0] rfl)
set_option maxHeartbeats 4000000 in
set_option maxRecDepth 100000 in
theorem tX10_putNumber {p : Program} {l : Launch} {e : Env} {R : Room} {s : State} {m : MethodId} {args : Array Value} {below : List Frame} {meth : Method} {c : Code} {dC : Nat → ClassId} {dI : Nat → Nat → Nat} {cI cJ cB cZ cF cG : ClassId} {A : Nat → Prop} (hA : ∀ q : Nat, s.heap.size ≤ q → A q) (C0 : Cx p s m meth c args cX10_putNumber 4 none RX10 uX10_putNumber) (hR : 1 ≤ R.frames ∧ 21 ≤ R.locals) (h_this : Nat) (h_bytes : Nat) (n_bytes : Nat) (o_size : Int32) (o_bytes : Nat → Int32) :
    ∀ (v_size : Int32) (v_bytes : Nat → Int32) (x1 : Int32), fX10_putNumber n_bytes v_size v_bytes x1 = some (o_size, o_bytes) → ∀ (H : Heap) (locs : List Loc), Wd dC dI cI cJ cB cZ cF cG A s H locs [oX10 h_this h_bytes v_size, aB cB h_bytes n_bytes v_bytes] → ∀ (ls : Array Slot), lv_has ls 4 [(0, .ref h_this), (1, .int x1)] → W p l e R s m args below meth c H locs 0 0 (MQ below (PQv dC dI cI cJ cB cZ cF cG A [oX10 h_this h_bytes o_size, aB cB h_bytes n_bytes o_bytes]) args s 0 0 A) (F0 m 0 ls []) := by
  obtain ⟨hx, hb, hrt, hml, hown, hts, hlocks⟩ := id C0
  intro v_size v_bytes x1 hr H locs hW ls hl
  obtain ⟨hK, hP, hD, hS⟩ := hW
  have hr : (lX10_putNumber_4 n_bytes (lX10_putNumber_29 n_bytes 5000) 5000 v_size v_bytes x1 1 1 : Option (Int32 × (Nat → Int32))) = some (o_size, o_bytes) := hr
  refine lv_iconst (v := 1) hx hb dX10_putNumber_0 (by decide) ?_
  refine lv_istore_n (lv' := [(2, .int 1), (0, .ref h_this), (1, .int x1)]) hx hb dX10_putNumber_1 rfl hl (by decide) rfl (fun ls hl => ?_)
  refine lv_iconst (v := 1) hx hb dX10_putNumber_2 (by decide) ?_
  refine lv_istore_n (lv' := [(3, .int 1), (2, .int 1), (0, .ref h_this), (1, .int x1)]) hx hb dX10_putNumber_3 rfl hl (by decide) rfl (fun ls hl => ?_)
  exact tX10_putNumber_4 hA C0 hR h_this h_bytes n_bytes o_size o_bytes (tX10_putNumber_29 hA C0 hR h_this h_bytes n_bytes o_size o_bytes 5000) 5000 v_size v_bytes x1 1 1 hr _ _ ⟨hK, hP, hD, hS⟩ ls (lv_sub hl [2, 3, 1, 0] rfl)
set_option maxHeartbeats 4000000 in
set_option maxRecDepth 100000 in
theorem mX10_putNumber (l : Launch) (dC : Nat → ClassId) (dI : Nat → Nat → Nat) (cI cJ cB cZ cF cG : ClassId) (h_this : Nat) (h_bytes : Nat) (sz : Nat) (n_bytes : Nat) (v_size : Int32) (v_bytes : Nat → Int32) (x1 : Int32) (o_size : Int32) (o_bytes : Nat → Int32) (hf : fX10_putNumber n_bytes v_size v_bytes x1 = some (o_size, o_bytes)) : Met l yX10_putNumber uX10_putNumber ({ frames := 1, cells := 0, slots := 0, locals := 21 }) (va_Pc [.ref h_this, .int x1] (fun U => U.heap.size = sz ∧ va_P (dC, dI) vwCl [oX10 h_this h_bytes v_size, aB cB h_bytes n_bytes v_bytes] U.heap ∧ va_K (dC, dI) vwCl (TYS cI cJ cB cZ cF cG) U ∧ va_D (fun _ => True) [oX10 h_this h_bytes v_size, aB cB h_bytes n_bytes v_bytes])) (PQv dC dI cI cJ cB cZ cF cG (va_A [oX10 h_this h_bytes v_size, aB cB h_bytes n_bytes v_bytes] sz) [oX10 h_this h_bytes o_size, aB cB h_bytes n_bytes o_bytes]) 0 0 (va_A [oX10 h_this h_bytes v_size, aB cB h_bytes n_bytes v_bytes] sz) := by
  refine Met.ofW (cc := cX10_putNumber) (maxL := 4) (ret := none) (by decide) rfl ?_
  intro p e s m args below meth c s₁ B hml hv
  obtain ⟨rfl, hsz, hP, hK, hD0⟩ := hv
  have hx := B.exec
  have hb := B.bytes
  have hr := B.returns
  have hts := atoms_spec (ws := uX10_putNumber) B.pre
  have hown : s.vm.findClass RX10 = some m.cls := findClass_of_methodNamed B.named
  have hlocks := B.notSynchronized
  subst hsz
  have hD := hD0.self (sz := s.heap.size)
  generalize hAe : va_A [oX10 h_this h_bytes v_size, aB cB h_bytes n_bytes v_bytes] s.heap.size = A at hD ⊢
  have hA : ∀ q : Nat, s.heap.size ≤ q → A q := fun q h => by rw [← hAe]; exact Or.inr h
  have hS : va_S A s.heap s.heap [] := va_S.rf
  have hl := lv_entry ([.ref h_this, .int x1]) (n := 4) (Nat.le_of_ble_eq_true rfl)
  rw [lg_entry_eq]
  generalize (lg_sl ([.ref h_this, .int x1]) ++ List.replicate (4 - (lg_sl ([.ref h_this, .int x1])).length) Slot.unset).toArray = ls at hl ⊢
  have hl : lv_has ls 4 [(0, .ref h_this), (1, .int x1)] := hl
  exact tX10_putNumber hA ⟨hx, hb, hr, hml, hown, hts, hlocks⟩ ⟨Nat.le_refl _, Nat.le_refl _⟩ h_this h_bytes n_bytes o_size o_bytes v_size v_bytes x1 hf _ _ ⟨hK, hP, hD, hS⟩ ls hl
