def fX11_guest (v_hallNow_guests : Int32) (v_hallNow_pride : Nat → Int32) (v_hallNow_speed : Nat → Int32) (v_hallNow_payer : Nat → Int32) (v_feast_sitting : Int32) (v_feast_coins : Nat → Int32) (v_feast_chairOf : Nat → Int32) (v_feast_tired : Nat → Int32) (v_feast_hosted : Nat → Int32) (v_feast_owed : Nat → Int32) (v_feast_paid : Nat → Int32) (x1 : Int32) (x2 : Int32) : Option (Int32) := (fX2_hasGuest v_hallNow_guests x1).bind (fun r_1 => if r_1 = 0 then none else if x2 = 0 then gI x1 7 (some (v_feast_coins (Int32.toNatClampNeg x1))) else if x2 = 1 then gI x1 7 (some (v_hallNow_pride (Int32.toNatClampNeg x1))) else if x2 = 2 then gI x1 7 (some (v_hallNow_speed (Int32.toNatClampNeg x1))) else if x2 = 3 then gI x1 7 (some (v_feast_chairOf (Int32.toNatClampNeg x1))) else if x2 = 4 then (fX1_isSeated v_feast_sitting x1).bind (fun r_2 => if r_2 = 0 then some 0 else some 1) else if x2 = 5 then gI x1 7 (some (v_feast_tired (Int32.toNatClampNeg x1))) else if x2 = 6 then gI x1 7 (some (v_feast_hosted (Int32.toNatClampNeg x1))) else if x2 = 7 then gI x1 7 (some (v_feast_owed (Int32.toNatClampNeg x1))) else if x2 = 8 then gI x1 7 (some (v_feast_paid (Int32.toNatClampNeg x1))) else if x2 = 9 then gI x1 7 (some (v_hallNow_payer (Int32.toNatClampNeg x1))) else none)
-- LastSeat.guest(II)I
def uX11_guest : List Cond := .code yX11_guest cX11_guest 3 (some .int) :: wsU
set_option maxHeartbeats 4000000 in
set_option maxRecDepth 100000 in
theorem tX11_guest {p : Program} {l : Launch} {e : Env} {R : Room} {s : State} {m : MethodId} {args : Array Value} {below : List Frame} {meth : Method} {c : Code} {dC : Nat → ClassId} {dI : Nat → Nat → Nat} {cI cJ cB cZ cF cG : ClassId} {A : Nat → Prop} (hA : ∀ q : Nat, s.heap.size ≤ q → A q) (C0 : Cx p s m meth c args cX11_guest 3 (some .int) RX11 uX11_guest) (hR : 1 ≤ R.frames ∧ 21 ≤ R.locals) (h_this : Nat) (h_hallNow : Nat) (h_hallNow_pride : Nat) (h_hallNow_speed : Nat) (h_hallNow_payer : Nat) (h_feast : Nat) (h_feast_coins : Nat) (h_feast_chairOf : Nat) (h_feast_tired : Nat) (h_feast_hosted : Nat) (h_feast_owed : Nat) (h_feast_paid : Nat) (h_tape : Nat) (h_written : Nat) (h_hallText : Nat) (h_acts : Nat) (h_seer : Nat) (h_ledger : Nat) (h_saying : Nat) (h_sayingText : Nat) (h_images : Nat) (h_hallNow_guestName : Nat) (h_hallNow_coins : Nat) (h_hallNow_place : Nat) (h_hallNow_dishName : Nat) (h_hallNow_cost : Nat) (v_lastFault : Int32) (v_hallNow_chairs : Int32) (v_hallNow_guests : Int32) (v_hallNow_dishes : Int32) (v_hallNow_pride : Nat → Int32) (v_hallNow_speed : Nat → Int32) (v_hallNow_payer : Nat → Int32) (v_feast_sitting : Int32) (v_feast_taken : Int32) (v_feast_served : Int32) (v_feast_hidden : Int32) (v_feast_round : Int32) (v_feast_over : Int32) (v_feast_host : Int32) (v_feast_paidInAll : Int32) (v_feast_lot : Int32) (v_feast_coins : Nat → Int32) (v_feast_chairOf : Nat → Int32) (v_feast_tired : Nat → Int32) (v_feast_hosted : Nat → Int32) (v_feast_owed : Nat → Int32) (v_feast_paid : Nat → Int32) (o_r : Int32) :
    ∀ (x1 : Int32) (x2 : Int32), fX11_guest v_hallNow_guests v_hallNow_pride v_hallNow_speed v_hallNow_payer v_feast_sitting v_feast_coins v_feast_chairOf v_feast_tired v_feast_hosted v_feast_owed v_feast_paid x1 x2 = some o_r → ∀ (H : Heap) (locs : List Loc), Wd dC dI cI cJ cB cZ cF cG A s H locs [oX11 h_this h_tape h_written h_hallNow h_feast h_hallText h_acts h_seer h_ledger h_saying h_sayingText h_images v_lastFault, oX2 h_hallNow h_hallNow_guestName h_hallNow_coins h_hallNow_pride h_hallNow_speed h_hallNow_place h_hallNow_payer h_hallNow_dishName h_hallNow_cost v_hallNow_chairs v_hallNow_guests v_hallNow_dishes, aI cI h_hallNow_pride 7 v_hallNow_pride, aI cI h_hallNow_speed 7 v_hallNow_speed, aI cI h_hallNow_payer 7 v_hallNow_payer, oX1 h_feast h_hallNow h_feast_coins h_feast_chairOf h_feast_tired h_feast_hosted h_feast_owed h_feast_paid v_feast_sitting v_feast_taken v_feast_served v_feast_hidden v_feast_round v_feast_over v_feast_host v_feast_paidInAll v_feast_lot, aI cI h_feast_coins 7 v_feast_coins, aI cI h_feast_chairOf 7 v_feast_chairOf, aI cI h_feast_tired 7 v_feast_tired, aI cI h_feast_hosted 7 v_feast_hosted, aI cI h_feast_owed 7 v_feast_owed, aI cI h_feast_paid 7 v_feast_paid] → ∀ (ls : Array Slot), lv_has ls 3 [(0, .ref h_this), (1, .int x1), (2, .int x2)] → W p l e R s m args below meth c H locs 0 0 (MQ below (PQi dC dI cI cJ cB cZ cF cG A o_r [oX11 h_this h_tape h_written h_hallNow h_feast h_hallText h_acts h_seer h_ledger h_saying h_sayingText h_images v_lastFault, oX2 h_hallNow h_hallNow_guestName h_hallNow_coins h_hallNow_pride h_hallNow_speed h_hallNow_place h_hallNow_payer h_hallNow_dishName h_hallNow_cost v_hallNow_chairs v_hallNow_guests v_hallNow_dishes, aI cI h_hallNow_pride 7 v_hallNow_pride, aI cI h_hallNow_speed 7 v_hallNow_speed, aI cI h_hallNow_payer 7 v_hallNow_payer, oX1 h_feast h_hallNow h_feast_coins h_feast_chairOf h_feast_tired h_feast_hosted h_feast_owed h_feast_paid v_feast_sitting v_feast_taken v_feast_served v_feast_hidden v_feast_round v_feast_over v_feast_host v_feast_paidInAll v_feast_lot, aI cI h_feast_coins 7 v_feast_coins, aI cI h_feast_chairOf 7 v_feast_chairOf, aI cI h_feast_tired 7 v_feast_tired, aI cI h_feast_hosted 7 v_feast_hosted, aI cI h_feast_owed 7 v_feast_owed, aI cI h_feast_paid 7 v_feast_paid]) args s 0 0 A) (F0 m 0 ls []) := by
  obtain ⟨hx, hb, hrt, hml, hown, hts, hlocks⟩ := id C0
  intro x1 x2 hr H locs hW ls hl
  obtain ⟨hK, hP, hD, hS⟩ := hW
  have hr : ((fX2_hasGuest v_hallNow_guests x1).bind (fun r_1 => if r_1 = 0 then none else if x2 = 0 then gI x1 7 (some (v_feast_coins (Int32.toNatClampNeg x1))) else if x2 = 1 then gI x1 7 (some (v_hallNow_pride (Int32.toNatClampNeg x1))) else if x2 = 2 then gI x1 7 (some (v_hallNow_speed (Int32.toNatClampNeg x1))) else if x2 = 3 then gI x1 7 (some (v_feast_chairOf (Int32.toNatClampNeg x1))) else if x2 = 4 then (fX1_isSeated v_feast_sitting x1).bind (fun r_2 => if r_2 = 0 then some 0 else some 1) else if x2 = 5 then gI x1 7 (some (v_feast_tired (Int32.toNatClampNeg x1))) else if x2 = 6 then gI x1 7 (some (v_feast_hosted (Int32.toNatClampNeg x1))) else if x2 = 7 then gI x1 7 (some (v_feast_owed (Int32.toNatClampNeg x1))) else if x2 = 8 then gI x1 7 (some (v_feast_paid (Int32.toNatClampNeg x1))) else if x2 = 9 then gI x1 7 (some (v_hallNow_payer (Int32.toNatClampNeg x1))) else none) : Option (Int32)) = some o_r := hr
  refine lv_aload_n hx hb dX11_guest_0 rfl (lv_at hl 0 rfl) ?_
  refine va_get (D := (dC, dI)) (ci := 11) (v := .ref h_hallNow) (C := RX11) (T := TX11) (N := 12) hx hb hts (fun w h => List.mem_cons_of_mem _ (inU_11 w h)) hown hK hP 0 rfl rfl 2 (by decide) (hts _ (List.mem_cons_of_mem _ U_24)) (fun _ h9 => h9) rfl dX11_guest_1 ?_
  refine lv_iload_n hx hb dX11_guest_4 rfl (lv_at hl 1 rfl) ?_
  obtain ⟨r_1, ho, hr⟩ := bind_s hr
  have hPc := hP.sub (ws' := [oX2 h_hallNow h_hallNow_guestName h_hallNow_coins h_hallNow_pride h_hallNow_speed h_hallNow_place h_hallNow_payer h_hallNow_dishName h_hallNow_cost v_hallNow_chairs v_hallNow_guests v_hallNow_dishes]) [1] rfl
  have hDc := hD.sub (ws' := [oX2 h_hallNow h_hallNow_guestName h_hallNow_coins h_hallNow_pride h_hallNow_speed h_hallNow_place h_hallNow_payer h_hallNow_dishName h_hallNow_cost v_hallNow_chairs v_hallNow_guests v_hallNow_dishes]) [1] (by decide) rfl
  have hFc := va_free (wc := [oX2 h_hallNow h_hallNow_guestName h_hallNow_coins h_hallNow_pride h_hallNow_speed h_hallNow_place h_hallNow_payer h_hallNow_dishName h_hallNow_cost v_hallNow_chairs v_hallNow_guests v_hallNow_dishes]) hD hS hA [1] rfl
  refine va_calli (va_runV (As := [.int x1]) (rest := []) ⟨hx, hb, hml, hown, hts⟩ (mX2_hasGuest l dC dI cI cJ cB cZ cF cG h_hallNow h_hallNow_guestName h_hallNow_coins h_hallNow_pride h_hallNow_speed h_hallNow_place h_hallNow_payer h_hallNow_dishName h_hallNow_cost H.size v_hallNow_chairs v_hallNow_guests v_hallNow_dishes x1 r_1 ho) (cwV 1 hts (goodV U_585 U_586 U_587 U_23 U_588) rfl rfl rfl (by decide +kernel) ⟨Nat.le_trans (by decide) hR.1, Nat.le_trans (Nat.le_of_ble_eq_true rfl) hR.2⟩) ⟨fun a U g mk q => by obtain ⟨q0, q1, qP, qK, qD⟩ := q; exact ⟨q0, q1, qP, va_K.moved (u := U) (U := U.calling g mk a) (Vm.Alike.refl U.vm) qK, qD⟩, va_recv hK hPc (ci := 2) (q0 := 0) rfl rfl, fun U hU hW => ⟨rfl, by rw [hU], by rw [hU]; exact hPc, va_K.moved hW.alike hK, hDc.weaken (fun _ _ _ _ => trivial)⟩⟩ rfl rfl hl.1 rfl (lv_room (Nat.le_of_ble_eq_true rfl)) dX11_guest_5 ⟨Nat.zero_le _, Nat.zero_le _⟩) hS (fun q _ h => hFc q h) hFc (fun rz u t H1 locs ht hvm hw hB hz1 hk1 hS => ?_)
  obtain ⟨hP1, hK1, hD1⟩ := hB
  obtain ⟨hw, hz_1⟩ := hw
  have hw := hw.symm; subst hw
  rw [ht] at hP1
  obtain ⟨hP, hD⟩ := va_join (wr := [oX11 h_this h_tape h_written h_hallNow h_feast h_hallText h_acts h_seer h_ledger h_saying h_sayingText h_images v_lastFault, aI cI h_hallNow_pride 7 v_hallNow_pride, aI cI h_hallNow_speed 7 v_hallNow_speed, aI cI h_hallNow_payer 7 v_hallNow_payer, oX1 h_feast h_hallNow h_feast_coins h_feast_chairOf h_feast_tired h_feast_hosted h_feast_owed h_feast_paid v_feast_sitting v_feast_taken v_feast_served v_feast_hidden v_feast_round v_feast_over v_feast_host v_feast_paidInAll v_feast_lot, aI cI h_feast_coins 7 v_feast_coins, aI cI h_feast_chairOf 7 v_feast_chairOf, aI cI h_feast_tired 7 v_feast_tired, aI cI h_feast_hosted 7 v_feast_hosted, aI cI h_feast_owed 7 v_feast_owed, aI cI h_feast_paid 7 v_feast_paid]) (w1 := [oX2 h_hallNow h_hallNow_guestName h_hallNow_coins h_hallNow_pride h_hallNow_speed h_hallNow_place h_hallNow_payer h_hallNow_dishName h_hallNow_cost v_hallNow_chairs v_hallNow_guests v_hallNow_dishes]) hP hD [1] [0, 2, 3, 4, 5, 6, 7, 8, 9, 10, 11] rfl rfl (by decide) (by decide) hk1 hFc hP1 hD1
  generalize H1 = H at hP hS ⊢
  have hP := hP.sub (ws' := [oX11 h_this h_tape h_written h_hallNow h_feast h_hallText h_acts h_seer h_ledger h_saying h_sayingText h_images v_lastFault, oX2 h_hallNow h_hallNow_guestName h_hallNow_coins h_hallNow_pride h_hallNow_speed h_hallNow_place h_hallNow_payer h_hallNow_dishName h_hallNow_cost v_hallNow_chairs v_hallNow_guests v_hallNow_dishes, aI cI h_hallNow_pride 7 v_hallNow_pride, aI cI h_hallNow_speed 7 v_hallNow_speed, aI cI h_hallNow_payer 7 v_hallNow_payer, oX1 h_feast h_hallNow h_feast_coins h_feast_chairOf h_feast_tired h_feast_hosted h_feast_owed h_feast_paid v_feast_sitting v_feast_taken v_feast_served v_feast_hidden v_feast_round v_feast_over v_feast_host v_feast_paidInAll v_feast_lot, aI cI h_feast_coins 7 v_feast_coins, aI cI h_feast_chairOf 7 v_feast_chairOf, aI cI h_feast_tired 7 v_feast_tired, aI cI h_feast_hosted 7 v_feast_hosted, aI cI h_feast_owed 7 v_feast_owed, aI cI h_feast_paid 7 v_feast_paid]) [0, 11, 1, 2, 3, 4, 5, 6, 7, 8, 9, 10] rfl
  have hD := hD.sub (ws' := [oX11 h_this h_tape h_written h_hallNow h_feast h_hallText h_acts h_seer h_ledger h_saying h_sayingText h_images v_lastFault, oX2 h_hallNow h_hallNow_guestName h_hallNow_coins h_hallNow_pride h_hallNow_speed h_hallNow_place h_hallNow_payer h_hallNow_dishName h_hallNow_cost v_hallNow_chairs v_hallNow_guests v_hallNow_dishes, aI cI h_hallNow_pride 7 v_hallNow_pride, aI cI h_hallNow_speed 7 v_hallNow_speed, aI cI h_hallNow_payer 7 v_hallNow_payer, oX1 h_feast h_hallNow h_feast_coins h_feast_chairOf h_feast_tired h_feast_hosted h_feast_owed h_feast_paid v_feast_sitting v_feast_taken v_feast_served v_feast_hidden v_feast_round v_feast_over v_feast_host v_feast_paidInAll v_feast_lot, aI cI h_feast_coins 7 v_feast_coins, aI cI h_feast_chairOf 7 v_feast_chairOf, aI cI h_feast_tired 7 v_feast_tired, aI cI h_feast_hosted 7 v_feast_hosted, aI cI h_feast_owed 7 v_feast_owed, aI cI h_feast_paid 7 v_feast_paid]) [0, 11, 1, 2, 3, 4, 5, 6, 7, 8, 9, 10] (by decide) rfl
  refine lv_if_ne (tgt := 21) hx hb dX11_guest_8 (by decide) (fun hc => ?_) (fun hc => ?_)
  · have hr := iteN hc hr
    refine lv_iload_n hx hb dX11_guest_21 rfl (lv_at hl 2 rfl) ?_
    by_cases hc0 : x2 = 0
    · have hr := iteP hc0 hr
      refine lv_tableIn (tgt := 76) hx hb dX11_guest_22 (by rw [hc0]; decide) (by rw [hc0]; decide) (by rw [hc0]; rfl) (by decide) ?_
      refine lv_aload_n hx hb dX11_guest_76 rfl (lv_at hl 0 rfl) ?_
      refine va_get (D := (dC, dI)) (ci := 11) (v := .ref h_feast) (C := RX11) (T := TX11) (N := 12) hx hb hts (fun w h => List.mem_cons_of_mem _ (inU_11 w h)) hown hK hP 0 rfl rfl 3 (by decide) (hts _ (List.mem_cons_of_mem _ U_28)) (fun _ h9 => h9) rfl dX11_guest_77 ?_
      refine va_get (D := (dC, dI)) (ci := 1) (v := .ref h_feast_coins) (C := RX1) (T := TX1) (N := 16) hx hb hts (fun w h => List.mem_cons_of_mem _ (inU_1 w h)) hown hK hP 5 rfl rfl 1 (by decide) (hts _ (List.mem_cons_of_mem _ U_576)) (fun _ h9 => h9) rfl dX11_guest_80 ?_
      refine lv_iload_n hx hb dX11_guest_83 rfl (lv_at hl 1 rfl) ?_
      obtain ⟨hg, hr⟩ := gI_s hr
      refine z_iald hx hb hK hP 6 0 rfl rfl hg rfl dX11_guest_84 ?_
      refine z_pc (pc' := 85) rfl ?_
      have q0 := Option.some.inj hr
      subst q0
      exact W.iret (v := (v_feast_coins (Int32.toNatClampNeg x1))) hx hb hrt (fun t ht hW => ⟨⟨(v_feast_coins (Int32.toNatClampNeg x1)), (), rfl, rfl, by rw [ht]; exact hP, va_K.moved hW.alike hK, hD⟩, hS.F ht⟩) hS.2.2 dX11_guest_85 hlocks
    have hr := iteN hc0 hr
    by_cases hc1 : x2 = 1
    · have hr := iteP hc1 hr
      refine lv_tableIn (tgt := 86) hx hb dX11_guest_22 (by rw [hc1]; decide) (by rw [hc1]; decide) (by rw [hc1]; rfl) (by decide) ?_
      refine lv_aload_n hx hb dX11_guest_86 rfl (lv_at hl 0 rfl) ?_
      refine va_get (D := (dC, dI)) (ci := 11) (v := .ref h_hallNow) (C := RX11) (T := TX11) (N := 12) hx hb hts (fun w h => List.mem_cons_of_mem _ (inU_11 w h)) hown hK hP 0 rfl rfl 2 (by decide) (hts _ (List.mem_cons_of_mem _ U_24)) (fun _ h9 => h9) rfl dX11_guest_87 ?_
      refine va_get (D := (dC, dI)) (ci := 2) (v := .ref h_hallNow_pride) (C := RX2) (T := TX2) (N := 11) hx hb hts (fun w h => List.mem_cons_of_mem _ (inU_2 w h)) hown hK hP 1 rfl rfl 2 (by decide) (hts _ (List.mem_cons_of_mem _ U_577)) (fun _ h9 => h9) rfl dX11_guest_90 ?_
      refine lv_iload_n hx hb dX11_guest_93 rfl (lv_at hl 1 rfl) ?_
      obtain ⟨hg, hr⟩ := gI_s hr
      refine z_iald hx hb hK hP 2 0 rfl rfl hg rfl dX11_guest_94 ?_
      refine z_pc (pc' := 95) rfl ?_
      have q0 := Option.some.inj hr
      subst q0
      exact W.iret (v := (v_hallNow_pride (Int32.toNatClampNeg x1))) hx hb hrt (fun t ht hW => ⟨⟨(v_hallNow_pride (Int32.toNatClampNeg x1)), (), rfl, rfl, by rw [ht]; exact hP, va_K.moved hW.alike hK, hD⟩, hS.F ht⟩) hS.2.2 dX11_guest_95 hlocks
    have hr := iteN hc1 hr
    by_cases hc2 : x2 = 2
    · have hr := iteP hc2 hr
      refine lv_tableIn (tgt := 96) hx hb dX11_guest_22 (by rw [hc2]; decide) (by rw [hc2]; decide) (by rw [hc2]; rfl) (by decide) ?_
      refine lv_aload_n hx hb dX11_guest_96 rfl (lv_at hl 0 rfl) ?_
      refine va_get (D := (dC, dI)) (ci := 11) (v := .ref h_hallNow) (C := RX11) (T := TX11) (N := 12) hx hb hts (fun w h => List.mem_cons_of_mem _ (inU_11 w h)) hown hK hP 0 rfl rfl 2 (by decide) (hts _ (List.mem_cons_of_mem _ U_24)) (fun _ h9 => h9) rfl dX11_guest_97 ?_
      refine va_get (D := (dC, dI)) (ci := 2) (v := .ref h_hallNow_speed) (C := RX2) (T := TX2) (N := 11) hx hb hts (fun w h => List.mem_cons_of_mem _ (inU_2 w h)) hown hK hP 1 rfl rfl 3 (by decide) (hts _ (List.mem_cons_of_mem _ U_578)) (fun _ h9 => h9) rfl dX11_guest_100 ?_
      refine lv_iload_n hx hb dX11_guest_103 rfl (lv_at hl 1 rfl) ?_
      obtain ⟨hg, hr⟩ := gI_s hr
      refine z_iald hx hb hK hP 3 0 rfl rfl hg rfl dX11_guest_104 ?_
      refine z_pc (pc' := 105) rfl ?_
      have q0 := Option.some.inj hr
      subst q0
      exact W.iret (v := (v_hallNow_speed (Int32.toNatClampNeg x1))) hx hb hrt (fun t ht hW => ⟨⟨(v_hallNow_speed (Int32.toNatClampNeg x1)), (), rfl, rfl, by rw [ht]; exact hP, va_K.moved hW.alike hK, hD⟩, hS.F ht⟩) hS.2.2 dX11_guest_105 hlocks
    have hr := iteN hc2 hr
    by_cases hc3 : x2 = 3
    · have hr := iteP hc3 hr
      refine lv_tableIn (tgt := 106) hx hb dX11_guest_22 (by rw [hc3]; decide) (by rw [hc3]; decide) (by rw [hc3]; rfl) (by decide) ?_
      refine lv_aload_n hx hb dX11_guest_106 rfl (lv_at hl 0 rfl) ?_
      refine va_get (D := (dC, dI)) (ci := 11) (v := .ref h_feast) (C := RX11) (T := TX11) (N := 12) hx hb hts (fun w h => List.mem_cons_of_mem _ (inU_11 w h)) hown hK hP 0 rfl rfl 3 (by decide) (hts _ (List.mem_cons_of_mem _ U_28)) (fun _ h9 => h9) rfl dX11_guest_107 ?_
      refine va_get (D := (dC, dI)) (ci := 1) (v := .ref h_feast_chairOf) (C := RX1) (T := TX1) (N := 16) hx hb hts (fun w h => List.mem_cons_of_mem _ (inU_1 w h)) hown hK hP 5 rfl rfl 2 (by decide) (hts _ (List.mem_cons_of_mem _ U_579)) (fun _ h9 => h9) rfl dX11_guest_110 ?_
      refine lv_iload_n hx hb dX11_guest_113 rfl (lv_at hl 1 rfl) ?_
      obtain ⟨hg, hr⟩ := gI_s hr
      refine z_iald hx hb hK hP 7 0 rfl rfl hg rfl dX11_guest_114 ?_
      refine z_pc (pc' := 115) rfl ?_
      have q0 := Option.some.inj hr
      subst q0
      exact W.iret (v := (v_feast_chairOf (Int32.toNatClampNeg x1))) hx hb hrt (fun t ht hW => ⟨⟨(v_feast_chairOf (Int32.toNatClampNeg x1)), (), rfl, rfl, by rw [ht]; exact hP, va_K.moved hW.alike hK, hD⟩, hS.F ht⟩) hS.2.2 dX11_guest_115 hlocks
    have hr := iteN hc3 hr
    by_cases hc4 : x2 = 4
    · have hr := iteP hc4 hr
      refine lv_tableIn (tgt := 116) hx hb dX11_guest_22 (by rw [hc4]; decide) (by rw [hc4]; decide) (by rw [hc4]; rfl) (by decide) ?_
      refine lv_aload_n hx hb dX11_guest_116 rfl (lv_at hl 0 rfl) ?_
      refine va_get (D := (dC, dI)) (ci := 11) (v := .ref h_feast) (C := RX11) (T := TX11) (N := 12) hx hb hts (fun w h => List.mem_cons_of_mem _ (inU_11 w h)) hown hK hP 0 rfl rfl 3 (by decide) (hts _ (List.mem_cons_of_mem _ U_28)) (fun _ h9 => h9) rfl dX11_guest_117 ?_
      refine lv_iload_n hx hb dX11_guest_120 rfl (lv_at hl 1 rfl) ?_
      obtain ⟨r_2, ho, hr⟩ := bind_s hr
      have hPc := hP.sub (ws' := [oX1 h_feast h_hallNow h_feast_coins h_feast_chairOf h_feast_tired h_feast_hosted h_feast_owed h_feast_paid v_feast_sitting v_feast_taken v_feast_served v_feast_hidden v_feast_round v_feast_over v_feast_host v_feast_paidInAll v_feast_lot]) [5] rfl
      have hDc := hD.sub (ws' := [oX1 h_feast h_hallNow h_feast_coins h_feast_chairOf h_feast_tired h_feast_hosted h_feast_owed h_feast_paid v_feast_sitting v_feast_taken v_feast_served v_feast_hidden v_feast_round v_feast_over v_feast_host v_feast_paidInAll v_feast_lot]) [5] (by decide) rfl
      have hFc := va_free (wc := [oX1 h_feast h_hallNow h_feast_coins h_feast_chairOf h_feast_tired h_feast_hosted h_feast_owed h_feast_paid v_feast_sitting v_feast_taken v_feast_served v_feast_hidden v_feast_round v_feast_over v_feast_host v_feast_paidInAll v_feast_lot]) hD hS hA [5] rfl
      refine va_calli (va_runV (As := [.int x1]) (rest := []) ⟨hx, hb, hml, hown, hts⟩ (mX1_isSeated l dC dI cI cJ cB cZ cF cG h_feast h_hallNow h_feast_coins h_feast_chairOf h_feast_tired h_feast_hosted h_feast_owed h_feast_paid H.size v_feast_sitting v_feast_taken v_feast_served v_feast_hidden v_feast_round v_feast_over v_feast_host v_feast_paidInAll v_feast_lot x1 r_2 ho) (cwV 1 hts (goodV U_589 U_590 U_591 U_27 U_592) rfl rfl rfl (by decide +kernel) ⟨Nat.le_trans (by decide) hR.1, Nat.le_trans (Nat.le_of_ble_eq_true rfl) hR.2⟩) ⟨fun a U g mk q => by obtain ⟨q0, q1, qP, qK, qD⟩ := q; exact ⟨q0, q1, qP, va_K.moved (u := U) (U := U.calling g mk a) (Vm.Alike.refl U.vm) qK, qD⟩, va_recv hK hPc (ci := 1) (q0 := 0) rfl rfl, fun U hU hW => ⟨rfl, by rw [hU], by rw [hU]; exact hPc, va_K.moved hW.alike hK, hDc.weaken (fun _ _ _ _ => trivial)⟩⟩ rfl rfl hl.1 rfl (lv_room (Nat.le_of_ble_eq_true rfl)) dX11_guest_121 ⟨Nat.zero_le _, Nat.zero_le _⟩) hS (fun q _ h => hFc q h) hFc (fun rz u t H1 locs ht hvm hw hB hz1 hk1 hS => ?_)
      obtain ⟨hP1, hK1, hD1⟩ := hB
      obtain ⟨hw, hz_2⟩ := hw
      have hw := hw.symm; subst hw
      rw [ht] at hP1
      obtain ⟨hP, hD⟩ := va_join (wr := [oX11 h_this h_tape h_written h_hallNow h_feast h_hallText h_acts h_seer h_ledger h_saying h_sayingText h_images v_lastFault, oX2 h_hallNow h_hallNow_guestName h_hallNow_coins h_hallNow_pride h_hallNow_speed h_hallNow_place h_hallNow_payer h_hallNow_dishName h_hallNow_cost v_hallNow_chairs v_hallNow_guests v_hallNow_dishes, aI cI h_hallNow_pride 7 v_hallNow_pride, aI cI h_hallNow_speed 7 v_hallNow_speed, aI cI h_hallNow_payer 7 v_hallNow_payer, aI cI h_feast_coins 7 v_feast_coins, aI cI h_feast_chairOf 7 v_feast_chairOf, aI cI h_feast_tired 7 v_feast_tired, aI cI h_feast_hosted 7 v_feast_hosted, aI cI h_feast_owed 7 v_feast_owed, aI cI h_feast_paid 7 v_feast_paid]) (w1 := [oX1 h_feast h_hallNow h_feast_coins h_feast_chairOf h_feast_tired h_feast_hosted h_feast_owed h_feast_paid v_feast_sitting v_feast_taken v_feast_served v_feast_hidden v_feast_round v_feast_over v_feast_host v_feast_paidInAll v_feast_lot]) hP hD [5] [0, 1, 2, 3, 4, 6, 7, 8, 9, 10, 11] rfl rfl (by decide) (by decide) hk1 hFc hP1 hD1
      generalize H1 = H at hP hS ⊢
      have hP := hP.sub (ws' := [oX11 h_this h_tape h_written h_hallNow h_feast h_hallText h_acts h_seer h_ledger h_saying h_sayingText h_images v_lastFault, oX2 h_hallNow h_hallNow_guestName h_hallNow_coins h_hallNow_pride h_hallNow_speed h_hallNow_place h_hallNow_payer h_hallNow_dishName h_hallNow_cost v_hallNow_chairs v_hallNow_guests v_hallNow_dishes, aI cI h_hallNow_pride 7 v_hallNow_pride, aI cI h_hallNow_speed 7 v_hallNow_speed, aI cI h_hallNow_payer 7 v_hallNow_payer, oX1 h_feast h_hallNow h_feast_coins h_feast_chairOf h_feast_tired h_feast_hosted h_feast_owed h_feast_paid v_feast_sitting v_feast_taken v_feast_served v_feast_hidden v_feast_round v_feast_over v_feast_host v_feast_paidInAll v_feast_lot, aI cI h_feast_coins 7 v_feast_coins, aI cI h_feast_chairOf 7 v_feast_chairOf, aI cI h_feast_tired 7 v_feast_tired, aI cI h_feast_hosted 7 v_feast_hosted, aI cI h_feast_owed 7 v_feast_owed, aI cI h_feast_paid 7 v_feast_paid]) [0, 1, 2, 3, 4, 11, 5, 6, 7, 8, 9, 10] rfl
      have hD := hD.sub (ws' := [oX11 h_this h_tape h_written h_hallNow h_feast h_hallText h_acts h_seer h_ledger h_saying h_sayingText h_images v_lastFault, oX2 h_hallNow h_hallNow_guestName h_hallNow_coins h_hallNow_pride h_hallNow_speed h_hallNow_place h_hallNow_payer h_hallNow_dishName h_hallNow_cost v_hallNow_chairs v_hallNow_guests v_hallNow_dishes, aI cI h_hallNow_pride 7 v_hallNow_pride, aI cI h_hallNow_speed 7 v_hallNow_speed, aI cI h_hallNow_payer 7 v_hallNow_payer, oX1 h_feast h_hallNow h_feast_coins h_feast_chairOf h_feast_tired h_feast_hosted h_feast_owed h_feast_paid v_feast_sitting v_feast_taken v_feast_served v_feast_hidden v_feast_round v_feast_over v_feast_host v_feast_paidInAll v_feast_lot, aI cI h_feast_coins 7 v_feast_coins, aI cI h_feast_chairOf 7 v_feast_chairOf, aI cI h_feast_tired 7 v_feast_tired, aI cI h_feast_hosted 7 v_feast_hosted, aI cI h_feast_owed 7 v_feast_owed, aI cI h_feast_paid 7 v_feast_paid]) [0, 1, 2, 3, 4, 11, 5, 6, 7, 8, 9, 10] (by decide) rfl
      refine lv_if_eq (tgt := 131) hx hb dX11_guest_124 (by decide) (fun hc => ?_) (fun hc => ?_)
      · have hr := iteP hc hr
        refine lv_iconst (v := 0) hx hb dX11_guest_131 (by decide) ?_
        have q0 := Option.some.inj hr
        subst q0
        exact W.iret (v := 0) hx hb hrt (fun t ht hW => ⟨⟨0, (), rfl, rfl, by rw [ht]; exact hP, va_K.moved hW.alike hK, hD⟩, hS.F ht⟩) hS.2.2 dX11_guest_132 hlocks
      · have hr := iteN hc hr
        refine lv_iconst (v := 1) hx hb dX11_guest_127 (by decide) ?_
        refine lv_goto (tgt := 132) hx hb dX11_guest_128 (by decide) ?_
        have q0 := Option.some.inj hr
        subst q0
        exact W.iret (v := 1) hx hb hrt (fun t ht hW => ⟨⟨1, (), rfl, rfl, by rw [ht]; exact hP, va_K.moved hW.alike hK, hD⟩, hS.F ht⟩) hS.2.2 dX11_guest_132 hlocks
    have hr := iteN hc4 hr
    by_cases hc5 : x2 = 5
    · have hr := iteP hc5 hr
      refine lv_tableIn (tgt := 133) hx hb dX11_guest_22 (by rw [hc5]; decide) (by rw [hc5]; decide) (by rw [hc5]; rfl) (by decide) ?_
      refine lv_aload_n hx hb dX11_guest_133 rfl (lv_at hl 0 rfl) ?_
      refine va_get (D := (dC, dI)) (ci := 11) (v := .ref h_feast) (C := RX11) (T := TX11) (N := 12) hx hb hts (fun w h => List.mem_cons_of_mem _ (inU_11 w h)) hown hK hP 0 rfl rfl 3 (by decide) (hts _ (List.mem_cons_of_mem _ U_28)) (fun _ h9 => h9) rfl dX11_guest_134 ?_
      refine va_get (D := (dC, dI)) (ci := 1) (v := .ref h_feast_tired) (C := RX1) (T := TX1) (N := 16) hx hb hts (fun w h => List.mem_cons_of_mem _ (inU_1 w h)) hown hK hP 5 rfl rfl 3 (by decide) (hts _ (List.mem_cons_of_mem _ U_580)) (fun _ h9 => h9) rfl dX11_guest_137 ?_
      refine lv_iload_n hx hb dX11_guest_140 rfl (lv_at hl 1 rfl) ?_
      obtain ⟨hg, hr⟩ := gI_s hr
      refine z_iald hx hb hK hP 8 0 rfl rfl hg rfl dX11_guest_141 ?_
      refine z_pc (pc' := 142) rfl ?_
      have q0 := Option.some.inj hr
      subst q0
      exact W.iret (v := (v_feast_tired (Int32.toNatClampNeg x1))) hx hb hrt (fun t ht hW => ⟨⟨(v_feast_tired (Int32.toNatClampNeg x1)), (), rfl, rfl, by rw [ht]; exact hP, va_K.moved hW.alike hK, hD⟩, hS.F ht⟩) hS.2.2 dX11_guest_142 hlocks
    have hr := iteN hc5 hr
    by_cases hc6 : x2 = 6
    · have hr := iteP hc6 hr
      refine lv_tableIn (tgt := 143) hx hb dX11_guest_22 (by rw [hc6]; decide) (by rw [hc6]; decide) (by rw [hc6]; rfl) (by decide) ?_
      refine lv_aload_n hx hb dX11_guest_143 rfl (lv_at hl 0 rfl) ?_
      refine va_get (D := (dC, dI)) (ci := 11) (v := .ref h_feast) (C := RX11) (T := TX11) (N := 12) hx hb hts (fun w h => List.mem_cons_of_mem _ (inU_11 w h)) hown hK hP 0 rfl rfl 3 (by decide) (hts _ (List.mem_cons_of_mem _ U_28)) (fun _ h9 => h9) rfl dX11_guest_144 ?_
      refine va_get (D := (dC, dI)) (ci := 1) (v := .ref h_feast_hosted) (C := RX1) (T := TX1) (N := 16) hx hb hts (fun w h => List.mem_cons_of_mem _ (inU_1 w h)) hown hK hP 5 rfl rfl 4 (by decide) (hts _ (List.mem_cons_of_mem _ U_581)) (fun _ h9 => h9) rfl dX11_guest_147 ?_
      refine lv_iload_n hx hb dX11_guest_150 rfl (lv_at hl 1 rfl) ?_
      obtain ⟨hg, hr⟩ := gI_s hr
      refine z_iald hx hb hK hP 9 0 rfl rfl hg rfl dX11_guest_151 ?_
      refine z_pc (pc' := 152) rfl ?_
      have q0 := Option.some.inj hr
      subst q0
      exact W.iret (v := (v_feast_hosted (Int32.toNatClampNeg x1))) hx hb hrt (fun t ht hW => ⟨⟨(v_feast_hosted (Int32.toNatClampNeg x1)), (), rfl, rfl, by rw [ht]; exact hP, va_K.moved hW.alike hK, hD⟩, hS.F ht⟩) hS.2.2 dX11_guest_152 hlocks
    have hr := iteN hc6 hr
    by_cases hc7 : x2 = 7
    · have hr := iteP hc7 hr
      refine lv_tableIn (tgt := 153) hx hb dX11_guest_22 (by rw [hc7]; decide) (by rw [hc7]; decide) (by rw [hc7]; rfl) (by decide) ?_
      refine lv_aload_n hx hb dX11_guest_153 rfl (lv_at hl 0 rfl) ?_
      refine va_get (D := (dC, dI)) (ci := 11) (v := .ref h_feast) (C := RX11) (T := TX11) (N := 12) hx hb hts (fun w h => List.mem_cons_of_mem _ (inU_11 w h)) hown hK hP 0 rfl rfl 3 (by decide) (hts _ (List.mem_cons_of_mem _ U_28)) (fun _ h9 => h9) rfl dX11_guest_154 ?_
      refine va_get (D := (dC, dI)) (ci := 1) (v := .ref h_feast_owed) (C := RX1) (T := TX1) (N := 16) hx hb hts (fun w h => List.mem_cons_of_mem _ (inU_1 w h)) hown hK hP 5 rfl rfl 5 (by decide) (hts _ (List.mem_cons_of_mem _ U_582)) (fun _ h9 => h9) rfl dX11_guest_157 ?_
      refine lv_iload_n hx hb dX11_guest_160 rfl (lv_at hl 1 rfl) ?_
      obtain ⟨hg, hr⟩ := gI_s hr
      refine z_iald hx hb hK hP 10 0 rfl rfl hg rfl dX11_guest_161 ?_
      refine z_pc (pc' := 162) rfl ?_
      have q0 := Option.some.inj hr
      subst q0
      exact W.iret (v := (v_feast_owed (Int32.toNatClampNeg x1))) hx hb hrt (fun t ht hW => ⟨⟨(v_feast_owed (Int32.toNatClampNeg x1)), (), rfl, rfl, by rw [ht]; exact hP, va_K.moved hW.alike hK, hD⟩, hS.F ht⟩) hS.2.2 dX11_guest_162 hlocks
    have hr := iteN hc7 hr
    by_cases hc8 : x2 = 8
    · have hr := iteP hc8 hr
      refine lv_tableIn (tgt := 163) hx hb dX11_guest_22 (by rw [hc8]; decide) (by rw [hc8]; decide) (by rw [hc8]; rfl) (by decide) ?_
      refine lv_aload_n hx hb dX11_guest_163 rfl (lv_at hl 0 rfl) ?_
      refine va_get (D := (dC, dI)) (ci := 11) (v := .ref h_feast) (C := RX11) (T := TX11) (N := 12) hx hb hts (fun w h => List.mem_cons_of_mem _ (inU_11 w h)) hown hK hP 0 rfl rfl 3 (by decide) (hts _ (List.mem_cons_of_mem _ U_28)) (fun _ h9 => h9) rfl dX11_guest_164 ?_
      refine va_get (D := (dC, dI)) (ci := 1) (v := .ref h_feast_paid) (C := RX1) (T := TX1) (N := 16) hx hb hts (fun w h => List.mem_cons_of_mem _ (inU_1 w h)) hown hK hP 5 rfl rfl 6 (by decide) (hts _ (List.mem_cons_of_mem _ U_583)) (fun _ h9 => h9) rfl dX11_guest_167 ?_
      refine lv_iload_n hx hb dX11_guest_170 rfl (lv_at hl 1 rfl) ?_
      obtain ⟨hg, hr⟩ := gI_s hr
      refine z_iald hx hb hK hP 11 0 rfl rfl hg rfl dX11_guest_171 ?_
      refine z_pc (pc' := 172) rfl ?_
      have q0 := Option.some.inj hr
      subst q0
      exact W.iret (v := (v_feast_paid (Int32.toNatClampNeg x1))) hx hb hrt (fun t ht hW => ⟨⟨(v_feast_paid (Int32.toNatClampNeg x1)), (), rfl, rfl, by rw [ht]; exact hP, va_K.moved hW.alike hK, hD⟩, hS.F ht⟩) hS.2.2 dX11_guest_172 hlocks
    have hr := iteN hc8 hr
    by_cases hc9 : x2 = 9
    · have hr := iteP hc9 hr
      refine lv_tableIn (tgt := 173) hx hb dX11_guest_22 (by rw [hc9]; decide) (by rw [hc9]; decide) (by rw [hc9]; rfl) (by decide) ?_
      refine lv_aload_n hx hb dX11_guest_173 rfl (lv_at hl 0 rfl) ?_
      refine va_get (D := (dC, dI)) (ci := 11) (v := .ref h_hallNow) (C := RX11) (T := TX11) (N := 12) hx hb hts (fun w h => List.mem_cons_of_mem _ (inU_11 w h)) hown hK hP 0 rfl rfl 2 (by decide) (hts _ (List.mem_cons_of_mem _ U_24)) (fun _ h9 => h9) rfl dX11_guest_174 ?_
      refine va_get (D := (dC, dI)) (ci := 2) (v := .ref h_hallNow_payer) (C := RX2) (T := TX2) (N := 11) hx hb hts (fun w h => List.mem_cons_of_mem _ (inU_2 w h)) hown hK hP 1 rfl rfl 5 (by decide) (hts _ (List.mem_cons_of_mem _ U_584)) (fun _ h9 => h9) rfl dX11_guest_177 ?_
      refine lv_iload_n hx hb dX11_guest_180 rfl (lv_at hl 1 rfl) ?_
      obtain ⟨hg, hr⟩ := gI_s hr
      refine z_iald hx hb hK hP 4 0 rfl rfl hg rfl dX11_guest_181 ?_
      refine z_pc (pc' := 182) rfl ?_
      have q0 := Option.some.inj hr
      subst q0
      exact W.iret (v := (v_hallNow_payer (Int32.toNatClampNeg x1))) hx hb hrt (fun t ht hW => ⟨⟨(v_hallNow_payer (Int32.toNatClampNeg x1)), (), rfl, rfl, by rw [ht]; exact hP, va_K.moved hW.alike hK, hD⟩, hS.F ht⟩) hS.2.2 dX11_guest_182 hlocks
    have hr := iteN hc9 hr
    refine lv_tableOut (tgt := 183) hx hb dX11_guest_22 (by have q0 := swN (k := 0) hc0 (by decide); have q1 := swN (k := 1) hc1 (by decide); have q2 := swN (k := 2) hc2 (by decide); have q3 := swN (k := 3) hc3 (by decide); have q4 := swN (k := 4) hc4 (by decide); have q5 := swN (k := 5) hc5 (by decide); have q6 := swN (k := 6) hc6 (by decide); have q7 := swN (k := 7) hc7 (by decide); have q8 := swN (k := 8) hc8 (by decide); have q9 := swN (k := 9) hc9 (by decide); omega) (by decide) ?_
    exact nomatch (show (none : Option (Int32)) = some _ from hr)
  · have hr := iteP hc hr
    exact nomatch (show (none : Option (Int32)) = some _ from hr)
set_option maxHeartbeats 4000000 in
set_option maxRecDepth 100000 in
theorem mX11_guest (l : Launch) (dC : Nat → ClassId) (dI : Nat → Nat → Nat) (cI cJ cB cZ cF cG : ClassId) (h_this : Nat) (h_hallNow : Nat) (h_hallNow_pride : Nat) (h_hallNow_speed : Nat) (h_hallNow_payer : Nat) (h_feast : Nat) (h_feast_coins : Nat) (h_feast_chairOf : Nat) (h_feast_tired : Nat) (h_feast_hosted : Nat) (h_feast_owed : Nat) (h_feast_paid : Nat) (h_tape : Nat) (h_written : Nat) (h_hallText : Nat) (h_acts : Nat) (h_seer : Nat) (h_ledger : Nat) (h_saying : Nat) (h_sayingText : Nat) (h_images : Nat) (h_hallNow_guestName : Nat) (h_hallNow_coins : Nat) (h_hallNow_place : Nat) (h_hallNow_dishName : Nat) (h_hallNow_cost : Nat) (sz : Nat) (v_lastFault : Int32) (v_hallNow_chairs : Int32) (v_hallNow_guests : Int32) (v_hallNow_dishes : Int32) (v_hallNow_pride : Nat → Int32) (v_hallNow_speed : Nat → Int32) (v_hallNow_payer : Nat → Int32) (v_feast_sitting : Int32) (v_feast_taken : Int32) (v_feast_served : Int32) (v_feast_hidden : Int32) (v_feast_round : Int32) (v_feast_over : Int32) (v_feast_host : Int32) (v_feast_paidInAll : Int32) (v_feast_lot : Int32) (v_feast_coins : Nat → Int32) (v_feast_chairOf : Nat → Int32) (v_feast_tired : Nat → Int32) (v_feast_hosted : Nat → Int32) (v_feast_owed : Nat → Int32) (v_feast_paid : Nat → Int32) (x1 : Int32) (x2 : Int32) (o_r : Int32) (hf : fX11_guest v_hallNow_guests v_hallNow_pride v_hallNow_speed v_hallNow_payer v_feast_sitting v_feast_coins v_feast_chairOf v_feast_tired v_feast_hosted v_feast_owed v_feast_paid x1 x2 = some o_r) : Met l yX11_guest uX11_guest ({ frames := 1, cells := 0, slots := 0, locals := 21 }) (va_Pc [.ref h_this, .int x1, .int x2] (fun U => U.heap.size = sz ∧ va_P (dC, dI) vwCl [oX11 h_this h_tape h_written h_hallNow h_feast h_hallText h_acts h_seer h_ledger h_saying h_sayingText h_images v_lastFault, oX2 h_hallNow h_hallNow_guestName h_hallNow_coins h_hallNow_pride h_hallNow_speed h_hallNow_place h_hallNow_payer h_hallNow_dishName h_hallNow_cost v_hallNow_chairs v_hallNow_guests v_hallNow_dishes, aI cI h_hallNow_pride 7 v_hallNow_pride, aI cI h_hallNow_speed 7 v_hallNow_speed, aI cI h_hallNow_payer 7 v_hallNow_payer, oX1 h_feast h_hallNow h_feast_coins h_feast_chairOf h_feast_tired h_feast_hosted h_feast_owed h_feast_paid v_feast_sitting v_feast_taken v_feast_served v_feast_hidden v_feast_round v_feast_over v_feast_host v_feast_paidInAll v_feast_lot, aI cI h_feast_coins 7 v_feast_coins, aI cI h_feast_chairOf 7 v_feast_chairOf, aI cI h_feast_tired 7 v_feast_tired, aI cI h_feast_hosted 7 v_feast_hosted, aI cI h_feast_owed 7 v_feast_owed, aI cI h_feast_paid 7 v_feast_paid] U.heap ∧ va_K (dC, dI) vwCl (TYS cI cJ cB cZ cF cG) U ∧ va_D (fun _ => True) [oX11 h_this h_tape h_written h_hallNow h_feast h_hallText h_acts h_seer h_ledger h_saying h_sayingText h_images v_lastFault, oX2 h_hallNow h_hallNow_guestName h_hallNow_coins h_hallNow_pride h_hallNow_speed h_hallNow_place h_hallNow_payer h_hallNow_dishName h_hallNow_cost v_hallNow_chairs v_hallNow_guests v_hallNow_dishes, aI cI h_hallNow_pride 7 v_hallNow_pride, aI cI h_hallNow_speed 7 v_hallNow_speed, aI cI h_hallNow_payer 7 v_hallNow_payer, oX1 h_feast h_hallNow h_feast_coins h_feast_chairOf h_feast_tired h_feast_hosted h_feast_owed h_feast_paid v_feast_sitting v_feast_taken v_feast_served v_feast_hidden v_feast_round v_feast_over v_feast_host v_feast_paidInAll v_feast_lot, aI cI h_feast_coins 7 v_feast_coins, aI cI h_feast_chairOf 7 v_feast_chairOf, aI cI h_feast_tired 7 v_feast_tired, aI cI h_feast_hosted 7 v_feast_hosted, aI cI h_feast_owed 7 v_feast_owed, aI cI h_feast_paid 7 v_feast_paid])) (PQi dC dI cI cJ cB cZ cF cG (va_A [oX11 h_this h_tape h_written h_hallNow h_feast h_hallText h_acts h_seer h_ledger h_saying h_sayingText h_images v_lastFault, oX2 h_hallNow h_hallNow_guestName h_hallNow_coins h_hallNow_pride h_hallNow_speed h_hallNow_place h_hallNow_payer h_hallNow_dishName h_hallNow_cost v_hallNow_chairs v_hallNow_guests v_hallNow_dishes, aI cI h_hallNow_pride 7 v_hallNow_pride, aI cI h_hallNow_speed 7 v_hallNow_speed, aI cI h_hallNow_payer 7 v_hallNow_payer, oX1 h_feast h_hallNow h_feast_coins h_feast_chairOf h_feast_tired h_feast_hosted h_feast_owed h_feast_paid v_feast_sitting v_feast_taken v_feast_served v_feast_hidden v_feast_round v_feast_over v_feast_host v_feast_paidInAll v_feast_lot, aI cI h_feast_coins 7 v_feast_coins, aI cI h_feast_chairOf 7 v_feast_chairOf, aI cI h_feast_tired 7 v_feast_tired, aI cI h_feast_hosted 7 v_feast_hosted, aI cI h_feast_owed 7 v_feast_owed, aI cI h_feast_paid 7 v_feast_paid] sz) o_r [oX11 h_this h_tape h_written h_hallNow h_feast h_hallText h_acts h_seer h_ledger h_saying h_sayingText h_images v_lastFault, oX2 h_hallNow h_hallNow_guestName h_hallNow_coins h_hallNow_pride h_hallNow_speed h_hallNow_place h_hallNow_payer h_hallNow_dishName h_hallNow_cost v_hallNow_chairs v_hallNow_guests v_hallNow_dishes, aI cI h_hallNow_pride 7 v_hallNow_pride, aI cI h_hallNow_speed 7 v_hallNow_speed, aI cI h_hallNow_payer 7 v_hallNow_payer, oX1 h_feast h_hallNow h_feast_coins h_feast_chairOf h_feast_tired h_feast_hosted h_feast_owed h_feast_paid v_feast_sitting v_feast_taken v_feast_served v_feast_hidden v_feast_round v_feast_over v_feast_host v_feast_paidInAll v_feast_lot, aI cI h_feast_coins 7 v_feast_coins, aI cI h_feast_chairOf 7 v_feast_chairOf, aI cI h_feast_tired 7 v_feast_tired, aI cI h_feast_hosted 7 v_feast_hosted, aI cI h_feast_owed 7 v_feast_owed, aI cI h_feast_paid 7 v_feast_paid]) 0 0 (va_A [oX11 h_this h_tape h_written h_hallNow h_feast h_hallText h_acts h_seer h_ledger h_saying h_sayingText h_images v_lastFault, oX2 h_hallNow h_hallNow_guestName h_hallNow_coins h_hallNow_pride h_hallNow_speed h_hallNow_place h_hallNow_payer h_hallNow_dishName h_hallNow_cost v_hallNow_chairs v_hallNow_guests v_hallNow_dishes, aI cI h_hallNow_pride 7 v_hallNow_pride, aI cI h_hallNow_speed 7 v_hallNow_speed, aI cI h_hallNow_payer 7 v_hallNow_payer, oX1 h_feast h_hallNow h_feast_coins h_feast_chairOf h_feast_tired h_feast_hosted h_feast_owed h_feast_paid v_feast_sitting v_feast_taken v_feast_served v_feast_hidden v_feast_round v_feast_over v_feast_host v_feast_paidInAll v_feast_lot, aI cI h_feast_coins 7 v_feast_coins, aI cI h_feast_chairOf 7 v_feast_chairOf, aI cI h_feast_tired 7 v_feast_tired, aI cI h_feast_hosted 7 v_feast_hosted, aI cI h_feast_owed 7 v_feast_owed, aI cI h_feast_paid 7 v_feast_paid] sz) := by
  refine Met.ofW (cc := cX11_guest) (maxL := 3) (ret := (some .int)) (by decide) rfl ?_
  intro p e s m args below meth c s₁ B hml hv
  obtain ⟨rfl, hsz, hP, hK, hD0⟩ := hv
  have hx := B.exec
  have hb := B.bytes
  have hr := B.returns
  have hts := atoms_spec (ws := uX11_guest) B.pre
  have hown : s.vm.findClass RX11 = some m.cls := findClass_of_methodNamed B.named
  have hlocks := B.notSynchronized
  subst hsz
  have hD := hD0.self (sz := s.heap.size)
  generalize hAe : va_A [oX11 h_this h_tape h_written h_hallNow h_feast h_hallText h_acts h_seer h_ledger h_saying h_sayingText h_images v_lastFault, oX2 h_hallNow h_hallNow_guestName h_hallNow_coins h_hallNow_pride h_hallNow_speed h_hallNow_place h_hallNow_payer h_hallNow_dishName h_hallNow_cost v_hallNow_chairs v_hallNow_guests v_hallNow_dishes, aI cI h_hallNow_pride 7 v_hallNow_pride, aI cI h_hallNow_speed 7 v_hallNow_speed, aI cI h_hallNow_payer 7 v_hallNow_payer, oX1 h_feast h_hallNow h_feast_coins h_feast_chairOf h_feast_tired h_feast_hosted h_feast_owed h_feast_paid v_feast_sitting v_feast_taken v_feast_served v_feast_hidden v_feast_round v_feast_over v_feast_host v_feast_paidInAll v_feast_lot, aI cI h_feast_coins 7 v_feast_coins, aI cI h_feast_chairOf 7 v_feast_chairOf, aI cI h_feast_tired 7 v_feast_tired, aI cI h_feast_hosted 7 v_feast_hosted, aI cI h_feast_owed 7 v_feast_owed, aI cI h_feast_paid 7 v_feast_paid] s.heap.size = A at hD ⊢
  have hA : ∀ q : Nat, s.heap.size ≤ q → A q := fun q h => by rw [← hAe]; exact Or.inr h
  have hS : va_S A s.heap s.heap [] := va_S.rf
  have hl := lv_entry ([.ref h_this, .int x1, .int x2]) (n := 3) (Nat.le_of_ble_eq_true rfl)
  rw [lg_entry_eq]
  generalize (lg_sl ([.ref h_this, .int x1, .int x2]) ++ List.replicate (3 - (lg_sl ([.ref h_this, .int x1, .int x2])).length) Slot.unset).toArray = ls at hl ⊢
  have hl : lv_has ls 3 [(0, .ref h_this), (1, .int x1), (2, .int x2)] := hl
  exact tX11_guest hA ⟨hx, hb, hr, hml, hown, hts, hlocks⟩ ⟨Nat.le_refl _, Nat.le_refl _⟩ h_this h_hallNow h_hallNow_pride h_hallNow_speed h_hallNow_payer h_feast h_feast_coins h_feast_chairOf h_feast_tired h_feast_hosted h_feast_owed h_feast_paid h_tape h_written h_hallText h_acts h_seer h_ledger h_saying h_sayingText h_images h_hallNow_guestName h_hallNow_coins h_hallNow_place h_hallNow_dishName h_hallNow_cost v_lastFault v_hallNow_chairs v_hallNow_guests v_hallNow_dishes v_hallNow_pride v_hallNow_speed v_hallNow_payer v_feast_sitting v_feast_taken v_feast_served v_feast_hidden v_feast_round v_feast_over v_feast_host v_feast_paidInAll v_feast_lot v_feast_coins v_feast_chairOf v_feast_tired v_feast_hosted v_feast_owed v_feast_paid o_r x1 x2 hf _ _ ⟨hK, hP, hD, hS⟩ ls hl
def lX11_mean_52 (v_hallNow_guests : Int32) (v_feast_paidInAll : Int32) : Nat → Int32 → Int32 → Int32 → Option (Int32)
  | 0, _, _, _ => none
  | n + 1, x2, x3, x4 => if x4 ≤ 1 then some x3 else gZ x4 (if (x2 - x2 / x4 * x4) = 0 then gZ x4 (if (v_feast_paidInAll - v_feast_paidInAll / x4 * x4) = 0 then gZ x4 (some (x3 / x4)) else lX11_mean_52 v_hallNow_guests v_feast_paidInAll n x2 x3 (x4 + (-1))) else lX11_mean_52 v_hallNow_guests v_feast_paidInAll n x2 x3 (x4 + (-1)))
def fX11_mean (v_hallNow_guests : Int32) (v_feast_paidInAll : Int32) (x1 : Int32) : Option (Int32) := if v_hallNow_guests < 1 then none else if x1 < 0 then none else if x1 ≤ 1 then if x1 = 0 then lX11_mean_52 v_hallNow_guests v_feast_paidInAll 5000 v_hallNow_guests v_feast_paidInAll v_hallNow_guests else lX11_mean_52 v_hallNow_guests v_feast_paidInAll 5000 v_hallNow_guests v_hallNow_guests v_hallNow_guests else none
-- LastSeat.mean(I)I
def uX11_mean : List Cond := .code yX11_mean cX11_mean 5 (some .int) :: wsU
set_option maxHeartbeats 4000000 in
set_option maxRecDepth 100000 in
theorem tX11_mean_52 {p : Program} {l : Launch} {e : Env} {R : Room} {s : State} {m : MethodId} {args : Array Value} {below : List Frame} {meth : Method} {c : Code} {dC : Nat → ClassId} {dI : Nat → Nat → Nat} {cI cJ cB cZ cF cG : ClassId} {A : Nat → Prop} (hA : ∀ q : Nat, s.heap.size ≤ q → A q) (C0 : Cx p s m meth c args cX11_mean 5 (some .int) RX11 uX11_mean) (hR : 0 ≤ R.frames ∧ 0 ≤ R.locals) (h_this : Nat) (h_hallNow : Nat) (h_feast : Nat) (h_tape : Nat) (h_written : Nat) (h_hallText : Nat) (h_acts : Nat) (h_seer : Nat) (h_ledger : Nat) (h_saying : Nat) (h_sayingText : Nat) (h_images : Nat) (h_hallNow_guestName : Nat) (h_hallNow_coins : Nat) (h_hallNow_pride : Nat) (h_hallNow_speed : Nat) (h_hallNow_place : Nat) (h_hallNow_payer : Nat) (h_hallNow_dishName : Nat) (h_hallNow_cost : Nat) (h_feast_coins : Nat) (h_feast_chairOf : Nat) (h_feast_tired : Nat) (h_feast_hosted : Nat) (h_feast_owed : Nat) (h_feast_paid : Nat) (v_lastFault : Int32) (v_hallNow_chairs : Int32) (v_hallNow_guests : Int32) (v_hallNow_dishes : Int32) (v_feast_sitting : Int32) (v_feast_taken : Int32) (v_feast_served : Int32) (v_feast_hidden : Int32) (v_feast_round : Int32) (v_feast_over : Int32) (v_feast_host : Int32) (v_feast_paidInAll : Int32) (v_feast_lot : Int32) (o_r : Int32) :
    ∀ n : Nat, ∀ (x2 : Int32) (x3 : Int32) (x4 : Int32), lX11_mean_52 v_hallNow_guests v_feast_paidInAll n x2 x3 x4 = some o_r → ∀ (H : Heap) (locs : List Loc), Wd dC dI cI cJ cB cZ cF cG A s H locs [oX11 h_this h_tape h_written h_hallNow h_feast h_hallText h_acts h_seer h_ledger h_saying h_sayingText h_images v_lastFault, oX2 h_hallNow h_hallNow_guestName h_hallNow_coins h_hallNow_pride h_hallNow_speed h_hallNow_place h_hallNow_payer h_hallNow_dishName h_hallNow_cost v_hallNow_chairs v_hallNow_guests v_hallNow_dishes, oX1 h_feast h_hallNow h_feast_coins h_feast_chairOf h_feast_tired h_feast_hosted h_feast_owed h_feast_paid v_feast_sitting v_feast_taken v_feast_served v_feast_hidden v_feast_round v_feast_over v_feast_host v_feast_paidInAll v_feast_lot] → ∀ (ls : Array Slot), lv_has ls 5 [(0, .ref h_this), (2, .int x2), (3, .int x3), (4, .int x4)] → W p l e R s m args below meth c H locs 0 0 (MQ below (PQi dC dI cI cJ cB cZ cF cG A o_r [oX11 h_this h_tape h_written h_hallNow h_feast h_hallText h_acts h_seer h_ledger h_saying h_sayingText h_images v_lastFault, oX2 h_hallNow h_hallNow_guestName h_hallNow_coins h_hallNow_pride h_hallNow_speed h_hallNow_place h_hallNow_payer h_hallNow_dishName h_hallNow_cost v_hallNow_chairs v_hallNow_guests v_hallNow_dishes, oX1 h_feast h_hallNow h_feast_coins h_feast_chairOf h_feast_tired h_feast_hosted h_feast_owed h_feast_paid v_feast_sitting v_feast_taken v_feast_served v_feast_hidden v_feast_round v_feast_over v_feast_host v_feast_paidInAll v_feast_lot]) args s 0 0 A) (F0 m 52 ls []) := by
  obtain ⟨hx, hb, hrt, hml, hown, hts, hlocks⟩ := id C0
  intro n
  induction n with
  | zero =>
    intro x2 x3 x4 hr
    exact nomatch (show (none : Option (Int32)) = some _ from hr)
  | succ n ih =>
    intro x2 x3 x4 hr H locs hW ls hl
    obtain ⟨hK, hP, hD, hS⟩ := hW
    have hr : (if x4 ≤ 1 then some x3 else gZ x4 (if (x2 - x2 / x4 * x4) = 0 then gZ x4 (if (v_feast_paidInAll - v_feast_paidInAll / x4 * x4) = 0 then gZ x4 (some (x3 / x4)) else lX11_mean_52 v_hallNow_guests v_feast_paidInAll n x2 x3 (x4 + (-1))) else lX11_mean_52 v_hallNow_guests v_feast_paidInAll n x2 x3 (x4 + (-1))) : Option (Int32)) = some o_r := hr
    refine lv_iload hx hb dX11_mean_52 (lv_at hl 3 rfl) ?_
    refine lv_iconst (v := 1) hx hb dX11_mean_54 (by decide) ?_
    refine lv_icmp_le (tgt := 89) hx hb dX11_mean_55 (by decide) (fun hc => ?_) (fun hc => ?_)
    · have hr := iteP hc hr
      refine lv_iload_n hx hb dX11_mean_89 rfl (lv_at hl 2 rfl) ?_
      have q0 := Option.some.inj hr
      subst q0
      exact W.iret (v := x3) hx hb hrt (fun t ht hW => ⟨⟨x3, (), rfl, rfl, by rw [ht]; exact hP, va_K.moved hW.alike hK, hD⟩, hS.F ht⟩) hS.2.2 dX11_mean_90 hlocks
    · have hr := iteN hc hr
      refine lv_iload_n hx hb dX11_mean_58 rfl (lv_at hl 1 rfl) ?_
      refine lv_iload hx hb dX11_mean_59 (lv_at hl 3 rfl) ?_
      obtain ⟨hz, hr⟩ := gZ_s hr
      refine lv_irem hx hb dX11_mean_61 hz ?_
      refine lv_if_ne (tgt := 83) hx hb dX11_mean_62 (by decide) (fun hc => ?_) (fun hc => ?_)
      · have hr := iteN hc hr
        refine lv_iinc (v := (x4 + (-1))) (lv' := [(4, .int (x4 + (-1))), (0, .ref h_this), (2, .int x2), (3, .int x3)]) hx hb dX11_mean_83 hl (k := 3) rfl rfl (by decide) rfl (fun ls hl => ?_)
        refine lv_goto (tgt := 52) hx hb dX11_mean_86 (by decide) ?_
        exact ih x2 x3 (x4 + (-1)) hr _ _ ⟨hK, hP, hD, hS⟩ ls (lv_sub hl [1, 2, 3, 0] rfl)
      · have hr := iteP hc hr
        refine lv_aload_n hx hb dX11_mean_65 rfl (lv_at hl 0 rfl) ?_
        refine va_get (D := (dC, dI)) (ci := 11) (v := .ref h_feast) (C := RX11) (T := TX11) (N := 12) hx hb hts (fun w h => List.mem_cons_of_mem _ (inU_11 w h)) hown hK hP 0 rfl rfl 3 (by decide) (hts _ (List.mem_cons_of_mem _ U_28)) (fun _ h9 => h9) rfl dX11_mean_66 ?_
        refine va_get (D := (dC, dI)) (ci := 1) (v := .int v_feast_paidInAll) (C := RX1) (T := TX1) (N := 16) hx hb hts (fun w h => List.mem_cons_of_mem _ (inU_1 w h)) hown hK hP 2 rfl rfl 14 (by decide) (hts _ (List.mem_cons_of_mem _ U_660)) (fun _ h9 => h9) rfl dX11_mean_69 ?_
        refine lv_iload hx hb dX11_mean_72 (lv_at hl 3 rfl) ?_
        obtain ⟨hz, hr⟩ := gZ_s hr
        refine lv_irem hx hb dX11_mean_74 hz ?_
        refine z_pc (pc' := 75) rfl ?_
        refine lv_if_ne (tgt := 83) hx hb dX11_mean_75 (by decide) (fun hc => ?_) (fun hc => ?_)
        · have hr := iteN hc hr
          refine lv_iinc (v := (x4 + (-1))) (lv' := [(4, .int (x4 + (-1))), (0, .ref h_this), (2, .int x2), (3, .int x3)]) hx hb dX11_mean_83 hl (k := 3) rfl rfl (by decide) rfl (fun ls hl => ?_)
          refine lv_goto (tgt := 52) hx hb dX11_mean_86 (by decide) ?_
          exact ih x2 x3 (x4 + (-1)) hr _ _ ⟨hK, hP, hD, hS⟩ ls (lv_sub hl [1, 2, 3, 0] rfl)
        · have hr := iteP hc hr
          refine lv_iload_n hx hb dX11_mean_78 rfl (lv_at hl 2 rfl) ?_
          refine lv_iload hx hb dX11_mean_79 (lv_at hl 3 rfl) ?_
          obtain ⟨hz, hr⟩ := gZ_s hr
          refine lv_idiv hx hb dX11_mean_81 hz ?_
          have q0 := Option.some.inj hr
          subst q0
          exact W.iret (v := (x3 / x4)) hx hb hrt (fun t ht hW => ⟨⟨(x3 / x4), (), rfl, rfl, by rw [ht]; exact hP, va_K.moved hW.alike hK, hD⟩, hS.F ht⟩) hS.2.2 dX11_mean_82 hlocks
set_option maxHeartbeats 4000000 in
set_option maxRecDepth 100000 in
theorem tX11_mean {p : Program} {l : Launch} {e : Env} {R : Room} {s : State} {m : MethodId} {args : Array Value} {below : List Frame} {meth : Method} {c : Code} {dC : Nat → ClassId} {dI : Nat → Nat → Nat} {cI cJ cB cZ cF cG : ClassId} {A : Nat → Prop} (hA : ∀ q : Nat, s.heap.size ≤ q → A q) (C0 : Cx p s m meth c args cX11_mean 5 (some .int) RX11 uX11_mean) (hR : 0 ≤ R.frames ∧ 0 ≤ R.locals) (h_this : Nat) (h_hallNow : Nat) (h_feast : Nat) (h_tape : Nat) (h_written : Nat) (h_hallText : Nat) (h_acts : Nat) (h_seer : Nat) (h_ledger : Nat) (h_saying : Nat) (h_sayingText : Nat) (h_images : Nat) (h_hallNow_guestName : Nat) (h_hallNow_coins : Nat) (h_hallNow_pride : Nat) (h_hallNow_speed : Nat) (h_hallNow_place : Nat) (h_hallNow_payer : Nat) (h_hallNow_dishName : Nat) (h_hallNow_cost : Nat) (h_feast_coins : Nat) (h_feast_chairOf : Nat) (h_feast_tired : Nat) (h_feast_hosted : Nat) (h_feast_owed : Nat) (h_feast_paid : Nat) (v_lastFault : Int32) (v_hallNow_chairs : Int32) (v_hallNow_guests : Int32) (v_hallNow_dishes : Int32) (v_feast_sitting : Int32) (v_feast_taken : Int32) (v_feast_served : Int32) (v_feast_hidden : Int32) (v_feast_round : Int32) (v_feast_over : Int32) (v_feast_host : Int32) (v_feast_paidInAll : Int32) (v_feast_lot : Int32) (o_r : Int32) :
    ∀ (x1 : Int32), fX11_mean v_hallNow_guests v_feast_paidInAll x1 = some o_r → ∀ (H : Heap) (locs : List Loc), Wd dC dI cI cJ cB cZ cF cG A s H locs [oX11 h_this h_tape h_written h_hallNow h_feast h_hallText h_acts h_seer h_ledger h_saying h_sayingText h_images v_lastFault, oX2 h_hallNow h_hallNow_guestName h_hallNow_coins h_hallNow_pride h_hallNow_speed h_hallNow_place h_hallNow_payer h_hallNow_dishName h_hallNow_cost v_hallNow_chairs v_hallNow_guests v_hallNow_dishes, oX1 h_feast h_hallNow h_feast_coins h_feast_chairOf h_feast_tired h_feast_hosted h_feast_owed h_feast_paid v_feast_sitting v_feast_taken v_feast_served v_feast_hidden v_feast_round v_feast_over v_feast_host v_feast_paidInAll v_feast_lot] → ∀ (ls : Array Slot), lv_has ls 5 [(0, .ref h_this), (1, .int x1)] → W p l e R s m args below meth c H locs 0 0 (MQ below (PQi dC dI cI cJ cB cZ cF cG A o_r [oX11 h_this h_tape h_written h_hallNow h_feast h_hallText h_acts h_seer h_ledger h_saying h_sayingText h_images v_lastFault, oX2 h_hallNow h_hallNow_guestName h_hallNow_coins h_hallNow_pride h_hallNow_speed h_hallNow_place h_hallNow_payer h_hallNow_dishName h_hallNow_cost v_hallNow_chairs v_hallNow_guests v_hallNow_dishes, oX1 h_feast h_hallNow h_feast_coins h_feast_chairOf h_feast_tired h_feast_hosted h_feast_owed h_feast_paid v_feast_sitting v_feast_taken v_feast_served v_feast_hidden v_feast_round v_feast_over v_feast_host v_feast_paidInAll v_feast_lot]) args s 0 0 A) (F0 m 0 ls []) := by
  obtain ⟨hx, hb, hrt, hml, hown, hts, hlocks⟩ := id C0
  intro x1 hr H locs hW ls hl
  obtain ⟨hK, hP, hD, hS⟩ := hW
  have hr : (if v_hallNow_guests < 1 then none else if x1 < 0 then none else if x1 ≤ 1 then if x1 = 0 then lX11_mean_52 v_hallNow_guests v_feast_paidInAll 5000 v_hallNow_guests v_feast_paidInAll v_hallNow_guests else lX11_mean_52 v_hallNow_guests v_feast_paidInAll 5000 v_hallNow_guests v_hallNow_guests v_hallNow_guests else none : Option (Int32)) = some o_r := hr
  refine lv_aload_n hx hb dX11_mean_0 rfl (lv_at hl 0 rfl) ?_
  refine va_get (D := (dC, dI)) (ci := 11) (v := .ref h_hallNow) (C := RX11) (T := TX11) (N := 12) hx hb hts (fun w h => List.mem_cons_of_mem _ (inU_11 w h)) hown hK hP 0 rfl rfl 2 (by decide) (hts _ (List.mem_cons_of_mem _ U_24)) (fun _ h9 => h9) rfl dX11_mean_1 ?_
  refine va_get (D := (dC, dI)) (ci := 2) (v := .int v_hallNow_guests) (C := RX2) (T := TX2) (N := 11) hx hb hts (fun w h => List.mem_cons_of_mem _ (inU_2 w h)) hown hK hP 1 rfl rfl 9 (by decide) (hts _ (List.mem_cons_of_mem _ U_1139)) (fun _ h9 => h9) rfl dX11_mean_4 ?_
  refine lv_istore_n (lv' := [(2, .int v_hallNow_guests), (0, .ref h_this), (1, .int x1)]) hx hb dX11_mean_7 rfl hl (by decide) rfl (fun ls hl => ?_)
  refine lv_iload_n hx hb dX11_mean_8 rfl (lv_at hl 0 rfl) ?_
  refine z_pc (pc' := 9) rfl ?_
  refine lv_iconst (v := 1) hx hb dX11_mean_9 (by decide) ?_
  refine lv_icmp_lt (tgt := 22) hx hb dX11_mean_10 (by decide) (fun hc => ?_) (fun hc => ?_)
  · have hr := iteP hc hr
    exact nomatch (show (none : Option (Int32)) = some _ from hr)
  · have hr := iteN hc hr
    refine lv_iload_n hx hb dX11_mean_13 rfl (lv_at hl 2 rfl) ?_
    refine lv_if_lt (tgt := 22) hx hb dX11_mean_14 (by decide) (fun hc => ?_) (fun hc => ?_)
    · have hr := iteP hc hr
      exact nomatch (show (none : Option (Int32)) = some _ from hr)
    · have hr := iteN hc hr
      refine lv_iload_n hx hb dX11_mean_17 rfl (lv_at hl 2 rfl) ?_
      refine lv_iconst (v := 1) hx hb dX11_mean_18 (by decide) ?_
      refine lv_icmp_le (tgt := 33) hx hb dX11_mean_19 (by decide) (fun hc => ?_) (fun hc => ?_)
      · have hr := iteP hc hr
        refine lv_iload_n hx hb dX11_mean_33 rfl (lv_at hl 2 rfl) ?_
        refine lv_if_ne (tgt := 47) hx hb dX11_mean_34 (by decide) (fun hc => ?_) (fun hc => ?_)
        · have hr := iteN hc hr
          refine lv_iload_n hx hb dX11_mean_47 rfl (lv_at hl 0 rfl) ?_
          refine lv_istore_n (lv' := [(3, .int v_hallNow_guests), (2, .int v_hallNow_guests), (0, .ref h_this), (1, .int x1)]) hx hb dX11_mean_48 rfl hl (by decide) rfl (fun ls hl => ?_)
          refine lv_iload_n hx hb dX11_mean_49 rfl (lv_at hl 1 rfl) ?_
          refine lv_istore (lv' := [(4, .int v_hallNow_guests), (3, .int v_hallNow_guests), (2, .int v_hallNow_guests), (0, .ref h_this), (1, .int x1)]) hx hb dX11_mean_50 hl (by decide) rfl (fun ls hl => ?_)
          exact tX11_mean_52 hA C0 hR h_this h_hallNow h_feast h_tape h_written h_hallText h_acts h_seer h_ledger h_saying h_sayingText h_images h_hallNow_guestName h_hallNow_coins h_hallNow_pride h_hallNow_speed h_hallNow_place h_hallNow_payer h_hallNow_dishName h_hallNow_cost h_feast_coins h_feast_chairOf h_feast_tired h_feast_hosted h_feast_owed h_feast_paid v_lastFault v_hallNow_chairs v_hallNow_guests v_hallNow_dishes v_feast_sitting v_feast_taken v_feast_served v_feast_hidden v_feast_round v_feast_over v_feast_host v_feast_paidInAll v_feast_lot o_r 5000 v_hallNow_guests v_hallNow_guests v_hallNow_guests hr _ _ ⟨hK, hP, hD, hS⟩ ls (lv_sub hl [3, 2, 1, 0] rfl)
        · have hr := iteP hc hr
          refine lv_aload_n hx hb dX11_mean_37 rfl (lv_at hl 1 rfl) ?_
          refine va_get (D := (dC, dI)) (ci := 11) (v := .ref h_feast) (C := RX11) (T := TX11) (N := 12) hx hb hts (fun w h => List.mem_cons_of_mem _ (inU_11 w h)) hown hK hP 0 rfl rfl 3 (by decide) (hts _ (List.mem_cons_of_mem _ U_28)) (fun _ h9 => h9) rfl dX11_mean_38 ?_
          refine va_get (D := (dC, dI)) (ci := 1) (v := .int v_feast_paidInAll) (C := RX1) (T := TX1) (N := 16) hx hb hts (fun w h => List.mem_cons_of_mem _ (inU_1 w h)) hown hK hP 2 rfl rfl 14 (by decide) (hts _ (List.mem_cons_of_mem _ U_660)) (fun _ h9 => h9) rfl dX11_mean_41 ?_
          refine lv_goto (tgt := 48) hx hb dX11_mean_44 (by decide) ?_
          refine lv_istore_n (lv' := [(3, .int v_feast_paidInAll), (2, .int v_hallNow_guests), (0, .ref h_this), (1, .int x1)]) hx hb dX11_mean_48 rfl hl (by decide) rfl (fun ls hl => ?_)
          refine z_pc (pc' := 49) rfl ?_
          refine lv_iload_n hx hb dX11_mean_49 rfl (lv_at hl 1 rfl) ?_
          refine lv_istore (lv' := [(4, .int v_hallNow_guests), (3, .int v_feast_paidInAll), (2, .int v_hallNow_guests), (0, .ref h_this), (1, .int x1)]) hx hb dX11_mean_50 hl (by decide) rfl (fun ls hl => ?_)
          exact tX11_mean_52 hA C0 hR h_this h_hallNow h_feast h_tape h_written h_hallText h_acts h_seer h_ledger h_saying h_sayingText h_images h_hallNow_guestName h_hallNow_coins h_hallNow_pride h_hallNow_speed h_hallNow_place h_hallNow_payer h_hallNow_dishName h_hallNow_cost h_feast_coins h_feast_chairOf h_feast_tired h_feast_hosted h_feast_owed h_feast_paid v_lastFault v_hallNow_chairs v_hallNow_guests v_hallNow_dishes v_feast_sitting v_feast_taken v_feast_served v_feast_hidden v_feast_round v_feast_over v_feast_host v_feast_paidInAll v_feast_lot o_r 5000 v_hallNow_guests v_feast_paidInAll v_hallNow_guests hr _ _ ⟨hK, hP, hD, hS⟩ ls (lv_sub hl [3, 2, 1, 0] rfl)
      · have hr := iteN hc hr
        exact nomatch (show (none : Option (Int32)) = some _ from hr)
set_option maxHeartbeats 4000000 in
set_option maxRecDepth 100000 in
theorem mX11_mean (l : Launch) (dC : Nat → ClassId) (dI : Nat → Nat → Nat) (cI cJ cB cZ cF cG : ClassId) (h_this : Nat) (h_hallNow : Nat) (h_feast : Nat) (h_tape : Nat) (h_written : Nat) (h_hallText : Nat) (h_acts : Nat) (h_seer : Nat) (h_ledger : Nat) (h_saying : Nat) (h_sayingText : Nat) (h_images : Nat) (h_hallNow_guestName : Nat) (h_hallNow_coins : Nat) (h_hallNow_pride : Nat) (h_hallNow_speed : Nat) (h_hallNow_place : Nat) (h_hallNow_payer : Nat) (h_hallNow_dishName : Nat) (h_hallNow_cost : Nat) (h_feast_coins : Nat) (h_feast_chairOf : Nat) (h_feast_tired : Nat) (h_feast_hosted : Nat) (h_feast_owed : Nat) (h_feast_paid : Nat) (sz : Nat) (v_lastFault : Int32) (v_hallNow_chairs : Int32) (v_hallNow_guests : Int32) (v_hallNow_dishes : Int32) (v_feast_sitting : Int32) (v_feast_taken : Int32) (v_feast_served : Int32) (v_feast_hidden : Int32) (v_feast_round : Int32) (v_feast_over : Int32) (v_feast_host : Int32) (v_feast_paidInAll : Int32) (v_feast_lot : Int32) (x1 : Int32) (o_r : Int32) (hf : fX11_mean v_hallNow_guests v_feast_paidInAll x1 = some o_r) : Met l yX11_mean uX11_mean ({ frames := 0, cells := 0, slots := 0, locals := 0 }) (va_Pc [.ref h_this, .int x1] (fun U => U.heap.size = sz ∧ va_P (dC, dI) vwCl [oX11 h_this h_tape h_written h_hallNow h_feast h_hallText h_acts h_seer h_ledger h_saying h_sayingText h_images v_lastFault, oX2 h_hallNow h_hallNow_guestName h_hallNow_coins h_hallNow_pride h_hallNow_speed h_hallNow_place h_hallNow_payer h_hallNow_dishName h_hallNow_cost v_hallNow_chairs v_hallNow_guests v_hallNow_dishes, oX1 h_feast h_hallNow h_feast_coins h_feast_chairOf h_feast_tired h_feast_hosted h_feast_owed h_feast_paid v_feast_sitting v_feast_taken v_feast_served v_feast_hidden v_feast_round v_feast_over v_feast_host v_feast_paidInAll v_feast_lot] U.heap ∧ va_K (dC, dI) vwCl (TYS cI cJ cB cZ cF cG) U ∧ va_D (fun _ => True) [oX11 h_this h_tape h_written h_hallNow h_feast h_hallText h_acts h_seer h_ledger h_saying h_sayingText h_images v_lastFault, oX2 h_hallNow h_hallNow_guestName h_hallNow_coins h_hallNow_pride h_hallNow_speed h_hallNow_place h_hallNow_payer h_hallNow_dishName h_hallNow_cost v_hallNow_chairs v_hallNow_guests v_hallNow_dishes, oX1 h_feast h_hallNow h_feast_coins h_feast_chairOf h_feast_tired h_feast_hosted h_feast_owed h_feast_paid v_feast_sitting v_feast_taken v_feast_served v_feast_hidden v_feast_round v_feast_over v_feast_host v_feast_paidInAll v_feast_lot])) (PQi dC dI cI cJ cB cZ cF cG (va_A [oX11 h_this h_tape h_written h_hallNow h_feast h_hallText h_acts h_seer h_ledger h_saying h_sayingText h_images v_lastFault, oX2 h_hallNow h_hallNow_guestName h_hallNow_coins h_hallNow_pride h_hallNow_speed h_hallNow_place h_hallNow_payer h_hallNow_dishName h_hallNow_cost v_hallNow_chairs v_hallNow_guests v_hallNow_dishes, oX1 h_feast h_hallNow h_feast_coins h_feast_chairOf h_feast_tired h_feast_hosted h_feast_owed h_feast_paid v_feast_sitting v_feast_taken v_feast_served v_feast_hidden v_feast_round v_feast_over v_feast_host v_feast_paidInAll v_feast_lot] sz) o_r [oX11 h_this h_tape h_written h_hallNow h_feast h_hallText h_acts h_seer h_ledger h_saying h_sayingText h_images v_lastFault, oX2 h_hallNow h_hallNow_guestName h_hallNow_coins h_hallNow_pride h_hallNow_speed h_hallNow_place h_hallNow_payer h_hallNow_dishName h_hallNow_cost v_hallNow_chairs v_hallNow_guests v_hallNow_dishes, oX1 h_feast h_hallNow h_feast_coins h_feast_chairOf h_feast_tired h_feast_hosted h_feast_owed h_feast_paid v_feast_sitting v_feast_taken v_feast_served v_feast_hidden v_feast_round v_feast_over v_feast_host v_feast_paidInAll v_feast_lot]) 0 0 (va_A [oX11 h_this h_tape h_written h_hallNow h_feast h_hallText h_acts h_seer h_ledger h_saying h_sayingText h_images v_lastFault, oX2 h_hallNow h_hallNow_guestName h_hallNow_coins h_hallNow_pride h_hallNow_speed h_hallNow_place h_hallNow_payer h_hallNow_dishName h_hallNow_cost v_hallNow_chairs v_hallNow_guests v_hallNow_dishes, oX1 h_feast h_hallNow h_feast_coins h_feast_chairOf h_feast_tired h_feast_hosted h_feast_owed h_feast_paid v_feast_sitting v_feast_taken v_feast_served v_feast_hidden v_feast_round v_feast_over v_feast_host v_feast_paidInAll v_feast_lot] sz) := by
  refine Met.ofW (cc := cX11_mean) (maxL := 5) (ret := (some .int)) (by decide) rfl ?_
  intro p e s m args below meth c s₁ B hml hv
  obtain ⟨rfl, hsz, hP, hK, hD0⟩ := hv
  have hx := B.exec
  have hb := B.bytes
  have hr := B.returns
  have hts := atoms_spec (ws := uX11_mean) B.pre
  have hown : s.vm.findClass RX11 = some m.cls := findClass_of_methodNamed B.named
  have hlocks := B.notSynchronized
  subst hsz
  have hD := hD0.self (sz := s.heap.size)
  generalize hAe : va_A [oX11 h_this h_tape h_written h_hallNow h_feast h_hallText h_acts h_seer h_ledger h_saying h_sayingText h_images v_lastFault, oX2 h_hallNow h_hallNow_guestName h_hallNow_coins h_hallNow_pride h_hallNow_speed h_hallNow_place h_hallNow_payer h_hallNow_dishName h_hallNow_cost v_hallNow_chairs v_hallNow_guests v_hallNow_dishes, oX1 h_feast h_hallNow h_feast_coins h_feast_chairOf h_feast_tired h_feast_hosted h_feast_owed h_feast_paid v_feast_sitting v_feast_taken v_feast_served v_feast_hidden v_feast_round v_feast_over v_feast_host v_feast_paidInAll v_feast_lot] s.heap.size = A at hD ⊢
  have hA : ∀ q : Nat, s.heap.size ≤ q → A q := fun q h => by rw [← hAe]; exact Or.inr h
  have hS : va_S A s.heap s.heap [] := va_S.rf
  have hl := lv_entry ([.ref h_this, .int x1]) (n := 5) (Nat.le_of_ble_eq_true rfl)
  rw [lg_entry_eq]
  generalize (lg_sl ([.ref h_this, .int x1]) ++ List.replicate (5 - (lg_sl ([.ref h_this, .int x1])).length) Slot.unset).toArray = ls at hl ⊢
  have hl : lv_has ls 5 [(0, .ref h_this), (1, .int x1)] := hl
  exact tX11_mean hA ⟨hx, hb, hr, hml, hown, hts, hlocks⟩ ⟨Nat.le_refl _, Nat.le_refl _⟩ h_this h_hallNow h_feast h_tape h_written h_hallText h_acts h_seer h_ledger h_saying h_sayingText h_images h_hallNow_guestName h_hallNow_coins h_hallNow_pride h_hallNow_speed h_hallNow_place h_hallNow_payer h_hallNow_dishName h_hallNow_cost h_feast_coins h_feast_chairOf h_feast_tired h_feast_hosted h_feast_owed h_feast_paid v_lastFault v_hallNow_chairs v_hallNow_guests v_hallNow_dishes v_feast_sitting v_feast_taken v_feast_served v_feast_hidden v_feast_round v_feast_over v_feast_host v_feast_paidInAll v_feast_lot o_r x1 hf _ _ ⟨hK, hP, hD, hS⟩ ls hl
def XN : List String := ["java/lang/Exception"]
def XA : List Cond := vx_atX RX11 144 "java/util/NoSuchElementException" "java/lang/RuntimeException" 13 six13 XN
