-- LastSeat$Feast.copyFrom(LLastSeat$Feast;)V
def uX1_copyFrom : List Cond := .code yX1_copyFrom cX1_copyFrom 2 none :: wsU
set_option maxHeartbeats 4000000 in
set_option maxRecDepth 100000 in
theorem tX1_copyFrom {p : Program} {l : Launch} {e : Env} {R : Room} {s : State} {m : MethodId} {args : Array Value} {below : List Frame} {meth : Method} {c : Code} {dC : Nat → ClassId} {dI : Nat → Nat → Nat} {cI cJ cB cZ cF cG : ClassId} {A : Nat → Prop} (hA : ∀ q : Nat, s.heap.size ≤ q → A q) (C0 : Cx p s m meth c args cX1_copyFrom 2 none RX1 uX1_copyFrom) (hR : 1 ≤ R.frames ∧ 60 ≤ R.locals) (h_this : Nat) (h_coins : Nat) (h_chairOf : Nat) (h_tired : Nat) (h_hosted : Nat) (h_owed : Nat) (h_paid : Nat) (h_a0 : Nat) (h_a0_coins : Nat) (h_a0_chairOf : Nat) (h_a0_tired : Nat) (h_a0_hosted : Nat) (h_a0_owed : Nat) (h_a0_paid : Nat) (h_hall : Nat) (h_a0_hall : Nat) (v_lot : Int32) (v_a0_sitting : Int32) (v_a0_taken : Int32) (v_a0_served : Int32) (v_a0_hidden : Int32) (v_a0_round : Int32) (v_a0_over : Int32) (v_a0_host : Int32) (v_a0_paidInAll : Int32) (v_a0_lot : Int32) (v_a0_coins : Nat → Int32) (v_a0_chairOf : Nat → Int32) (v_a0_tired : Nat → Int32) (v_a0_hosted : Nat → Int32) (v_a0_owed : Nat → Int32) (v_a0_paid : Nat → Int32) (o_sitting : Int32) (o_taken : Int32) (o_served : Int32) (o_hidden : Int32) (o_round : Int32) (o_over : Int32) (o_host : Int32) (o_paidInAll : Int32) (o_coins : Nat → Int32) (o_chairOf : Nat → Int32) (o_tired : Nat → Int32) (o_hosted : Nat → Int32) (o_owed : Nat → Int32) (o_paid : Nat → Int32) :
    ∀ (v_sitting : Int32) (v_taken : Int32) (v_served : Int32) (v_hidden : Int32) (v_round : Int32) (v_over : Int32) (v_host : Int32) (v_paidInAll : Int32) (v_coins : Nat → Int32) (v_chairOf : Nat → Int32) (v_tired : Nat → Int32) (v_hosted : Nat → Int32) (v_owed : Nat → Int32) (v_paid : Nat → Int32), fX1_copyFrom v_a0_sitting v_a0_taken v_a0_served v_a0_hidden v_a0_round v_a0_over v_a0_host v_a0_paidInAll v_a0_coins v_a0_chairOf v_a0_tired v_a0_hosted v_a0_owed v_a0_paid v_sitting v_taken v_served v_hidden v_round v_over v_host v_paidInAll v_coins v_chairOf v_tired v_hosted v_owed v_paid = some (o_sitting, o_taken, o_served, o_hidden, o_round, o_over, o_host, o_paidInAll, o_coins, o_chairOf, o_tired, o_hosted, o_owed, o_paid) → ∀ (H : Heap) (locs : List Loc), Wd dC dI cI cJ cB cZ cF cG A s H locs [oX1 h_this h_hall h_coins h_chairOf h_tired h_hosted h_owed h_paid v_sitting v_taken v_served v_hidden v_round v_over v_host v_paidInAll v_lot, aI cI h_coins 7 v_coins, aI cI h_chairOf 7 v_chairOf, aI cI h_tired 7 v_tired, aI cI h_hosted 7 v_hosted, aI cI h_owed 7 v_owed, aI cI h_paid 7 v_paid, oX1 h_a0 h_a0_hall h_a0_coins h_a0_chairOf h_a0_tired h_a0_hosted h_a0_owed h_a0_paid v_a0_sitting v_a0_taken v_a0_served v_a0_hidden v_a0_round v_a0_over v_a0_host v_a0_paidInAll v_a0_lot, aI cI h_a0_coins 7 v_a0_coins, aI cI h_a0_chairOf 7 v_a0_chairOf, aI cI h_a0_tired 7 v_a0_tired, aI cI h_a0_hosted 7 v_a0_hosted, aI cI h_a0_owed 7 v_a0_owed, aI cI h_a0_paid 7 v_a0_paid] → ∀ (ls : Array Slot), lv_has ls 2 [(0, .ref h_this), (1, .ref h_a0)] → W p l e R s m args below meth c H locs 0 0 (MQ below (PQv dC dI cI cJ cB cZ cF cG A [oX1 h_this h_hall h_coins h_chairOf h_tired h_hosted h_owed h_paid o_sitting o_taken o_served o_hidden o_round o_over o_host o_paidInAll v_lot, aI cI h_coins 7 o_coins, aI cI h_chairOf 7 o_chairOf, aI cI h_tired 7 o_tired, aI cI h_hosted 7 o_hosted, aI cI h_owed 7 o_owed, aI cI h_paid 7 o_paid, oX1 h_a0 h_a0_hall h_a0_coins h_a0_chairOf h_a0_tired h_a0_hosted h_a0_owed h_a0_paid v_a0_sitting v_a0_taken v_a0_served v_a0_hidden v_a0_round v_a0_over v_a0_host v_a0_paidInAll v_a0_lot, aI cI h_a0_coins 7 v_a0_coins, aI cI h_a0_chairOf 7 v_a0_chairOf, aI cI h_a0_tired 7 v_a0_tired, aI cI h_a0_hosted 7 v_a0_hosted, aI cI h_a0_owed 7 v_a0_owed, aI cI h_a0_paid 7 v_a0_paid]) args s 0 0 A) (F0 m 0 ls []) := by
  obtain ⟨hx, hb, hrt, hml, hown, hts, hlocks⟩ := id C0
  intro v_sitting v_taken v_served v_hidden v_round v_over v_host v_paidInAll v_coins v_chairOf v_tired v_hosted v_owed v_paid hr H locs hW ls hl
  obtain ⟨hK, hP, hD, hS⟩ := hW
  have hr : (some (v_a0_sitting, v_a0_taken, v_a0_served, v_a0_hidden, v_a0_round, v_a0_over, v_a0_host, v_a0_paidInAll, (va_cpy v_a0_coins v_coins 0 0 7), (va_cpy v_a0_chairOf v_chairOf 0 0 7), (va_cpy v_a0_tired v_tired 0 0 7), (va_cpy v_a0_hosted v_hosted 0 0 7), (va_cpy v_a0_owed v_owed 0 0 7), (va_cpy v_a0_paid v_paid 0 0 7)) : Option (Int32 × Int32 × Int32 × Int32 × Int32 × Int32 × Int32 × Int32 × (Nat → Int32) × (Nat → Int32) × (Nat → Int32) × (Nat → Int32) × (Nat → Int32) × (Nat → Int32))) = some (o_sitting, o_taken, o_served, o_hidden, o_round, o_over, o_host, o_paidInAll, o_coins, o_chairOf, o_tired, o_hosted, o_owed, o_paid) := hr
  refine lv_aload_n hx hb dX1_copyFrom_0 rfl (lv_at hl 1 rfl) ?_
  refine va_get (D := (dC, dI)) (ci := 1) (v := .ref h_a0_coins) (C := RX1) (T := TX1) (N := 16) hx hb hts (fun w h => List.mem_cons_of_mem _ (inU_1 w h)) hown hK hP 7 rfl rfl 1 (by decide) (hts _ (List.mem_cons_of_mem _ U_144)) (fun _ h9 => h9) rfl dX1_copyFrom_1 ?_
  refine lv_iconst (v := 0) hx hb dX1_copyFrom_4 (by decide) ?_
  refine lv_aload_n hx hb dX1_copyFrom_5 rfl (lv_at hl 0 rfl) ?_
  refine va_get (D := (dC, dI)) (ci := 1) (v := .ref h_coins) (C := RX1) (T := TX1) (N := 16) hx hb hts (fun w h => List.mem_cons_of_mem _ (inU_1 w h)) hown hK hP 0 rfl rfl 1 (by decide) (hts _ (List.mem_cons_of_mem _ U_144)) (fun _ h9 => h9) rfl dX1_copyFrom_6 ?_
  refine z_pc (pc' := 9) rfl ?_
  refine lv_iconst (v := 0) hx hb dX1_copyFrom_9 (by decide) ?_
  refine lv_bipush (v := 7) hx hb dX1_copyFrom_10 (by decide) ?_
  refine va_copyi (sp := 0) (dp := 0) (n := 7) hx hb (hml.trans hl.1.symm) hown (hts _ (List.mem_cons_of_mem _ U_696)) (hts _ (List.mem_cons_of_mem _ U_432)) (hts _ (List.mem_cons_of_mem _ U_433)) (hts _ (List.mem_cons_of_mem _ U_434)) hK hP hD hS 8 1 0 0 rfl rfl rfl rfl rfl (by decide) (by decide) (by decide) (by decide) (by decide) (fun _ _ => rfl) (Nat.le_trans (by decide) hR.1) (Nat.le_trans (Nat.le_of_ble_eq_true rfl) hR.2) dX1_copyFrom_12 (fun H locs hP hD hS => ?_)
  have hP : va_P (dC, dI) vwCl [oX1 h_this h_hall h_coins h_chairOf h_tired h_hosted h_owed h_paid v_sitting v_taken v_served v_hidden v_round v_over v_host v_paidInAll v_lot, aI cI h_coins 7 (va_cpy v_a0_coins v_coins 0 0 7), aI cI h_chairOf 7 v_chairOf, aI cI h_tired 7 v_tired, aI cI h_hosted 7 v_hosted, aI cI h_owed 7 v_owed, aI cI h_paid 7 v_paid, oX1 h_a0 h_a0_hall h_a0_coins h_a0_chairOf h_a0_tired h_a0_hosted h_a0_owed h_a0_paid v_a0_sitting v_a0_taken v_a0_served v_a0_hidden v_a0_round v_a0_over v_a0_host v_a0_paidInAll v_a0_lot, aI cI h_a0_coins 7 v_a0_coins, aI cI h_a0_chairOf 7 v_a0_chairOf, aI cI h_a0_tired 7 v_a0_tired, aI cI h_a0_hosted 7 v_a0_hosted, aI cI h_a0_owed 7 v_a0_owed, aI cI h_a0_paid 7 v_a0_paid] H := hP
  have hD : va_D A [oX1 h_this h_hall h_coins h_chairOf h_tired h_hosted h_owed h_paid v_sitting v_taken v_served v_hidden v_round v_over v_host v_paidInAll v_lot, aI cI h_coins 7 (va_cpy v_a0_coins v_coins 0 0 7), aI cI h_chairOf 7 v_chairOf, aI cI h_tired 7 v_tired, aI cI h_hosted 7 v_hosted, aI cI h_owed 7 v_owed, aI cI h_paid 7 v_paid, oX1 h_a0 h_a0_hall h_a0_coins h_a0_chairOf h_a0_tired h_a0_hosted h_a0_owed h_a0_paid v_a0_sitting v_a0_taken v_a0_served v_a0_hidden v_a0_round v_a0_over v_a0_host v_a0_paidInAll v_a0_lot, aI cI h_a0_coins 7 v_a0_coins, aI cI h_a0_chairOf 7 v_a0_chairOf, aI cI h_a0_tired 7 v_a0_tired, aI cI h_a0_hosted 7 v_a0_hosted, aI cI h_a0_owed 7 v_a0_owed, aI cI h_a0_paid 7 v_a0_paid] := hD
  refine lv_aload_n hx hb dX1_copyFrom_15 rfl (lv_at hl 1 rfl) ?_
  refine va_get (D := (dC, dI)) (ci := 1) (v := .ref h_a0_chairOf) (C := RX1) (T := TX1) (N := 16) hx hb hts (fun w h => List.mem_cons_of_mem _ (inU_1 w h)) hown hK hP 7 rfl rfl 2 (by decide) (hts _ (List.mem_cons_of_mem _ U_145)) (fun _ h9 => h9) rfl dX1_copyFrom_16 ?_
  refine lv_iconst (v := 0) hx hb dX1_copyFrom_19 (by decide) ?_
  refine z_pc (pc' := 20) rfl ?_
  refine lv_aload_n hx hb dX1_copyFrom_20 rfl (lv_at hl 0 rfl) ?_
  refine va_get (D := (dC, dI)) (ci := 1) (v := .ref h_chairOf) (C := RX1) (T := TX1) (N := 16) hx hb hts (fun w h => List.mem_cons_of_mem _ (inU_1 w h)) hown hK hP 0 rfl rfl 2 (by decide) (hts _ (List.mem_cons_of_mem _ U_145)) (fun _ h9 => h9) rfl dX1_copyFrom_21 ?_
  refine lv_iconst (v := 0) hx hb dX1_copyFrom_24 (by decide) ?_
  refine lv_bipush (v := 7) hx hb dX1_copyFrom_25 (by decide) ?_
  refine va_copyi (sp := 0) (dp := 0) (n := 7) hx hb (hml.trans hl.1.symm) hown (hts _ (List.mem_cons_of_mem _ U_696)) (hts _ (List.mem_cons_of_mem _ U_432)) (hts _ (List.mem_cons_of_mem _ U_433)) (hts _ (List.mem_cons_of_mem _ U_434)) hK hP hD hS 9 2 0 0 rfl rfl rfl rfl rfl (by decide) (by decide) (by decide) (by decide) (by decide) (fun _ _ => rfl) (Nat.le_trans (by decide) hR.1) (Nat.le_trans (Nat.le_of_ble_eq_true rfl) hR.2) dX1_copyFrom_27 (fun H locs hP hD hS => ?_)
  have hP : va_P (dC, dI) vwCl [oX1 h_this h_hall h_coins h_chairOf h_tired h_hosted h_owed h_paid v_sitting v_taken v_served v_hidden v_round v_over v_host v_paidInAll v_lot, aI cI h_coins 7 (va_cpy v_a0_coins v_coins 0 0 7), aI cI h_chairOf 7 (va_cpy v_a0_chairOf v_chairOf 0 0 7), aI cI h_tired 7 v_tired, aI cI h_hosted 7 v_hosted, aI cI h_owed 7 v_owed, aI cI h_paid 7 v_paid, oX1 h_a0 h_a0_hall h_a0_coins h_a0_chairOf h_a0_tired h_a0_hosted h_a0_owed h_a0_paid v_a0_sitting v_a0_taken v_a0_served v_a0_hidden v_a0_round v_a0_over v_a0_host v_a0_paidInAll v_a0_lot, aI cI h_a0_coins 7 v_a0_coins, aI cI h_a0_chairOf 7 v_a0_chairOf, aI cI h_a0_tired 7 v_a0_tired, aI cI h_a0_hosted 7 v_a0_hosted, aI cI h_a0_owed 7 v_a0_owed, aI cI h_a0_paid 7 v_a0_paid] H := hP
  have hD : va_D A [oX1 h_this h_hall h_coins h_chairOf h_tired h_hosted h_owed h_paid v_sitting v_taken v_served v_hidden v_round v_over v_host v_paidInAll v_lot, aI cI h_coins 7 (va_cpy v_a0_coins v_coins 0 0 7), aI cI h_chairOf 7 (va_cpy v_a0_chairOf v_chairOf 0 0 7), aI cI h_tired 7 v_tired, aI cI h_hosted 7 v_hosted, aI cI h_owed 7 v_owed, aI cI h_paid 7 v_paid, oX1 h_a0 h_a0_hall h_a0_coins h_a0_chairOf h_a0_tired h_a0_hosted h_a0_owed h_a0_paid v_a0_sitting v_a0_taken v_a0_served v_a0_hidden v_a0_round v_a0_over v_a0_host v_a0_paidInAll v_a0_lot, aI cI h_a0_coins 7 v_a0_coins, aI cI h_a0_chairOf 7 v_a0_chairOf, aI cI h_a0_tired 7 v_a0_tired, aI cI h_a0_hosted 7 v_a0_hosted, aI cI h_a0_owed 7 v_a0_owed, aI cI h_a0_paid 7 v_a0_paid] := hD
  refine lv_aload_n hx hb dX1_copyFrom_30 rfl (lv_at hl 1 rfl) ?_
  refine z_pc (pc' := 31) rfl ?_
  refine va_get (D := (dC, dI)) (ci := 1) (v := .ref h_a0_tired) (C := RX1) (T := TX1) (N := 16) hx hb hts (fun w h => List.mem_cons_of_mem _ (inU_1 w h)) hown hK hP 7 rfl rfl 3 (by decide) (hts _ (List.mem_cons_of_mem _ U_146)) (fun _ h9 => h9) rfl dX1_copyFrom_31 ?_
  refine lv_iconst (v := 0) hx hb dX1_copyFrom_34 (by decide) ?_
  refine lv_aload_n hx hb dX1_copyFrom_35 rfl (lv_at hl 0 rfl) ?_
  refine va_get (D := (dC, dI)) (ci := 1) (v := .ref h_tired) (C := RX1) (T := TX1) (N := 16) hx hb hts (fun w h => List.mem_cons_of_mem _ (inU_1 w h)) hown hK hP 0 rfl rfl 3 (by decide) (hts _ (List.mem_cons_of_mem _ U_146)) (fun _ h9 => h9) rfl dX1_copyFrom_36 ?_
  refine lv_iconst (v := 0) hx hb dX1_copyFrom_39 (by decide) ?_
  refine lv_bipush (v := 7) hx hb dX1_copyFrom_40 (by decide) ?_
  refine z_pc (pc' := 42) rfl ?_
  refine va_copyi (sp := 0) (dp := 0) (n := 7) hx hb (hml.trans hl.1.symm) hown (hts _ (List.mem_cons_of_mem _ U_696)) (hts _ (List.mem_cons_of_mem _ U_432)) (hts _ (List.mem_cons_of_mem _ U_433)) (hts _ (List.mem_cons_of_mem _ U_434)) hK hP hD hS 10 3 0 0 rfl rfl rfl rfl rfl (by decide) (by decide) (by decide) (by decide) (by decide) (fun _ _ => rfl) (Nat.le_trans (by decide) hR.1) (Nat.le_trans (Nat.le_of_ble_eq_true rfl) hR.2) dX1_copyFrom_42 (fun H locs hP hD hS => ?_)
  have hP : va_P (dC, dI) vwCl [oX1 h_this h_hall h_coins h_chairOf h_tired h_hosted h_owed h_paid v_sitting v_taken v_served v_hidden v_round v_over v_host v_paidInAll v_lot, aI cI h_coins 7 (va_cpy v_a0_coins v_coins 0 0 7), aI cI h_chairOf 7 (va_cpy v_a0_chairOf v_chairOf 0 0 7), aI cI h_tired 7 (va_cpy v_a0_tired v_tired 0 0 7), aI cI h_hosted 7 v_hosted, aI cI h_owed 7 v_owed, aI cI h_paid 7 v_paid, oX1 h_a0 h_a0_hall h_a0_coins h_a0_chairOf h_a0_tired h_a0_hosted h_a0_owed h_a0_paid v_a0_sitting v_a0_taken v_a0_served v_a0_hidden v_a0_round v_a0_over v_a0_host v_a0_paidInAll v_a0_lot, aI cI h_a0_coins 7 v_a0_coins, aI cI h_a0_chairOf 7 v_a0_chairOf, aI cI h_a0_tired 7 v_a0_tired, aI cI h_a0_hosted 7 v_a0_hosted, aI cI h_a0_owed 7 v_a0_owed, aI cI h_a0_paid 7 v_a0_paid] H := hP
  have hD : va_D A [oX1 h_this h_hall h_coins h_chairOf h_tired h_hosted h_owed h_paid v_sitting v_taken v_served v_hidden v_round v_over v_host v_paidInAll v_lot, aI cI h_coins 7 (va_cpy v_a0_coins v_coins 0 0 7), aI cI h_chairOf 7 (va_cpy v_a0_chairOf v_chairOf 0 0 7), aI cI h_tired 7 (va_cpy v_a0_tired v_tired 0 0 7), aI cI h_hosted 7 v_hosted, aI cI h_owed 7 v_owed, aI cI h_paid 7 v_paid, oX1 h_a0 h_a0_hall h_a0_coins h_a0_chairOf h_a0_tired h_a0_hosted h_a0_owed h_a0_paid v_a0_sitting v_a0_taken v_a0_served v_a0_hidden v_a0_round v_a0_over v_a0_host v_a0_paidInAll v_a0_lot, aI cI h_a0_coins 7 v_a0_coins, aI cI h_a0_chairOf 7 v_a0_chairOf, aI cI h_a0_tired 7 v_a0_tired, aI cI h_a0_hosted 7 v_a0_hosted, aI cI h_a0_owed 7 v_a0_owed, aI cI h_a0_paid 7 v_a0_paid] := hD
  refine lv_aload_n hx hb dX1_copyFrom_45 rfl (lv_at hl 1 rfl) ?_
  refine va_get (D := (dC, dI)) (ci := 1) (v := .ref h_a0_hosted) (C := RX1) (T := TX1) (N := 16) hx hb hts (fun w h => List.mem_cons_of_mem _ (inU_1 w h)) hown hK hP 7 rfl rfl 4 (by decide) (hts _ (List.mem_cons_of_mem _ U_147)) (fun _ h9 => h9) rfl dX1_copyFrom_46 ?_
  refine lv_iconst (v := 0) hx hb dX1_copyFrom_49 (by decide) ?_
  refine lv_aload_n hx hb dX1_copyFrom_50 rfl (lv_at hl 0 rfl) ?_
  refine va_get (D := (dC, dI)) (ci := 1) (v := .ref h_hosted) (C := RX1) (T := TX1) (N := 16) hx hb hts (fun w h => List.mem_cons_of_mem _ (inU_1 w h)) hown hK hP 0 rfl rfl 4 (by decide) (hts _ (List.mem_cons_of_mem _ U_147)) (fun _ h9 => h9) rfl dX1_copyFrom_51 ?_
  refine z_pc (pc' := 54) rfl ?_
  refine lv_iconst (v := 0) hx hb dX1_copyFrom_54 (by decide) ?_
  refine lv_bipush (v := 7) hx hb dX1_copyFrom_55 (by decide) ?_
  refine va_copyi (sp := 0) (dp := 0) (n := 7) hx hb (hml.trans hl.1.symm) hown (hts _ (List.mem_cons_of_mem _ U_696)) (hts _ (List.mem_cons_of_mem _ U_432)) (hts _ (List.mem_cons_of_mem _ U_433)) (hts _ (List.mem_cons_of_mem _ U_434)) hK hP hD hS 11 4 0 0 rfl rfl rfl rfl rfl (by decide) (by decide) (by decide) (by decide) (by decide) (fun _ _ => rfl) (Nat.le_trans (by decide) hR.1) (Nat.le_trans (Nat.le_of_ble_eq_true rfl) hR.2) dX1_copyFrom_57 (fun H locs hP hD hS => ?_)
  have hP : va_P (dC, dI) vwCl [oX1 h_this h_hall h_coins h_chairOf h_tired h_hosted h_owed h_paid v_sitting v_taken v_served v_hidden v_round v_over v_host v_paidInAll v_lot, aI cI h_coins 7 (va_cpy v_a0_coins v_coins 0 0 7), aI cI h_chairOf 7 (va_cpy v_a0_chairOf v_chairOf 0 0 7), aI cI h_tired 7 (va_cpy v_a0_tired v_tired 0 0 7), aI cI h_hosted 7 (va_cpy v_a0_hosted v_hosted 0 0 7), aI cI h_owed 7 v_owed, aI cI h_paid 7 v_paid, oX1 h_a0 h_a0_hall h_a0_coins h_a0_chairOf h_a0_tired h_a0_hosted h_a0_owed h_a0_paid v_a0_sitting v_a0_taken v_a0_served v_a0_hidden v_a0_round v_a0_over v_a0_host v_a0_paidInAll v_a0_lot, aI cI h_a0_coins 7 v_a0_coins, aI cI h_a0_chairOf 7 v_a0_chairOf, aI cI h_a0_tired 7 v_a0_tired, aI cI h_a0_hosted 7 v_a0_hosted, aI cI h_a0_owed 7 v_a0_owed, aI cI h_a0_paid 7 v_a0_paid] H := hP
  have hD : va_D A [oX1 h_this h_hall h_coins h_chairOf h_tired h_hosted h_owed h_paid v_sitting v_taken v_served v_hidden v_round v_over v_host v_paidInAll v_lot, aI cI h_coins 7 (va_cpy v_a0_coins v_coins 0 0 7), aI cI h_chairOf 7 (va_cpy v_a0_chairOf v_chairOf 0 0 7), aI cI h_tired 7 (va_cpy v_a0_tired v_tired 0 0 7), aI cI h_hosted 7 (va_cpy v_a0_hosted v_hosted 0 0 7), aI cI h_owed 7 v_owed, aI cI h_paid 7 v_paid, oX1 h_a0 h_a0_hall h_a0_coins h_a0_chairOf h_a0_tired h_a0_hosted h_a0_owed h_a0_paid v_a0_sitting v_a0_taken v_a0_served v_a0_hidden v_a0_round v_a0_over v_a0_host v_a0_paidInAll v_a0_lot, aI cI h_a0_coins 7 v_a0_coins, aI cI h_a0_chairOf 7 v_a0_chairOf, aI cI h_a0_tired 7 v_a0_tired, aI cI h_a0_hosted 7 v_a0_hosted, aI cI h_a0_owed 7 v_a0_owed, aI cI h_a0_paid 7 v_a0_paid] := hD
  refine lv_aload_n hx hb dX1_copyFrom_60 rfl (lv_at hl 1 rfl) ?_
  refine va_get (D := (dC, dI)) (ci := 1) (v := .ref h_a0_owed) (C := RX1) (T := TX1) (N := 16) hx hb hts (fun w h => List.mem_cons_of_mem _ (inU_1 w h)) hown hK hP 7 rfl rfl 5 (by decide) (hts _ (List.mem_cons_of_mem _ U_148)) (fun _ h9 => h9) rfl dX1_copyFrom_61 ?_
  refine lv_iconst (v := 0) hx hb dX1_copyFrom_64 (by decide) ?_
  refine z_pc (pc' := 65) rfl ?_
  refine lv_aload_n hx hb dX1_copyFrom_65 rfl (lv_at hl 0 rfl) ?_
  refine va_get (D := (dC, dI)) (ci := 1) (v := .ref h_owed) (C := RX1) (T := TX1) (N := 16) hx hb hts (fun w h => List.mem_cons_of_mem _ (inU_1 w h)) hown hK hP 0 rfl rfl 5 (by decide) (hts _ (List.mem_cons_of_mem _ U_148)) (fun _ h9 => h9) rfl dX1_copyFrom_66 ?_
  refine lv_iconst (v := 0) hx hb dX1_copyFrom_69 (by decide) ?_
  refine lv_bipush (v := 7) hx hb dX1_copyFrom_70 (by decide) ?_
  refine va_copyi (sp := 0) (dp := 0) (n := 7) hx hb (hml.trans hl.1.symm) hown (hts _ (List.mem_cons_of_mem _ U_696)) (hts _ (List.mem_cons_of_mem _ U_432)) (hts _ (List.mem_cons_of_mem _ U_433)) (hts _ (List.mem_cons_of_mem _ U_434)) hK hP hD hS 12 5 0 0 rfl rfl rfl rfl rfl (by decide) (by decide) (by decide) (by decide) (by decide) (fun _ _ => rfl) (Nat.le_trans (by decide) hR.1) (Nat.le_trans (Nat.le_of_ble_eq_true rfl) hR.2) dX1_copyFrom_72 (fun H locs hP hD hS => ?_)
  have hP : va_P (dC, dI) vwCl [oX1 h_this h_hall h_coins h_chairOf h_tired h_hosted h_owed h_paid v_sitting v_taken v_served v_hidden v_round v_over v_host v_paidInAll v_lot, aI cI h_coins 7 (va_cpy v_a0_coins v_coins 0 0 7), aI cI h_chairOf 7 (va_cpy v_a0_chairOf v_chairOf 0 0 7), aI cI h_tired 7 (va_cpy v_a0_tired v_tired 0 0 7), aI cI h_hosted 7 (va_cpy v_a0_hosted v_hosted 0 0 7), aI cI h_owed 7 (va_cpy v_a0_owed v_owed 0 0 7), aI cI h_paid 7 v_paid, oX1 h_a0 h_a0_hall h_a0_coins h_a0_chairOf h_a0_tired h_a0_hosted h_a0_owed h_a0_paid v_a0_sitting v_a0_taken v_a0_served v_a0_hidden v_a0_round v_a0_over v_a0_host v_a0_paidInAll v_a0_lot, aI cI h_a0_coins 7 v_a0_coins, aI cI h_a0_chairOf 7 v_a0_chairOf, aI cI h_a0_tired 7 v_a0_tired, aI cI h_a0_hosted 7 v_a0_hosted, aI cI h_a0_owed 7 v_a0_owed, aI cI h_a0_paid 7 v_a0_paid] H := hP
  have hD : va_D A [oX1 h_this h_hall h_coins h_chairOf h_tired h_hosted h_owed h_paid v_sitting v_taken v_served v_hidden v_round v_over v_host v_paidInAll v_lot, aI cI h_coins 7 (va_cpy v_a0_coins v_coins 0 0 7), aI cI h_chairOf 7 (va_cpy v_a0_chairOf v_chairOf 0 0 7), aI cI h_tired 7 (va_cpy v_a0_tired v_tired 0 0 7), aI cI h_hosted 7 (va_cpy v_a0_hosted v_hosted 0 0 7), aI cI h_owed 7 (va_cpy v_a0_owed v_owed 0 0 7), aI cI h_paid 7 v_paid, oX1 h_a0 h_a0_hall h_a0_coins h_a0_chairOf h_a0_tired h_a0_hosted h_a0_owed h_a0_paid v_a0_sitting v_a0_taken v_a0_served v_a0_hidden v_a0_round v_a0_over v_a0_host v_a0_paidInAll v_a0_lot, aI cI h_a0_coins 7 v_a0_coins, aI cI h_a0_chairOf 7 v_a0_chairOf, aI cI h_a0_tired 7 v_a0_tired, aI cI h_a0_hosted 7 v_a0_hosted, aI cI h_a0_owed 7 v_a0_owed, aI cI h_a0_paid 7 v_a0_paid] := hD
  refine lv_aload_n hx hb dX1_copyFrom_75 rfl (lv_at hl 1 rfl) ?_
  refine z_pc (pc' := 76) rfl ?_
  refine va_get (D := (dC, dI)) (ci := 1) (v := .ref h_a0_paid) (C := RX1) (T := TX1) (N := 16) hx hb hts (fun w h => List.mem_cons_of_mem _ (inU_1 w h)) hown hK hP 7 rfl rfl 6 (by decide) (hts _ (List.mem_cons_of_mem _ U_149)) (fun _ h9 => h9) rfl dX1_copyFrom_76 ?_
  refine lv_iconst (v := 0) hx hb dX1_copyFrom_79 (by decide) ?_
  refine lv_aload_n hx hb dX1_copyFrom_80 rfl (lv_at hl 0 rfl) ?_
  refine va_get (D := (dC, dI)) (ci := 1) (v := .ref h_paid) (C := RX1) (T := TX1) (N := 16) hx hb hts (fun w h => List.mem_cons_of_mem _ (inU_1 w h)) hown hK hP 0 rfl rfl 6 (by decide) (hts _ (List.mem_cons_of_mem _ U_149)) (fun _ h9 => h9) rfl dX1_copyFrom_81 ?_
  refine lv_iconst (v := 0) hx hb dX1_copyFrom_84 (by decide) ?_
  refine lv_bipush (v := 7) hx hb dX1_copyFrom_85 (by decide) ?_
  refine z_pc (pc' := 87) rfl ?_
  refine va_copyi (sp := 0) (dp := 0) (n := 7) hx hb (hml.trans hl.1.symm) hown (hts _ (List.mem_cons_of_mem _ U_696)) (hts _ (List.mem_cons_of_mem _ U_432)) (hts _ (List.mem_cons_of_mem _ U_433)) (hts _ (List.mem_cons_of_mem _ U_434)) hK hP hD hS 13 6 0 0 rfl rfl rfl rfl rfl (by decide) (by decide) (by decide) (by decide) (by decide) (fun _ _ => rfl) (Nat.le_trans (by decide) hR.1) (Nat.le_trans (Nat.le_of_ble_eq_true rfl) hR.2) dX1_copyFrom_87 (fun H locs hP hD hS => ?_)
  have hP : va_P (dC, dI) vwCl [oX1 h_this h_hall h_coins h_chairOf h_tired h_hosted h_owed h_paid v_sitting v_taken v_served v_hidden v_round v_over v_host v_paidInAll v_lot, aI cI h_coins 7 (va_cpy v_a0_coins v_coins 0 0 7), aI cI h_chairOf 7 (va_cpy v_a0_chairOf v_chairOf 0 0 7), aI cI h_tired 7 (va_cpy v_a0_tired v_tired 0 0 7), aI cI h_hosted 7 (va_cpy v_a0_hosted v_hosted 0 0 7), aI cI h_owed 7 (va_cpy v_a0_owed v_owed 0 0 7), aI cI h_paid 7 (va_cpy v_a0_paid v_paid 0 0 7), oX1 h_a0 h_a0_hall h_a0_coins h_a0_chairOf h_a0_tired h_a0_hosted h_a0_owed h_a0_paid v_a0_sitting v_a0_taken v_a0_served v_a0_hidden v_a0_round v_a0_over v_a0_host v_a0_paidInAll v_a0_lot, aI cI h_a0_coins 7 v_a0_coins, aI cI h_a0_chairOf 7 v_a0_chairOf, aI cI h_a0_tired 7 v_a0_tired, aI cI h_a0_hosted 7 v_a0_hosted, aI cI h_a0_owed 7 v_a0_owed, aI cI h_a0_paid 7 v_a0_paid] H := hP
  have hD : va_D A [oX1 h_this h_hall h_coins h_chairOf h_tired h_hosted h_owed h_paid v_sitting v_taken v_served v_hidden v_round v_over v_host v_paidInAll v_lot, aI cI h_coins 7 (va_cpy v_a0_coins v_coins 0 0 7), aI cI h_chairOf 7 (va_cpy v_a0_chairOf v_chairOf 0 0 7), aI cI h_tired 7 (va_cpy v_a0_tired v_tired 0 0 7), aI cI h_hosted 7 (va_cpy v_a0_hosted v_hosted 0 0 7), aI cI h_owed 7 (va_cpy v_a0_owed v_owed 0 0 7), aI cI h_paid 7 (va_cpy v_a0_paid v_paid 0 0 7), oX1 h_a0 h_a0_hall h_a0_coins h_a0_chairOf h_a0_tired h_a0_hosted h_a0_owed h_a0_paid v_a0_sitting v_a0_taken v_a0_served v_a0_hidden v_a0_round v_a0_over v_a0_host v_a0_paidInAll v_a0_lot, aI cI h_a0_coins 7 v_a0_coins, aI cI h_a0_chairOf 7 v_a0_chairOf, aI cI h_a0_tired 7 v_a0_tired, aI cI h_a0_hosted 7 v_a0_hosted, aI cI h_a0_owed 7 v_a0_owed, aI cI h_a0_paid 7 v_a0_paid] := hD
  refine lv_aload_n hx hb dX1_copyFrom_90 rfl (lv_at hl 0 rfl) ?_
  refine lv_aload_n hx hb dX1_copyFrom_91 rfl (lv_at hl 1 rfl) ?_
  refine va_get (D := (dC, dI)) (ci := 1) (v := .int v_a0_sitting) (C := RX1) (T := TX1) (N := 16) hx hb hts (fun w h => List.mem_cons_of_mem _ (inU_1 w h)) hown hK hP 7 rfl rfl 7 (by decide) (hts _ (List.mem_cons_of_mem _ U_441)) (fun _ h9 => h9) rfl dX1_copyFrom_92 ?_
  refine va_put (D := (dC, dI)) (ci := 1) (v := .int v_a0_sitting) (ty := .int) (C := RX1) (T := TX1) (N := 16) hx hb hts (fun w h => List.mem_cons_of_mem _ (inU_1 w h)) tyX1 tyX1_ok nmX1 hown hK hP hD hS 0 rfl rfl 7 (by decide) (hts _ (List.mem_cons_of_mem _ U_441)) (fun _ h9 => h9) rfl (by decide +kernel) rfl rfl (Nat.le_of_ble_eq_true rfl) dX1_copyFrom_95 (fun H locs hP hD hS => ?_)
  have hP : va_P (dC, dI) vwCl [oX1 h_this h_hall h_coins h_chairOf h_tired h_hosted h_owed h_paid v_a0_sitting v_taken v_served v_hidden v_round v_over v_host v_paidInAll v_lot, aI cI h_coins 7 (va_cpy v_a0_coins v_coins 0 0 7), aI cI h_chairOf 7 (va_cpy v_a0_chairOf v_chairOf 0 0 7), aI cI h_tired 7 (va_cpy v_a0_tired v_tired 0 0 7), aI cI h_hosted 7 (va_cpy v_a0_hosted v_hosted 0 0 7), aI cI h_owed 7 (va_cpy v_a0_owed v_owed 0 0 7), aI cI h_paid 7 (va_cpy v_a0_paid v_paid 0 0 7), oX1 h_a0 h_a0_hall h_a0_coins h_a0_chairOf h_a0_tired h_a0_hosted h_a0_owed h_a0_paid v_a0_sitting v_a0_taken v_a0_served v_a0_hidden v_a0_round v_a0_over v_a0_host v_a0_paidInAll v_a0_lot, aI cI h_a0_coins 7 v_a0_coins, aI cI h_a0_chairOf 7 v_a0_chairOf, aI cI h_a0_tired 7 v_a0_tired, aI cI h_a0_hosted 7 v_a0_hosted, aI cI h_a0_owed 7 v_a0_owed, aI cI h_a0_paid 7 v_a0_paid] H := hP
  have hD : va_D A [oX1 h_this h_hall h_coins h_chairOf h_tired h_hosted h_owed h_paid v_a0_sitting v_taken v_served v_hidden v_round v_over v_host v_paidInAll v_lot, aI cI h_coins 7 (va_cpy v_a0_coins v_coins 0 0 7), aI cI h_chairOf 7 (va_cpy v_a0_chairOf v_chairOf 0 0 7), aI cI h_tired 7 (va_cpy v_a0_tired v_tired 0 0 7), aI cI h_hosted 7 (va_cpy v_a0_hosted v_hosted 0 0 7), aI cI h_owed 7 (va_cpy v_a0_owed v_owed 0 0 7), aI cI h_paid 7 (va_cpy v_a0_paid v_paid 0 0 7), oX1 h_a0 h_a0_hall h_a0_coins h_a0_chairOf h_a0_tired h_a0_hosted h_a0_owed h_a0_paid v_a0_sitting v_a0_taken v_a0_served v_a0_hidden v_a0_round v_a0_over v_a0_host v_a0_paidInAll v_a0_lot, aI cI h_a0_coins 7 v_a0_coins, aI cI h_a0_chairOf 7 v_a0_chairOf, aI cI h_a0_tired 7 v_a0_tired, aI cI h_a0_hosted 7 v_a0_hosted, aI cI h_a0_owed 7 v_a0_owed, aI cI h_a0_paid 7 v_a0_paid] := hD
  refine lv_aload_n hx hb dX1_copyFrom_98 rfl (lv_at hl 0 rfl) ?_
  refine z_pc (pc' := 99) rfl ?_
  refine lv_aload_n hx hb dX1_copyFrom_99 rfl (lv_at hl 1 rfl) ?_
  refine va_get (D := (dC, dI)) (ci := 1) (v := .int v_a0_taken) (C := RX1) (T := TX1) (N := 16) hx hb hts (fun w h => List.mem_cons_of_mem _ (inU_1 w h)) hown hK hP 7 rfl rfl 8 (by decide) (hts _ (List.mem_cons_of_mem _ U_442)) (fun _ h9 => h9) rfl dX1_copyFrom_100 ?_
  refine va_put (D := (dC, dI)) (ci := 1) (v := .int v_a0_taken) (ty := .int) (C := RX1) (T := TX1) (N := 16) hx hb hts (fun w h => List.mem_cons_of_mem _ (inU_1 w h)) tyX1 tyX1_ok nmX1 hown hK hP hD hS 0 rfl rfl 8 (by decide) (hts _ (List.mem_cons_of_mem _ U_442)) (fun _ h9 => h9) rfl (by decide +kernel) rfl rfl (Nat.le_of_ble_eq_true rfl) dX1_copyFrom_103 (fun H locs hP hD hS => ?_)
  have hP : va_P (dC, dI) vwCl [oX1 h_this h_hall h_coins h_chairOf h_tired h_hosted h_owed h_paid v_a0_sitting v_a0_taken v_served v_hidden v_round v_over v_host v_paidInAll v_lot, aI cI h_coins 7 (va_cpy v_a0_coins v_coins 0 0 7), aI cI h_chairOf 7 (va_cpy v_a0_chairOf v_chairOf 0 0 7), aI cI h_tired 7 (va_cpy v_a0_tired v_tired 0 0 7), aI cI h_hosted 7 (va_cpy v_a0_hosted v_hosted 0 0 7), aI cI h_owed 7 (va_cpy v_a0_owed v_owed 0 0 7), aI cI h_paid 7 (va_cpy v_a0_paid v_paid 0 0 7), oX1 h_a0 h_a0_hall h_a0_coins h_a0_chairOf h_a0_tired h_a0_hosted h_a0_owed h_a0_paid v_a0_sitting v_a0_taken v_a0_served v_a0_hidden v_a0_round v_a0_over v_a0_host v_a0_paidInAll v_a0_lot, aI cI h_a0_coins 7 v_a0_coins, aI cI h_a0_chairOf 7 v_a0_chairOf, aI cI h_a0_tired 7 v_a0_tired, aI cI h_a0_hosted 7 v_a0_hosted, aI cI h_a0_owed 7 v_a0_owed, aI cI h_a0_paid 7 v_a0_paid] H := hP
  have hD : va_D A [oX1 h_this h_hall h_coins h_chairOf h_tired h_hosted h_owed h_paid v_a0_sitting v_a0_taken v_served v_hidden v_round v_over v_host v_paidInAll v_lot, aI cI h_coins 7 (va_cpy v_a0_coins v_coins 0 0 7), aI cI h_chairOf 7 (va_cpy v_a0_chairOf v_chairOf 0 0 7), aI cI h_tired 7 (va_cpy v_a0_tired v_tired 0 0 7), aI cI h_hosted 7 (va_cpy v_a0_hosted v_hosted 0 0 7), aI cI h_owed 7 (va_cpy v_a0_owed v_owed 0 0 7), aI cI h_paid 7 (va_cpy v_a0_paid v_paid 0 0 7), oX1 h_a0 h_a0_hall h_a0_coins h_a0_chairOf h_a0_tired h_a0_hosted h_a0_owed h_a0_paid v_a0_sitting v_a0_taken v_a0_served v_a0_hidden v_a0_round v_a0_over v_a0_host v_a0_paidInAll v_a0_lot, aI cI h_a0_coins 7 v_a0_coins, aI cI h_a0_chairOf 7 v_a0_chairOf, aI cI h_a0_tired 7 v_a0_tired, aI cI h_a0_hosted 7 v_a0_hosted, aI cI h_a0_owed 7 v_a0_owed, aI cI h_a0_paid 7 v_a0_paid] := hD
  refine lv_aload_n hx hb dX1_copyFrom_106 rfl (lv_at hl 0 rfl) ?_
  refine lv_aload_n hx hb dX1_copyFrom_107 rfl (lv_at hl 1 rfl) ?_
  refine va_get (D := (dC, dI)) (ci := 1) (v := .int v_a0_served) (C := RX1) (T := TX1) (N := 16) hx hb hts (fun w h => List.mem_cons_of_mem _ (inU_1 w h)) hown hK hP 7 rfl rfl 9 (by decide) (hts _ (List.mem_cons_of_mem _ U_443)) (fun _ h9 => h9) rfl dX1_copyFrom_108 ?_
  refine z_pc (pc' := 111) rfl ?_
  refine va_put (D := (dC, dI)) (ci := 1) (v := .int v_a0_served) (ty := .int) (C := RX1) (T := TX1) (N := 16) hx hb hts (fun w h => List.mem_cons_of_mem _ (inU_1 w h)) tyX1 tyX1_ok nmX1 hown hK hP hD hS 0 rfl rfl 9 (by decide) (hts _ (List.mem_cons_of_mem _ U_443)) (fun _ h9 => h9) rfl (by decide +kernel) rfl rfl (Nat.le_of_ble_eq_true rfl) dX1_copyFrom_111 (fun H locs hP hD hS => ?_)
  have hP : va_P (dC, dI) vwCl [oX1 h_this h_hall h_coins h_chairOf h_tired h_hosted h_owed h_paid v_a0_sitting v_a0_taken v_a0_served v_hidden v_round v_over v_host v_paidInAll v_lot, aI cI h_coins 7 (va_cpy v_a0_coins v_coins 0 0 7), aI cI h_chairOf 7 (va_cpy v_a0_chairOf v_chairOf 0 0 7), aI cI h_tired 7 (va_cpy v_a0_tired v_tired 0 0 7), aI cI h_hosted 7 (va_cpy v_a0_hosted v_hosted 0 0 7), aI cI h_owed 7 (va_cpy v_a0_owed v_owed 0 0 7), aI cI h_paid 7 (va_cpy v_a0_paid v_paid 0 0 7), oX1 h_a0 h_a0_hall h_a0_coins h_a0_chairOf h_a0_tired h_a0_hosted h_a0_owed h_a0_paid v_a0_sitting v_a0_taken v_a0_served v_a0_hidden v_a0_round v_a0_over v_a0_host v_a0_paidInAll v_a0_lot, aI cI h_a0_coins 7 v_a0_coins, aI cI h_a0_chairOf 7 v_a0_chairOf, aI cI h_a0_tired 7 v_a0_tired, aI cI h_a0_hosted 7 v_a0_hosted, aI cI h_a0_owed 7 v_a0_owed, aI cI h_a0_paid 7 v_a0_paid] H := hP
  have hD : va_D A [oX1 h_this h_hall h_coins h_chairOf h_tired h_hosted h_owed h_paid v_a0_sitting v_a0_taken v_a0_served v_hidden v_round v_over v_host v_paidInAll v_lot, aI cI h_coins 7 (va_cpy v_a0_coins v_coins 0 0 7), aI cI h_chairOf 7 (va_cpy v_a0_chairOf v_chairOf 0 0 7), aI cI h_tired 7 (va_cpy v_a0_tired v_tired 0 0 7), aI cI h_hosted 7 (va_cpy v_a0_hosted v_hosted 0 0 7), aI cI h_owed 7 (va_cpy v_a0_owed v_owed 0 0 7), aI cI h_paid 7 (va_cpy v_a0_paid v_paid 0 0 7), oX1 h_a0 h_a0_hall h_a0_coins h_a0_chairOf h_a0_tired h_a0_hosted h_a0_owed h_a0_paid v_a0_sitting v_a0_taken v_a0_served v_a0_hidden v_a0_round v_a0_over v_a0_host v_a0_paidInAll v_a0_lot, aI cI h_a0_coins 7 v_a0_coins, aI cI h_a0_chairOf 7 v_a0_chairOf, aI cI h_a0_tired 7 v_a0_tired, aI cI h_a0_hosted 7 v_a0_hosted, aI cI h_a0_owed 7 v_a0_owed, aI cI h_a0_paid 7 v_a0_paid] := hD
  refine lv_aload_n hx hb dX1_copyFrom_114 rfl (lv_at hl 0 rfl) ?_
  refine lv_aload_n hx hb dX1_copyFrom_115 rfl (lv_at hl 1 rfl) ?_
  refine va_get (D := (dC, dI)) (ci := 1) (v := .int v_a0_hidden) (C := RX1) (T := TX1) (N := 16) hx hb hts (fun w h => List.mem_cons_of_mem _ (inU_1 w h)) hown hK hP 7 rfl rfl 10 (by decide) (hts _ (List.mem_cons_of_mem _ U_444)) (fun _ h9 => h9) rfl dX1_copyFrom_116 ?_
  refine va_put (D := (dC, dI)) (ci := 1) (v := .int v_a0_hidden) (ty := .int) (C := RX1) (T := TX1) (N := 16) hx hb hts (fun w h => List.mem_cons_of_mem _ (inU_1 w h)) tyX1 tyX1_ok nmX1 hown hK hP hD hS 0 rfl rfl 10 (by decide) (hts _ (List.mem_cons_of_mem _ U_444)) (fun _ h9 => h9) rfl (by decide +kernel) rfl rfl (Nat.le_of_ble_eq_true rfl) dX1_copyFrom_119 (fun H locs hP hD hS => ?_)
  have hP : va_P (dC, dI) vwCl [oX1 h_this h_hall h_coins h_chairOf h_tired h_hosted h_owed h_paid v_a0_sitting v_a0_taken v_a0_served v_a0_hidden v_round v_over v_host v_paidInAll v_lot, aI cI h_coins 7 (va_cpy v_a0_coins v_coins 0 0 7), aI cI h_chairOf 7 (va_cpy v_a0_chairOf v_chairOf 0 0 7), aI cI h_tired 7 (va_cpy v_a0_tired v_tired 0 0 7), aI cI h_hosted 7 (va_cpy v_a0_hosted v_hosted 0 0 7), aI cI h_owed 7 (va_cpy v_a0_owed v_owed 0 0 7), aI cI h_paid 7 (va_cpy v_a0_paid v_paid 0 0 7), oX1 h_a0 h_a0_hall h_a0_coins h_a0_chairOf h_a0_tired h_a0_hosted h_a0_owed h_a0_paid v_a0_sitting v_a0_taken v_a0_served v_a0_hidden v_a0_round v_a0_over v_a0_host v_a0_paidInAll v_a0_lot, aI cI h_a0_coins 7 v_a0_coins, aI cI h_a0_chairOf 7 v_a0_chairOf, aI cI h_a0_tired 7 v_a0_tired, aI cI h_a0_hosted 7 v_a0_hosted, aI cI h_a0_owed 7 v_a0_owed, aI cI h_a0_paid 7 v_a0_paid] H := hP
  have hD : va_D A [oX1 h_this h_hall h_coins h_chairOf h_tired h_hosted h_owed h_paid v_a0_sitting v_a0_taken v_a0_served v_a0_hidden v_round v_over v_host v_paidInAll v_lot, aI cI h_coins 7 (va_cpy v_a0_coins v_coins 0 0 7), aI cI h_chairOf 7 (va_cpy v_a0_chairOf v_chairOf 0 0 7), aI cI h_tired 7 (va_cpy v_a0_tired v_tired 0 0 7), aI cI h_hosted 7 (va_cpy v_a0_hosted v_hosted 0 0 7), aI cI h_owed 7 (va_cpy v_a0_owed v_owed 0 0 7), aI cI h_paid 7 (va_cpy v_a0_paid v_paid 0 0 7), oX1 h_a0 h_a0_hall h_a0_coins h_a0_chairOf h_a0_tired h_a0_hosted h_a0_owed h_a0_paid v_a0_sitting v_a0_taken v_a0_served v_a0_hidden v_a0_round v_a0_over v_a0_host v_a0_paidInAll v_a0_lot, aI cI h_a0_coins 7 v_a0_coins, aI cI h_a0_chairOf 7 v_a0_chairOf, aI cI h_a0_tired 7 v_a0_tired, aI cI h_a0_hosted 7 v_a0_hosted, aI cI h_a0_owed 7 v_a0_owed, aI cI h_a0_paid 7 v_a0_paid] := hD
  refine lv_aload_n hx hb dX1_copyFrom_122 rfl (lv_at hl 0 rfl) ?_
  refine z_pc (pc' := 123) rfl ?_
  refine lv_aload_n hx hb dX1_copyFrom_123 rfl (lv_at hl 1 rfl) ?_
  refine va_get (D := (dC, dI)) (ci := 1) (v := .int v_a0_round) (C := RX1) (T := TX1) (N := 16) hx hb hts (fun w h => List.mem_cons_of_mem _ (inU_1 w h)) hown hK hP 7 rfl rfl 11 (by decide) (hts _ (List.mem_cons_of_mem _ U_445)) (fun _ h9 => h9) rfl dX1_copyFrom_124 ?_
  refine va_put (D := (dC, dI)) (ci := 1) (v := .int v_a0_round) (ty := .int) (C := RX1) (T := TX1) (N := 16) hx hb hts (fun w h => List.mem_cons_of_mem _ (inU_1 w h)) tyX1 tyX1_ok nmX1 hown hK hP hD hS 0 rfl rfl 11 (by decide) (hts _ (List.mem_cons_of_mem _ U_445)) (fun _ h9 => h9) rfl (by decide +kernel) rfl rfl (Nat.le_of_ble_eq_true rfl) dX1_copyFrom_127 (fun H locs hP hD hS => ?_)
  have hP : va_P (dC, dI) vwCl [oX1 h_this h_hall h_coins h_chairOf h_tired h_hosted h_owed h_paid v_a0_sitting v_a0_taken v_a0_served v_a0_hidden v_a0_round v_over v_host v_paidInAll v_lot, aI cI h_coins 7 (va_cpy v_a0_coins v_coins 0 0 7), aI cI h_chairOf 7 (va_cpy v_a0_chairOf v_chairOf 0 0 7), aI cI h_tired 7 (va_cpy v_a0_tired v_tired 0 0 7), aI cI h_hosted 7 (va_cpy v_a0_hosted v_hosted 0 0 7), aI cI h_owed 7 (va_cpy v_a0_owed v_owed 0 0 7), aI cI h_paid 7 (va_cpy v_a0_paid v_paid 0 0 7), oX1 h_a0 h_a0_hall h_a0_coins h_a0_chairOf h_a0_tired h_a0_hosted h_a0_owed h_a0_paid v_a0_sitting v_a0_taken v_a0_served v_a0_hidden v_a0_round v_a0_over v_a0_host v_a0_paidInAll v_a0_lot, aI cI h_a0_coins 7 v_a0_coins, aI cI h_a0_chairOf 7 v_a0_chairOf, aI cI h_a0_tired 7 v_a0_tired, aI cI h_a0_hosted 7 v_a0_hosted, aI cI h_a0_owed 7 v_a0_owed, aI cI h_a0_paid 7 v_a0_paid] H := hP
  have hD : va_D A [oX1 h_this h_hall h_coins h_chairOf h_tired h_hosted h_owed h_paid v_a0_sitting v_a0_taken v_a0_served v_a0_hidden v_a0_round v_over v_host v_paidInAll v_lot, aI cI h_coins 7 (va_cpy v_a0_coins v_coins 0 0 7), aI cI h_chairOf 7 (va_cpy v_a0_chairOf v_chairOf 0 0 7), aI cI h_tired 7 (va_cpy v_a0_tired v_tired 0 0 7), aI cI h_hosted 7 (va_cpy v_a0_hosted v_hosted 0 0 7), aI cI h_owed 7 (va_cpy v_a0_owed v_owed 0 0 7), aI cI h_paid 7 (va_cpy v_a0_paid v_paid 0 0 7), oX1 h_a0 h_a0_hall h_a0_coins h_a0_chairOf h_a0_tired h_a0_hosted h_a0_owed h_a0_paid v_a0_sitting v_a0_taken v_a0_served v_a0_hidden v_a0_round v_a0_over v_a0_host v_a0_paidInAll v_a0_lot, aI cI h_a0_coins 7 v_a0_coins, aI cI h_a0_chairOf 7 v_a0_chairOf, aI cI h_a0_tired 7 v_a0_tired, aI cI h_a0_hosted 7 v_a0_hosted, aI cI h_a0_owed 7 v_a0_owed, aI cI h_a0_paid 7 v_a0_paid] := hD
  refine lv_aload_n hx hb dX1_copyFrom_130 rfl (lv_at hl 0 rfl) ?_
  refine lv_aload_n hx hb dX1_copyFrom_131 rfl (lv_at hl 1 rfl) ?_
  refine va_get (D := (dC, dI)) (ci := 1) (v := .int v_a0_over) (C := RX1) (T := TX1) (N := 16) hx hb hts (fun w h => List.mem_cons_of_mem _ (inU_1 w h)) hown hK hP 7 rfl rfl 12 (by decide) (hts _ (List.mem_cons_of_mem _ U_446)) (fun _ h9 => h9) rfl dX1_copyFrom_132 ?_
  refine z_pc (pc' := 135) rfl ?_
  refine va_put (D := (dC, dI)) (ci := 1) (v := .int v_a0_over) (ty := .int) (C := RX1) (T := TX1) (N := 16) hx hb hts (fun w h => List.mem_cons_of_mem _ (inU_1 w h)) tyX1 tyX1_ok nmX1 hown hK hP hD hS 0 rfl rfl 12 (by decide) (hts _ (List.mem_cons_of_mem _ U_446)) (fun _ h9 => h9) rfl (by decide +kernel) rfl rfl (Nat.le_of_ble_eq_true rfl) dX1_copyFrom_135 (fun H locs hP hD hS => ?_)
  have hP : va_P (dC, dI) vwCl [oX1 h_this h_hall h_coins h_chairOf h_tired h_hosted h_owed h_paid v_a0_sitting v_a0_taken v_a0_served v_a0_hidden v_a0_round v_a0_over v_host v_paidInAll v_lot, aI cI h_coins 7 (va_cpy v_a0_coins v_coins 0 0 7), aI cI h_chairOf 7 (va_cpy v_a0_chairOf v_chairOf 0 0 7), aI cI h_tired 7 (va_cpy v_a0_tired v_tired 0 0 7), aI cI h_hosted 7 (va_cpy v_a0_hosted v_hosted 0 0 7), aI cI h_owed 7 (va_cpy v_a0_owed v_owed 0 0 7), aI cI h_paid 7 (va_cpy v_a0_paid v_paid 0 0 7), oX1 h_a0 h_a0_hall h_a0_coins h_a0_chairOf h_a0_tired h_a0_hosted h_a0_owed h_a0_paid v_a0_sitting v_a0_taken v_a0_served v_a0_hidden v_a0_round v_a0_over v_a0_host v_a0_paidInAll v_a0_lot, aI cI h_a0_coins 7 v_a0_coins, aI cI h_a0_chairOf 7 v_a0_chairOf, aI cI h_a0_tired 7 v_a0_tired, aI cI h_a0_hosted 7 v_a0_hosted, aI cI h_a0_owed 7 v_a0_owed, aI cI h_a0_paid 7 v_a0_paid] H := hP
  have hD : va_D A [oX1 h_this h_hall h_coins h_chairOf h_tired h_hosted h_owed h_paid v_a0_sitting v_a0_taken v_a0_served v_a0_hidden v_a0_round v_a0_over v_host v_paidInAll v_lot, aI cI h_coins 7 (va_cpy v_a0_coins v_coins 0 0 7), aI cI h_chairOf 7 (va_cpy v_a0_chairOf v_chairOf 0 0 7), aI cI h_tired 7 (va_cpy v_a0_tired v_tired 0 0 7), aI cI h_hosted 7 (va_cpy v_a0_hosted v_hosted 0 0 7), aI cI h_owed 7 (va_cpy v_a0_owed v_owed 0 0 7), aI cI h_paid 7 (va_cpy v_a0_paid v_paid 0 0 7), oX1 h_a0 h_a0_hall h_a0_coins h_a0_chairOf h_a0_tired h_a0_hosted h_a0_owed h_a0_paid v_a0_sitting v_a0_taken v_a0_served v_a0_hidden v_a0_round v_a0_over v_a0_host v_a0_paidInAll v_a0_lot, aI cI h_a0_coins 7 v_a0_coins, aI cI h_a0_chairOf 7 v_a0_chairOf, aI cI h_a0_tired 7 v_a0_tired, aI cI h_a0_hosted 7 v_a0_hosted, aI cI h_a0_owed 7 v_a0_owed, aI cI h_a0_paid 7 v_a0_paid] := hD
  refine lv_aload_n hx hb dX1_copyFrom_138 rfl (lv_at hl 0 rfl) ?_
  refine lv_aload_n hx hb dX1_copyFrom_139 rfl (lv_at hl 1 rfl) ?_
  refine va_get (D := (dC, dI)) (ci := 1) (v := .int v_a0_host) (C := RX1) (T := TX1) (N := 16) hx hb hts (fun w h => List.mem_cons_of_mem _ (inU_1 w h)) hown hK hP 7 rfl rfl 13 (by decide) (hts _ (List.mem_cons_of_mem _ U_150)) (fun _ h9 => h9) rfl dX1_copyFrom_140 ?_
  refine va_put (D := (dC, dI)) (ci := 1) (v := .int v_a0_host) (ty := .int) (C := RX1) (T := TX1) (N := 16) hx hb hts (fun w h => List.mem_cons_of_mem _ (inU_1 w h)) tyX1 tyX1_ok nmX1 hown hK hP hD hS 0 rfl rfl 13 (by decide) (hts _ (List.mem_cons_of_mem _ U_150)) (fun _ h9 => h9) rfl (by decide +kernel) rfl rfl (Nat.le_of_ble_eq_true rfl) dX1_copyFrom_143 (fun H locs hP hD hS => ?_)
  have hP : va_P (dC, dI) vwCl [oX1 h_this h_hall h_coins h_chairOf h_tired h_hosted h_owed h_paid v_a0_sitting v_a0_taken v_a0_served v_a0_hidden v_a0_round v_a0_over v_a0_host v_paidInAll v_lot, aI cI h_coins 7 (va_cpy v_a0_coins v_coins 0 0 7), aI cI h_chairOf 7 (va_cpy v_a0_chairOf v_chairOf 0 0 7), aI cI h_tired 7 (va_cpy v_a0_tired v_tired 0 0 7), aI cI h_hosted 7 (va_cpy v_a0_hosted v_hosted 0 0 7), aI cI h_owed 7 (va_cpy v_a0_owed v_owed 0 0 7), aI cI h_paid 7 (va_cpy v_a0_paid v_paid 0 0 7), oX1 h_a0 h_a0_hall h_a0_coins h_a0_chairOf h_a0_tired h_a0_hosted h_a0_owed h_a0_paid v_a0_sitting v_a0_taken v_a0_served v_a0_hidden v_a0_round v_a0_over v_a0_host v_a0_paidInAll v_a0_lot, aI cI h_a0_coins 7 v_a0_coins, aI cI h_a0_chairOf 7 v_a0_chairOf, aI cI h_a0_tired 7 v_a0_tired, aI cI h_a0_hosted 7 v_a0_hosted, aI cI h_a0_owed 7 v_a0_owed, aI cI h_a0_paid 7 v_a0_paid] H := hP
  have hD : va_D A [oX1 h_this h_hall h_coins h_chairOf h_tired h_hosted h_owed h_paid v_a0_sitting v_a0_taken v_a0_served v_a0_hidden v_a0_round v_a0_over v_a0_host v_paidInAll v_lot, aI cI h_coins 7 (va_cpy v_a0_coins v_coins 0 0 7), aI cI h_chairOf 7 (va_cpy v_a0_chairOf v_chairOf 0 0 7), aI cI h_tired 7 (va_cpy v_a0_tired v_tired 0 0 7), aI cI h_hosted 7 (va_cpy v_a0_hosted v_hosted 0 0 7), aI cI h_owed 7 (va_cpy v_a0_owed v_owed 0 0 7), aI cI h_paid 7 (va_cpy v_a0_paid v_paid 0 0 7), oX1 h_a0 h_a0_hall h_a0_coins h_a0_chairOf h_a0_tired h_a0_hosted h_a0_owed h_a0_paid v_a0_sitting v_a0_taken v_a0_served v_a0_hidden v_a0_round v_a0_over v_a0_host v_a0_paidInAll v_a0_lot, aI cI h_a0_coins 7 v_a0_coins, aI cI h_a0_chairOf 7 v_a0_chairOf, aI cI h_a0_tired 7 v_a0_tired, aI cI h_a0_hosted 7 v_a0_hosted, aI cI h_a0_owed 7 v_a0_owed, aI cI h_a0_paid 7 v_a0_paid] := hD
  refine lv_aload_n hx hb dX1_copyFrom_146 rfl (lv_at hl 0 rfl) ?_
  refine z_pc (pc' := 147) rfl ?_
  refine lv_aload_n hx hb dX1_copyFrom_147 rfl (lv_at hl 1 rfl) ?_
  refine va_get (D := (dC, dI)) (ci := 1) (v := .int v_a0_paidInAll) (C := RX1) (T := TX1) (N := 16) hx hb hts (fun w h => List.mem_cons_of_mem _ (inU_1 w h)) hown hK hP 7 rfl rfl 14 (by decide) (hts _ (List.mem_cons_of_mem _ U_447)) (fun _ h9 => h9) rfl dX1_copyFrom_148 ?_
  refine va_put (D := (dC, dI)) (ci := 1) (v := .int v_a0_paidInAll) (ty := .int) (C := RX1) (T := TX1) (N := 16) hx hb hts (fun w h => List.mem_cons_of_mem _ (inU_1 w h)) tyX1 tyX1_ok nmX1 hown hK hP hD hS 0 rfl rfl 14 (by decide) (hts _ (List.mem_cons_of_mem _ U_447)) (fun _ h9 => h9) rfl (by decide +kernel) rfl rfl (Nat.le_of_ble_eq_true rfl) dX1_copyFrom_151 (fun H locs hP hD hS => ?_)
  have hP : va_P (dC, dI) vwCl [oX1 h_this h_hall h_coins h_chairOf h_tired h_hosted h_owed h_paid v_a0_sitting v_a0_taken v_a0_served v_a0_hidden v_a0_round v_a0_over v_a0_host v_a0_paidInAll v_lot, aI cI h_coins 7 (va_cpy v_a0_coins v_coins 0 0 7), aI cI h_chairOf 7 (va_cpy v_a0_chairOf v_chairOf 0 0 7), aI cI h_tired 7 (va_cpy v_a0_tired v_tired 0 0 7), aI cI h_hosted 7 (va_cpy v_a0_hosted v_hosted 0 0 7), aI cI h_owed 7 (va_cpy v_a0_owed v_owed 0 0 7), aI cI h_paid 7 (va_cpy v_a0_paid v_paid 0 0 7), oX1 h_a0 h_a0_hall h_a0_coins h_a0_chairOf h_a0_tired h_a0_hosted h_a0_owed h_a0_paid v_a0_sitting v_a0_taken v_a0_served v_a0_hidden v_a0_round v_a0_over v_a0_host v_a0_paidInAll v_a0_lot, aI cI h_a0_coins 7 v_a0_coins, aI cI h_a0_chairOf 7 v_a0_chairOf, aI cI h_a0_tired 7 v_a0_tired, aI cI h_a0_hosted 7 v_a0_hosted, aI cI h_a0_owed 7 v_a0_owed, aI cI h_a0_paid 7 v_a0_paid] H := hP
  have hD : va_D A [oX1 h_this h_hall h_coins h_chairOf h_tired h_hosted h_owed h_paid v_a0_sitting v_a0_taken v_a0_served v_a0_hidden v_a0_round v_a0_over v_a0_host v_a0_paidInAll v_lot, aI cI h_coins 7 (va_cpy v_a0_coins v_coins 0 0 7), aI cI h_chairOf 7 (va_cpy v_a0_chairOf v_chairOf 0 0 7), aI cI h_tired 7 (va_cpy v_a0_tired v_tired 0 0 7), aI cI h_hosted 7 (va_cpy v_a0_hosted v_hosted 0 0 7), aI cI h_owed 7 (va_cpy v_a0_owed v_owed 0 0 7), aI cI h_paid 7 (va_cpy v_a0_paid v_paid 0 0 7), oX1 h_a0 h_a0_hall h_a0_coins h_a0_chairOf h_a0_tired h_a0_hosted h_a0_owed h_a0_paid v_a0_sitting v_a0_taken v_a0_served v_a0_hidden v_a0_round v_a0_over v_a0_host v_a0_paidInAll v_a0_lot, aI cI h_a0_coins 7 v_a0_coins, aI cI h_a0_chairOf 7 v_a0_chairOf, aI cI h_a0_tired 7 v_a0_tired, aI cI h_a0_hosted 7 v_a0_hosted, aI cI h_a0_owed 7 v_a0_owed, aI cI h_a0_paid 7 v_a0_paid] := hD
  have q0 := Option.some.inj hr
  obtain ⟨e0, q1⟩ := Prod.mk.inj q0
  obtain ⟨e1, q2⟩ := Prod.mk.inj q1
  obtain ⟨e2, q3⟩ := Prod.mk.inj q2
  obtain ⟨e3, q4⟩ := Prod.mk.inj q3
  obtain ⟨e4, q5⟩ := Prod.mk.inj q4
  obtain ⟨e5, q6⟩ := Prod.mk.inj q5
  obtain ⟨e6, q7⟩ := Prod.mk.inj q6
  obtain ⟨e7, q8⟩ := Prod.mk.inj q7
  obtain ⟨e8, q9⟩ := Prod.mk.inj q8
  obtain ⟨e9, q10⟩ := Prod.mk.inj q9
  obtain ⟨e10, q11⟩ := Prod.mk.inj q10
  obtain ⟨e11, q12⟩ := Prod.mk.inj q11
  obtain ⟨e12, q13⟩ := Prod.mk.inj q12
  subst e0; subst e1; subst e2; subst e3; subst e4; subst e5; subst e6; subst e7; subst e8; subst e9; subst e10; subst e11; subst e12; subst q13
  exact W.vret hx hb hrt (fun t ht hW => ⟨⟨(), rfl, trivial, by rw [ht]; exact hP, va_K.moved hW.alike hK, hD⟩, hS.F ht⟩) hS.2.2 dX1_copyFrom_154 hlocks
set_option maxHeartbeats 4000000 in
set_option maxRecDepth 100000 in
theorem mX1_copyFrom (l : Launch) (dC : Nat → ClassId) (dI : Nat → Nat → Nat) (cI cJ cB cZ cF cG : ClassId) (h_this : Nat) (h_coins : Nat) (h_chairOf : Nat) (h_tired : Nat) (h_hosted : Nat) (h_owed : Nat) (h_paid : Nat) (h_a0 : Nat) (h_a0_coins : Nat) (h_a0_chairOf : Nat) (h_a0_tired : Nat) (h_a0_hosted : Nat) (h_a0_owed : Nat) (h_a0_paid : Nat) (h_hall : Nat) (h_a0_hall : Nat) (sz : Nat) (v_sitting : Int32) (v_taken : Int32) (v_served : Int32) (v_hidden : Int32) (v_round : Int32) (v_over : Int32) (v_host : Int32) (v_paidInAll : Int32) (v_lot : Int32) (v_coins : Nat → Int32) (v_chairOf : Nat → Int32) (v_tired : Nat → Int32) (v_hosted : Nat → Int32) (v_owed : Nat → Int32) (v_paid : Nat → Int32) (v_a0_sitting : Int32) (v_a0_taken : Int32) (v_a0_served : Int32) (v_a0_hidden : Int32) (v_a0_round : Int32) (v_a0_over : Int32) (v_a0_host : Int32) (v_a0_paidInAll : Int32) (v_a0_lot : Int32) (v_a0_coins : Nat → Int32) (v_a0_chairOf : Nat → Int32) (v_a0_tired : Nat → Int32) (v_a0_hosted : Nat → Int32) (v_a0_owed : Nat → Int32) (v_a0_paid : Nat → Int32) (o_sitting : Int32) (o_taken : Int32) (o_served : Int32) (o_hidden : Int32) (o_round : Int32) (o_over : Int32) (o_host : Int32) (o_paidInAll : Int32) (o_coins : Nat → Int32) (o_chairOf : Nat → Int32) (o_tired : Nat → Int32) (o_hosted : Nat → Int32) (o_owed : Nat → Int32) (o_paid : Nat → Int32) (hf : fX1_copyFrom v_a0_sitting v_a0_taken v_a0_served v_a0_hidden v_a0_round v_a0_over v_a0_host v_a0_paidInAll v_a0_coins v_a0_chairOf v_a0_tired v_a0_hosted v_a0_owed v_a0_paid v_sitting v_taken v_served v_hidden v_round v_over v_host v_paidInAll v_coins v_chairOf v_tired v_hosted v_owed v_paid = some (o_sitting, o_taken, o_served, o_hidden, o_round, o_over, o_host, o_paidInAll, o_coins, o_chairOf, o_tired, o_hosted, o_owed, o_paid)) : Met l yX1_copyFrom uX1_copyFrom ({ frames := 1, cells := 0, slots := 0, locals := 60 }) (va_Pc [.ref h_this, .ref h_a0] (fun U => U.heap.size = sz ∧ va_P (dC, dI) vwCl [oX1 h_this h_hall h_coins h_chairOf h_tired h_hosted h_owed h_paid v_sitting v_taken v_served v_hidden v_round v_over v_host v_paidInAll v_lot, aI cI h_coins 7 v_coins, aI cI h_chairOf 7 v_chairOf, aI cI h_tired 7 v_tired, aI cI h_hosted 7 v_hosted, aI cI h_owed 7 v_owed, aI cI h_paid 7 v_paid, oX1 h_a0 h_a0_hall h_a0_coins h_a0_chairOf h_a0_tired h_a0_hosted h_a0_owed h_a0_paid v_a0_sitting v_a0_taken v_a0_served v_a0_hidden v_a0_round v_a0_over v_a0_host v_a0_paidInAll v_a0_lot, aI cI h_a0_coins 7 v_a0_coins, aI cI h_a0_chairOf 7 v_a0_chairOf, aI cI h_a0_tired 7 v_a0_tired, aI cI h_a0_hosted 7 v_a0_hosted, aI cI h_a0_owed 7 v_a0_owed, aI cI h_a0_paid 7 v_a0_paid] U.heap ∧ va_K (dC, dI) vwCl (TYS cI cJ cB cZ cF cG) U ∧ va_D (fun _ => True) [oX1 h_this h_hall h_coins h_chairOf h_tired h_hosted h_owed h_paid v_sitting v_taken v_served v_hidden v_round v_over v_host v_paidInAll v_lot, aI cI h_coins 7 v_coins, aI cI h_chairOf 7 v_chairOf, aI cI h_tired 7 v_tired, aI cI h_hosted 7 v_hosted, aI cI h_owed 7 v_owed, aI cI h_paid 7 v_paid, oX1 h_a0 h_a0_hall h_a0_coins h_a0_chairOf h_a0_tired h_a0_hosted h_a0_owed h_a0_paid v_a0_sitting v_a0_taken v_a0_served v_a0_hidden v_a0_round v_a0_over v_a0_host v_a0_paidInAll v_a0_lot, aI cI h_a0_coins 7 v_a0_coins, aI cI h_a0_chairOf 7 v_a0_chairOf, aI cI h_a0_tired 7 v_a0_tired, aI cI h_a0_hosted 7 v_a0_hosted, aI cI h_a0_owed 7 v_a0_owed, aI cI h_a0_paid 7 v_a0_paid])) (PQv dC dI cI cJ cB cZ cF cG (va_A [oX1 h_this h_hall h_coins h_chairOf h_tired h_hosted h_owed h_paid v_sitting v_taken v_served v_hidden v_round v_over v_host v_paidInAll v_lot, aI cI h_coins 7 v_coins, aI cI h_chairOf 7 v_chairOf, aI cI h_tired 7 v_tired, aI cI h_hosted 7 v_hosted, aI cI h_owed 7 v_owed, aI cI h_paid 7 v_paid, oX1 h_a0 h_a0_hall h_a0_coins h_a0_chairOf h_a0_tired h_a0_hosted h_a0_owed h_a0_paid v_a0_sitting v_a0_taken v_a0_served v_a0_hidden v_a0_round v_a0_over v_a0_host v_a0_paidInAll v_a0_lot, aI cI h_a0_coins 7 v_a0_coins, aI cI h_a0_chairOf 7 v_a0_chairOf, aI cI h_a0_tired 7 v_a0_tired, aI cI h_a0_hosted 7 v_a0_hosted, aI cI h_a0_owed 7 v_a0_owed, aI cI h_a0_paid 7 v_a0_paid] sz) [oX1 h_this h_hall h_coins h_chairOf h_tired h_hosted h_owed h_paid o_sitting o_taken o_served o_hidden o_round o_over o_host o_paidInAll v_lot, aI cI h_coins 7 o_coins, aI cI h_chairOf 7 o_chairOf, aI cI h_tired 7 o_tired, aI cI h_hosted 7 o_hosted, aI cI h_owed 7 o_owed, aI cI h_paid 7 o_paid, oX1 h_a0 h_a0_hall h_a0_coins h_a0_chairOf h_a0_tired h_a0_hosted h_a0_owed h_a0_paid v_a0_sitting v_a0_taken v_a0_served v_a0_hidden v_a0_round v_a0_over v_a0_host v_a0_paidInAll v_a0_lot, aI cI h_a0_coins 7 v_a0_coins, aI cI h_a0_chairOf 7 v_a0_chairOf, aI cI h_a0_tired 7 v_a0_tired, aI cI h_a0_hosted 7 v_a0_hosted, aI cI h_a0_owed 7 v_a0_owed, aI cI h_a0_paid 7 v_a0_paid]) 0 0 (va_A [oX1 h_this h_hall h_coins h_chairOf h_tired h_hosted h_owed h_paid v_sitting v_taken v_served v_hidden v_round v_over v_host v_paidInAll v_lot, aI cI h_coins 7 v_coins, aI cI h_chairOf 7 v_chairOf, aI cI h_tired 7 v_tired, aI cI h_hosted 7 v_hosted, aI cI h_owed 7 v_owed, aI cI h_paid 7 v_paid, oX1 h_a0 h_a0_hall h_a0_coins h_a0_chairOf h_a0_tired h_a0_hosted h_a0_owed h_a0_paid v_a0_sitting v_a0_taken v_a0_served v_a0_hidden v_a0_round v_a0_over v_a0_host v_a0_paidInAll v_a0_lot, aI cI h_a0_coins 7 v_a0_coins, aI cI h_a0_chairOf 7 v_a0_chairOf, aI cI h_a0_tired 7 v_a0_tired, aI cI h_a0_hosted 7 v_a0_hosted, aI cI h_a0_owed 7 v_a0_owed, aI cI h_a0_paid 7 v_a0_paid] sz) := by
  refine Met.ofW (cc := cX1_copyFrom) (maxL := 2) (ret := none) (by decide) rfl ?_
  intro p e s m args below meth c s₁ B hml hv
  obtain ⟨rfl, hsz, hP, hK, hD0⟩ := hv
  have hx := B.exec
  have hb := B.bytes
  have hr := B.returns
  have hts := atoms_spec (ws := uX1_copyFrom) B.pre
  have hown : s.vm.findClass RX1 = some m.cls := findClass_of_methodNamed B.named
  have hlocks := B.notSynchronized
  subst hsz
  have hD := hD0.self (sz := s.heap.size)
  generalize hAe : va_A [oX1 h_this h_hall h_coins h_chairOf h_tired h_hosted h_owed h_paid v_sitting v_taken v_served v_hidden v_round v_over v_host v_paidInAll v_lot, aI cI h_coins 7 v_coins, aI cI h_chairOf 7 v_chairOf, aI cI h_tired 7 v_tired, aI cI h_hosted 7 v_hosted, aI cI h_owed 7 v_owed, aI cI h_paid 7 v_paid, oX1 h_a0 h_a0_hall h_a0_coins h_a0_chairOf h_a0_tired h_a0_hosted h_a0_owed h_a0_paid v_a0_sitting v_a0_taken v_a0_served v_a0_hidden v_a0_round v_a0_over v_a0_host v_a0_paidInAll v_a0_lot, aI cI h_a0_coins 7 v_a0_coins, aI cI h_a0_chairOf 7 v_a0_chairOf, aI cI h_a0_tired 7 v_a0_tired, aI cI h_a0_hosted 7 v_a0_hosted, aI cI h_a0_owed 7 v_a0_owed, aI cI h_a0_paid 7 v_a0_paid] s.heap.size = A at hD ⊢
  have hA : ∀ q : Nat, s.heap.size ≤ q → A q := fun q h => by rw [← hAe]; exact Or.inr h
  have hS : va_S A s.heap s.heap [] := va_S.rf
  have hl := lv_entry ([.ref h_this, .ref h_a0]) (n := 2) (Nat.le_of_ble_eq_true rfl)
  rw [lg_entry_eq]
  generalize (lg_sl ([.ref h_this, .ref h_a0]) ++ List.replicate (2 - (lg_sl ([.ref h_this, .ref h_a0])).length) Slot.unset).toArray = ls at hl ⊢
  have hl : lv_has ls 2 [(0, .ref h_this), (1, .ref h_a0)] := hl
  exact tX1_copyFrom hA ⟨hx, hb, hr, hml, hown, hts, hlocks⟩ ⟨Nat.le_refl _, Nat.le_refl _⟩ h_this h_coins h_chairOf h_tired h_hosted h_owed h_paid h_a0 h_a0_coins h_a0_chairOf h_a0_tired h_a0_hosted h_a0_owed h_a0_paid h_hall h_a0_hall v_lot v_a0_sitting v_a0_taken v_a0_served v_a0_hidden v_a0_round v_a0_over v_a0_host v_a0_paidInAll v_a0_lot v_a0_coins v_a0_chairOf v_a0_tired v_a0_hosted v_a0_owed v_a0_paid o_sitting o_taken o_served o_hidden o_round o_over o_host o_paidInAll o_coins o_chairOf o_tired o_hosted o_owed o_paid v_sitting v_taken v_served v_hidden v_round v_over v_host v_paidInAll v_coins v_chairOf v_tired v_hosted v_owed v_paid hf _ _ ⟨hK, hP, hD, hS⟩ ls hl
-- LastSeat$Feast.begin()V
def uX1_begin : List Cond := .code yX1_begin cX1_begin 2 none :: wsU
set_option maxHeartbeats 4000000 in
set_option maxRecDepth 100000 in
theorem tX1_begin_2 {p : Program} {l : Launch} {e : Env} {R : Room} {s : State} {m : MethodId} {args : Array Value} {below : List Frame} {meth : Method} {c : Code} {dC : Nat → ClassId} {dI : Nat → Nat → Nat} {cI cJ cB cZ cF cG : ClassId} {A : Nat → Prop} (hA : ∀ q : Nat, s.heap.size ≤ q → A q) (C0 : Cx p s m meth c args cX1_begin 2 none RX1 uX1_begin) (hR : 0 ≤ R.frames ∧ 0 ≤ R.locals) (h_this : Nat) (h_hall : Nat) (h_hall_coins : Nat) (h_hall_place : Nat) (h_coins : Nat) (h_chairOf : Nat) (h_tired : Nat) (h_hosted : Nat) (h_owed : Nat) (h_paid : Nat) (h_hall_guestName : Nat) (h_hall_pride : Nat) (h_hall_speed : Nat) (h_hall_payer : Nat) (h_hall_dishName : Nat) (h_hall_cost : Nat) (v_lot : Int32) (v_hall_chairs : Int32) (v_hall_guests : Int32) (v_hall_dishes : Int32) (v_hall_coins : Nat → Int32) (v_hall_place : Nat → Int32) (o_sitting : Int32) (o_taken : Int32) (o_served : Int32) (o_hidden : Int32) (o_round : Int32) (o_over : Int32) (o_host : Int32) (o_paidInAll : Int32) (o_coins : Nat → Int32) (o_chairOf : Nat → Int32) (o_tired : Nat → Int32) (o_hosted : Nat → Int32) (o_owed : Nat → Int32) (o_paid : Nat → Int32) :
    ∀ n : Nat, ∀ (v_sitting : Int32) (v_taken : Int32) (v_served : Int32) (v_hidden : Int32) (v_round : Int32) (v_over : Int32) (v_host : Int32) (v_paidInAll : Int32) (v_coins : Nat → Int32) (v_chairOf : Nat → Int32) (v_tired : Nat → Int32) (v_hosted : Nat → Int32) (v_owed : Nat → Int32) (v_paid : Nat → Int32) (x1 : Int32), lX1_begin_2 v_hall_coins v_hall_place n v_sitting v_taken v_served v_hidden v_round v_over v_host v_paidInAll v_coins v_chairOf v_tired v_hosted v_owed v_paid x1 = some (o_sitting, o_taken, o_served, o_hidden, o_round, o_over, o_host, o_paidInAll, o_coins, o_chairOf, o_tired, o_hosted, o_owed, o_paid) → ∀ (H : Heap) (locs : List Loc), Wd dC dI cI cJ cB cZ cF cG A s H locs [oX1 h_this h_hall h_coins h_chairOf h_tired h_hosted h_owed h_paid v_sitting v_taken v_served v_hidden v_round v_over v_host v_paidInAll v_lot, oX2 h_hall h_hall_guestName h_hall_coins h_hall_pride h_hall_speed h_hall_place h_hall_payer h_hall_dishName h_hall_cost v_hall_chairs v_hall_guests v_hall_dishes, aI cI h_hall_coins 7 v_hall_coins, aI cI h_hall_place 7 v_hall_place, aI cI h_coins 7 v_coins, aI cI h_chairOf 7 v_chairOf, aI cI h_tired 7 v_tired, aI cI h_hosted 7 v_hosted, aI cI h_owed 7 v_owed, aI cI h_paid 7 v_paid] → ∀ (ls : Array Slot), lv_has ls 2 [(0, .ref h_this), (1, .int x1)] → W p l e R s m args below meth c H locs 0 0 (MQ below (PQv dC dI cI cJ cB cZ cF cG A [oX1 h_this h_hall h_coins h_chairOf h_tired h_hosted h_owed h_paid o_sitting o_taken o_served o_hidden o_round o_over o_host o_paidInAll v_lot, oX2 h_hall h_hall_guestName h_hall_coins h_hall_pride h_hall_speed h_hall_place h_hall_payer h_hall_dishName h_hall_cost v_hall_chairs v_hall_guests v_hall_dishes, aI cI h_hall_coins 7 v_hall_coins, aI cI h_hall_place 7 v_hall_place, aI cI h_coins 7 o_coins, aI cI h_chairOf 7 o_chairOf, aI cI h_tired 7 o_tired, aI cI h_hosted 7 o_hosted, aI cI h_owed 7 o_owed, aI cI h_paid 7 o_paid]) args s 0 0 A) (F0 m 2 ls []) := by
  obtain ⟨hx, hb, hrt, hml, hown, hts, hlocks⟩ := id C0
  intro n
  induction n with
  | zero =>
    intro v_sitting v_taken v_served v_hidden v_round v_over v_host v_paidInAll v_coins v_chairOf v_tired v_hosted v_owed v_paid x1 hr
    exact nomatch (show (none : Option (Int32 × Int32 × Int32 × Int32 × Int32 × Int32 × Int32 × Int32 × (Nat → Int32) × (Nat → Int32) × (Nat → Int32) × (Nat → Int32) × (Nat → Int32) × (Nat → Int32))) = some _ from hr)
  | succ n ih =>
    intro v_sitting v_taken v_served v_hidden v_round v_over v_host v_paidInAll v_coins v_chairOf v_tired v_hosted v_owed v_paid x1 hr H locs hW ls hl
    obtain ⟨hK, hP, hD, hS⟩ := hW
    have hr : (if 7 ≤ x1 then some (0, 0, 0, 0, 0, 0, (-1), 0, v_coins, v_chairOf, v_tired, v_hosted, v_owed, v_paid) else gI x1 7 (nmv (v_hall_coins (Int32.toNatClampNeg x1)) (fun w1 => gI x1 7 (nmv (upd v_coins (Int32.toNatClampNeg x1) w1) (fun w2 => gI x1 7 (nmv (v_hall_place (Int32.toNatClampNeg x1)) (fun w3 => gI x1 7 (nmv (upd v_chairOf (Int32.toNatClampNeg x1) w3) (fun w4 => gI x1 7 (nmv (upd v_tired (Int32.toNatClampNeg x1) 0) (fun w5 => gI x1 7 (nmv (upd v_hosted (Int32.toNatClampNeg x1) 0) (fun w6 => gI x1 7 (nmv (upd v_owed (Int32.toNatClampNeg x1) 0) (fun w7 => gI x1 7 (nmv (upd v_paid (Int32.toNatClampNeg x1) 0) (fun w8 => lX1_begin_2 v_hall_coins v_hall_place n v_sitting v_taken v_served v_hidden v_round v_over v_host v_paidInAll w2 w4 w5 w6 w7 w8 (x1 + 1))))))))))))))))) : Option (Int32 × Int32 × Int32 × Int32 × Int32 × Int32 × Int32 × Int32 × (Nat → Int32) × (Nat → Int32) × (Nat → Int32) × (Nat → Int32) × (Nat → Int32) × (Nat → Int32))) = some (o_sitting, o_taken, o_served, o_hidden, o_round, o_over, o_host, o_paidInAll, o_coins, o_chairOf, o_tired, o_hosted, o_owed, o_paid) := hr
    refine lv_iload_n hx hb dX1_begin_2 rfl (lv_at hl 1 rfl) ?_
    refine lv_bipush (v := 7) hx hb dX1_begin_3 (by decide) ?_
    refine lv_icmp_ge (tgt := 72) hx hb dX1_begin_5 (by decide) (fun hc => ?_) (fun hc => ?_)
    · have hr := iteP hc hr
      refine lv_aload_n hx hb dX1_begin_72 rfl (lv_at hl 0 rfl) ?_
      refine lv_iconst (v := 0) hx hb dX1_begin_73 (by decide) ?_
      refine va_put (D := (dC, dI)) (ci := 1) (v := .int 0) (ty := .int) (C := RX1) (T := TX1) (N := 16) hx hb hts (fun w h => List.mem_cons_of_mem _ (inU_1 w h)) tyX1 tyX1_ok nmX1 hown hK hP hD hS 0 rfl rfl 7 (by decide) (hts _ (List.mem_cons_of_mem _ U_441)) (fun _ h9 => h9) rfl (by decide +kernel) rfl rfl (Nat.le_of_ble_eq_true rfl) dX1_begin_74 (fun H locs hP hD hS => ?_)
      have hP : va_P (dC, dI) vwCl [oX1 h_this h_hall h_coins h_chairOf h_tired h_hosted h_owed h_paid 0 v_taken v_served v_hidden v_round v_over v_host v_paidInAll v_lot, oX2 h_hall h_hall_guestName h_hall_coins h_hall_pride h_hall_speed h_hall_place h_hall_payer h_hall_dishName h_hall_cost v_hall_chairs v_hall_guests v_hall_dishes, aI cI h_hall_coins 7 v_hall_coins, aI cI h_hall_place 7 v_hall_place, aI cI h_coins 7 v_coins, aI cI h_chairOf 7 v_chairOf, aI cI h_tired 7 v_tired, aI cI h_hosted 7 v_hosted, aI cI h_owed 7 v_owed, aI cI h_paid 7 v_paid] H := hP
      have hD : va_D A [oX1 h_this h_hall h_coins h_chairOf h_tired h_hosted h_owed h_paid 0 v_taken v_served v_hidden v_round v_over v_host v_paidInAll v_lot, oX2 h_hall h_hall_guestName h_hall_coins h_hall_pride h_hall_speed h_hall_place h_hall_payer h_hall_dishName h_hall_cost v_hall_chairs v_hall_guests v_hall_dishes, aI cI h_hall_coins 7 v_hall_coins, aI cI h_hall_place 7 v_hall_place, aI cI h_coins 7 v_coins, aI cI h_chairOf 7 v_chairOf, aI cI h_tired 7 v_tired, aI cI h_hosted 7 v_hosted, aI cI h_owed 7 v_owed, aI cI h_paid 7 v_paid] := hD
      refine lv_aload_n hx hb dX1_begin_77 rfl (lv_at hl 0 rfl) ?_
      refine lv_iconst (v := 0) hx hb dX1_begin_78 (by decide) ?_
      refine z_pc (pc' := 79) rfl ?_
      refine va_put (D := (dC, dI)) (ci := 1) (v := .int 0) (ty := .int) (C := RX1) (T := TX1) (N := 16) hx hb hts (fun w h => List.mem_cons_of_mem _ (inU_1 w h)) tyX1 tyX1_ok nmX1 hown hK hP hD hS 0 rfl rfl 8 (by decide) (hts _ (List.mem_cons_of_mem _ U_442)) (fun _ h9 => h9) rfl (by decide +kernel) rfl rfl (Nat.le_of_ble_eq_true rfl) dX1_begin_79 (fun H locs hP hD hS => ?_)
      have hP : va_P (dC, dI) vwCl [oX1 h_this h_hall h_coins h_chairOf h_tired h_hosted h_owed h_paid 0 0 v_served v_hidden v_round v_over v_host v_paidInAll v_lot, oX2 h_hall h_hall_guestName h_hall_coins h_hall_pride h_hall_speed h_hall_place h_hall_payer h_hall_dishName h_hall_cost v_hall_chairs v_hall_guests v_hall_dishes, aI cI h_hall_coins 7 v_hall_coins, aI cI h_hall_place 7 v_hall_place, aI cI h_coins 7 v_coins, aI cI h_chairOf 7 v_chairOf, aI cI h_tired 7 v_tired, aI cI h_hosted 7 v_hosted, aI cI h_owed 7 v_owed, aI cI h_paid 7 v_paid] H := hP
      have hD : va_D A [oX1 h_this h_hall h_coins h_chairOf h_tired h_hosted h_owed h_paid 0 0 v_served v_hidden v_round v_over v_host v_paidInAll v_lot, oX2 h_hall h_hall_guestName h_hall_coins h_hall_pride h_hall_speed h_hall_place h_hall_payer h_hall_dishName h_hall_cost v_hall_chairs v_hall_guests v_hall_dishes, aI cI h_hall_coins 7 v_hall_coins, aI cI h_hall_place 7 v_hall_place, aI cI h_coins 7 v_coins, aI cI h_chairOf 7 v_chairOf, aI cI h_tired 7 v_tired, aI cI h_hosted 7 v_hosted, aI cI h_owed 7 v_owed, aI cI h_paid 7 v_paid] := hD
      refine lv_aload_n hx hb dX1_begin_82 rfl (lv_at hl 0 rfl) ?_
      refine lv_iconst (v := 0) hx hb dX1_begin_83 (by decide) ?_
      refine va_put (D := (dC, dI)) (ci := 1) (v := .int 0) (ty := .int) (C := RX1) (T := TX1) (N := 16) hx hb hts (fun w h => List.mem_cons_of_mem _ (inU_1 w h)) tyX1 tyX1_ok nmX1 hown hK hP hD hS 0 rfl rfl 9 (by decide) (hts _ (List.mem_cons_of_mem _ U_443)) (fun _ h9 => h9) rfl (by decide +kernel) rfl rfl (Nat.le_of_ble_eq_true rfl) dX1_begin_84 (fun H locs hP hD hS => ?_)
      have hP : va_P (dC, dI) vwCl [oX1 h_this h_hall h_coins h_chairOf h_tired h_hosted h_owed h_paid 0 0 0 v_hidden v_round v_over v_host v_paidInAll v_lot, oX2 h_hall h_hall_guestName h_hall_coins h_hall_pride h_hall_speed h_hall_place h_hall_payer h_hall_dishName h_hall_cost v_hall_chairs v_hall_guests v_hall_dishes, aI cI h_hall_coins 7 v_hall_coins, aI cI h_hall_place 7 v_hall_place, aI cI h_coins 7 v_coins, aI cI h_chairOf 7 v_chairOf, aI cI h_tired 7 v_tired, aI cI h_hosted 7 v_hosted, aI cI h_owed 7 v_owed, aI cI h_paid 7 v_paid] H := hP
      have hD : va_D A [oX1 h_this h_hall h_coins h_chairOf h_tired h_hosted h_owed h_paid 0 0 0 v_hidden v_round v_over v_host v_paidInAll v_lot, oX2 h_hall h_hall_guestName h_hall_coins h_hall_pride h_hall_speed h_hall_place h_hall_payer h_hall_dishName h_hall_cost v_hall_chairs v_hall_guests v_hall_dishes, aI cI h_hall_coins 7 v_hall_coins, aI cI h_hall_place 7 v_hall_place, aI cI h_coins 7 v_coins, aI cI h_chairOf 7 v_chairOf, aI cI h_tired 7 v_tired, aI cI h_hosted 7 v_hosted, aI cI h_owed 7 v_owed, aI cI h_paid 7 v_paid] := hD
      refine lv_aload_n hx hb dX1_begin_87 rfl (lv_at hl 0 rfl) ?_
      refine lv_iconst (v := 0) hx hb dX1_begin_88 (by decide) ?_
      refine z_pc (pc' := 89) rfl ?_
      refine va_put (D := (dC, dI)) (ci := 1) (v := .int 0) (ty := .int) (C := RX1) (T := TX1) (N := 16) hx hb hts (fun w h => List.mem_cons_of_mem _ (inU_1 w h)) tyX1 tyX1_ok nmX1 hown hK hP hD hS 0 rfl rfl 10 (by decide) (hts _ (List.mem_cons_of_mem _ U_444)) (fun _ h9 => h9) rfl (by decide +kernel) rfl rfl (Nat.le_of_ble_eq_true rfl) dX1_begin_89 (fun H locs hP hD hS => ?_)
      have hP : va_P (dC, dI) vwCl [oX1 h_this h_hall h_coins h_chairOf h_tired h_hosted h_owed h_paid 0 0 0 0 v_round v_over v_host v_paidInAll v_lot, oX2 h_hall h_hall_guestName h_hall_coins h_hall_pride h_hall_speed h_hall_place h_hall_payer h_hall_dishName h_hall_cost v_hall_chairs v_hall_guests v_hall_dishes, aI cI h_hall_coins 7 v_hall_coins, aI cI h_hall_place 7 v_hall_place, aI cI h_coins 7 v_coins, aI cI h_chairOf 7 v_chairOf, aI cI h_tired 7 v_tired, aI cI h_hosted 7 v_hosted, aI cI h_owed 7 v_owed, aI cI h_paid 7 v_paid] H := hP
      have hD : va_D A [oX1 h_this h_hall h_coins h_chairOf h_tired h_hosted h_owed h_paid 0 0 0 0 v_round v_over v_host v_paidInAll v_lot, oX2 h_hall h_hall_guestName h_hall_coins h_hall_pride h_hall_speed h_hall_place h_hall_payer h_hall_dishName h_hall_cost v_hall_chairs v_hall_guests v_hall_dishes, aI cI h_hall_coins 7 v_hall_coins, aI cI h_hall_place 7 v_hall_place, aI cI h_coins 7 v_coins, aI cI h_chairOf 7 v_chairOf, aI cI h_tired 7 v_tired, aI cI h_hosted 7 v_hosted, aI cI h_owed 7 v_owed, aI cI h_paid 7 v_paid] := hD
      refine lv_aload_n hx hb dX1_begin_92 rfl (lv_at hl 0 rfl) ?_
      refine lv_iconst (v := 0) hx hb dX1_begin_93 (by decide) ?_
      refine va_put (D := (dC, dI)) (ci := 1) (v := .int 0) (ty := .int) (C := RX1) (T := TX1) (N := 16) hx hb hts (fun w h => List.mem_cons_of_mem _ (inU_1 w h)) tyX1 tyX1_ok nmX1 hown hK hP hD hS 0 rfl rfl 11 (by decide) (hts _ (List.mem_cons_of_mem _ U_445)) (fun _ h9 => h9) rfl (by decide +kernel) rfl rfl (Nat.le_of_ble_eq_true rfl) dX1_begin_94 (fun H locs hP hD hS => ?_)
      have hP : va_P (dC, dI) vwCl [oX1 h_this h_hall h_coins h_chairOf h_tired h_hosted h_owed h_paid 0 0 0 0 0 v_over v_host v_paidInAll v_lot, oX2 h_hall h_hall_guestName h_hall_coins h_hall_pride h_hall_speed h_hall_place h_hall_payer h_hall_dishName h_hall_cost v_hall_chairs v_hall_guests v_hall_dishes, aI cI h_hall_coins 7 v_hall_coins, aI cI h_hall_place 7 v_hall_place, aI cI h_coins 7 v_coins, aI cI h_chairOf 7 v_chairOf, aI cI h_tired 7 v_tired, aI cI h_hosted 7 v_hosted, aI cI h_owed 7 v_owed, aI cI h_paid 7 v_paid] H := hP
      have hD : va_D A [oX1 h_this h_hall h_coins h_chairOf h_tired h_hosted h_owed h_paid 0 0 0 0 0 v_over v_host v_paidInAll v_lot, oX2 h_hall h_hall_guestName h_hall_coins h_hall_pride h_hall_speed h_hall_place h_hall_payer h_hall_dishName h_hall_cost v_hall_chairs v_hall_guests v_hall_dishes, aI cI h_hall_coins 7 v_hall_coins, aI cI h_hall_place 7 v_hall_place, aI cI h_coins 7 v_coins, aI cI h_chairOf 7 v_chairOf, aI cI h_tired 7 v_tired, aI cI h_hosted 7 v_hosted, aI cI h_owed 7 v_owed, aI cI h_paid 7 v_paid] := hD
      refine lv_aload_n hx hb dX1_begin_97 rfl (lv_at hl 0 rfl) ?_
      refine lv_iconst (v := 0) hx hb dX1_begin_98 (by decide) ?_
      refine z_pc (pc' := 99) rfl ?_
      refine va_put (D := (dC, dI)) (ci := 1) (v := .int 0) (ty := .int) (C := RX1) (T := TX1) (N := 16) hx hb hts (fun w h => List.mem_cons_of_mem _ (inU_1 w h)) tyX1 tyX1_ok nmX1 hown hK hP hD hS 0 rfl rfl 12 (by decide) (hts _ (List.mem_cons_of_mem _ U_446)) (fun _ h9 => h9) rfl (by decide +kernel) rfl rfl (Nat.le_of_ble_eq_true rfl) dX1_begin_99 (fun H locs hP hD hS => ?_)
      have hP : va_P (dC, dI) vwCl [oX1 h_this h_hall h_coins h_chairOf h_tired h_hosted h_owed h_paid 0 0 0 0 0 0 v_host v_paidInAll v_lot, oX2 h_hall h_hall_guestName h_hall_coins h_hall_pride h_hall_speed h_hall_place h_hall_payer h_hall_dishName h_hall_cost v_hall_chairs v_hall_guests v_hall_dishes, aI cI h_hall_coins 7 v_hall_coins, aI cI h_hall_place 7 v_hall_place, aI cI h_coins 7 v_coins, aI cI h_chairOf 7 v_chairOf, aI cI h_tired 7 v_tired, aI cI h_hosted 7 v_hosted, aI cI h_owed 7 v_owed, aI cI h_paid 7 v_paid] H := hP
      have hD : va_D A [oX1 h_this h_hall h_coins h_chairOf h_tired h_hosted h_owed h_paid 0 0 0 0 0 0 v_host v_paidInAll v_lot, oX2 h_hall h_hall_guestName h_hall_coins h_hall_pride h_hall_speed h_hall_place h_hall_payer h_hall_dishName h_hall_cost v_hall_chairs v_hall_guests v_hall_dishes, aI cI h_hall_coins 7 v_hall_coins, aI cI h_hall_place 7 v_hall_place, aI cI h_coins 7 v_coins, aI cI h_chairOf 7 v_chairOf, aI cI h_tired 7 v_tired, aI cI h_hosted 7 v_hosted, aI cI h_owed 7 v_owed, aI cI h_paid 7 v_paid] := hD
      refine lv_aload_n hx hb dX1_begin_102 rfl (lv_at hl 0 rfl) ?_
      refine lv_iconst (v := (-1)) hx hb dX1_begin_103 (by decide) ?_
      refine va_put (D := (dC, dI)) (ci := 1) (v := .int (-1)) (ty := .int) (C := RX1) (T := TX1) (N := 16) hx hb hts (fun w h => List.mem_cons_of_mem _ (inU_1 w h)) tyX1 tyX1_ok nmX1 hown hK hP hD hS 0 rfl rfl 13 (by decide) (hts _ (List.mem_cons_of_mem _ U_150)) (fun _ h9 => h9) rfl (by decide +kernel) rfl rfl (Nat.le_of_ble_eq_true rfl) dX1_begin_104 (fun H locs hP hD hS => ?_)
      have hP : va_P (dC, dI) vwCl [oX1 h_this h_hall h_coins h_chairOf h_tired h_hosted h_owed h_paid 0 0 0 0 0 0 (-1) v_paidInAll v_lot, oX2 h_hall h_hall_guestName h_hall_coins h_hall_pride h_hall_speed h_hall_place h_hall_payer h_hall_dishName h_hall_cost v_hall_chairs v_hall_guests v_hall_dishes, aI cI h_hall_coins 7 v_hall_coins, aI cI h_hall_place 7 v_hall_place, aI cI h_coins 7 v_coins, aI cI h_chairOf 7 v_chairOf, aI cI h_tired 7 v_tired, aI cI h_hosted 7 v_hosted, aI cI h_owed 7 v_owed, aI cI h_paid 7 v_paid] H := hP
      have hD : va_D A [oX1 h_this h_hall h_coins h_chairOf h_tired h_hosted h_owed h_paid 0 0 0 0 0 0 (-1) v_paidInAll v_lot, oX2 h_hall h_hall_guestName h_hall_coins h_hall_pride h_hall_speed h_hall_place h_hall_payer h_hall_dishName h_hall_cost v_hall_chairs v_hall_guests v_hall_dishes, aI cI h_hall_coins 7 v_hall_coins, aI cI h_hall_place 7 v_hall_place, aI cI h_coins 7 v_coins, aI cI h_chairOf 7 v_chairOf, aI cI h_tired 7 v_tired, aI cI h_hosted 7 v_hosted, aI cI h_owed 7 v_owed, aI cI h_paid 7 v_paid] := hD
      refine lv_aload_n hx hb dX1_begin_107 rfl (lv_at hl 0 rfl) ?_
      refine lv_iconst (v := 0) hx hb dX1_begin_108 (by decide) ?_
      refine z_pc (pc' := 109) rfl ?_
      refine va_put (D := (dC, dI)) (ci := 1) (v := .int 0) (ty := .int) (C := RX1) (T := TX1) (N := 16) hx hb hts (fun w h => List.mem_cons_of_mem _ (inU_1 w h)) tyX1 tyX1_ok nmX1 hown hK hP hD hS 0 rfl rfl 14 (by decide) (hts _ (List.mem_cons_of_mem _ U_447)) (fun _ h9 => h9) rfl (by decide +kernel) rfl rfl (Nat.le_of_ble_eq_true rfl) dX1_begin_109 (fun H locs hP hD hS => ?_)
      have hP : va_P (dC, dI) vwCl [oX1 h_this h_hall h_coins h_chairOf h_tired h_hosted h_owed h_paid 0 0 0 0 0 0 (-1) 0 v_lot, oX2 h_hall h_hall_guestName h_hall_coins h_hall_pride h_hall_speed h_hall_place h_hall_payer h_hall_dishName h_hall_cost v_hall_chairs v_hall_guests v_hall_dishes, aI cI h_hall_coins 7 v_hall_coins, aI cI h_hall_place 7 v_hall_place, aI cI h_coins 7 v_coins, aI cI h_chairOf 7 v_chairOf, aI cI h_tired 7 v_tired, aI cI h_hosted 7 v_hosted, aI cI h_owed 7 v_owed, aI cI h_paid 7 v_paid] H := hP
      have hD : va_D A [oX1 h_this h_hall h_coins h_chairOf h_tired h_hosted h_owed h_paid 0 0 0 0 0 0 (-1) 0 v_lot, oX2 h_hall h_hall_guestName h_hall_coins h_hall_pride h_hall_speed h_hall_place h_hall_payer h_hall_dishName h_hall_cost v_hall_chairs v_hall_guests v_hall_dishes, aI cI h_hall_coins 7 v_hall_coins, aI cI h_hall_place 7 v_hall_place, aI cI h_coins 7 v_coins, aI cI h_chairOf 7 v_chairOf, aI cI h_tired 7 v_tired, aI cI h_hosted 7 v_hosted, aI cI h_owed 7 v_owed, aI cI h_paid 7 v_paid] := hD
      have q0 := Option.some.inj hr
      obtain ⟨e0, q1⟩ := Prod.mk.inj q0
      obtain ⟨e1, q2⟩ := Prod.mk.inj q1
      obtain ⟨e2, q3⟩ := Prod.mk.inj q2
      obtain ⟨e3, q4⟩ := Prod.mk.inj q3
      obtain ⟨e4, q5⟩ := Prod.mk.inj q4
      obtain ⟨e5, q6⟩ := Prod.mk.inj q5
      obtain ⟨e6, q7⟩ := Prod.mk.inj q6
      obtain ⟨e7, q8⟩ := Prod.mk.inj q7
      obtain ⟨e8, q9⟩ := Prod.mk.inj q8
      obtain ⟨e9, q10⟩ := Prod.mk.inj q9
      obtain ⟨e10, q11⟩ := Prod.mk.inj q10
      obtain ⟨e11, q12⟩ := Prod.mk.inj q11
      obtain ⟨e12, q13⟩ := Prod.mk.inj q12
      subst e0; subst e1; subst e2; subst e3; subst e4; subst e5; subst e6; subst e7; subst e8; subst e9; subst e10; subst e11; subst e12; subst q13
      exact W.vret hx hb hrt (fun t ht hW => ⟨⟨(), rfl, trivial, by rw [ht]; exact hP, va_K.moved hW.alike hK, hD⟩, hS.F ht⟩) hS.2.2 dX1_begin_112 hlocks
    · have hr := iteN hc hr
      refine lv_aload_n hx hb dX1_begin_8 rfl (lv_at hl 0 rfl) ?_
      refine va_get (D := (dC, dI)) (ci := 1) (v := .ref h_coins) (C := RX1) (T := TX1) (N := 16) hx hb hts (fun w h => List.mem_cons_of_mem _ (inU_1 w h)) hown hK hP 0 rfl rfl 1 (by decide) (hts _ (List.mem_cons_of_mem _ U_144)) (fun _ h9 => h9) rfl dX1_begin_9 ?_
      refine lv_iload_n hx hb dX1_begin_12 rfl (lv_at hl 1 rfl) ?_
      refine lv_aload_n hx hb dX1_begin_13 rfl (lv_at hl 0 rfl) ?_
      refine va_get (D := (dC, dI)) (ci := 1) (v := .ref h_hall) (C := RX1) (T := TX1) (N := 16) hx hb hts (fun w h => List.mem_cons_of_mem _ (inU_1 w h)) hown hK hP 0 rfl rfl 0 (by decide) (hts _ (List.mem_cons_of_mem _ U_143)) (fun _ h9 => h9) rfl dX1_begin_14 ?_
      refine z_pc (pc' := 17) rfl ?_
      refine va_get (D := (dC, dI)) (ci := 2) (v := .ref h_hall_coins) (C := RX2) (T := TX2) (N := 11) hx hb hts (fun w h => List.mem_cons_of_mem _ (inU_2 w h)) hown hK hP 1 rfl rfl 1 (by decide) (hts _ (List.mem_cons_of_mem _ U_439)) (fun _ h9 => h9) rfl dX1_begin_17 ?_
      refine lv_iload_n hx hb dX1_begin_20 rfl (lv_at hl 1 rfl) ?_
      obtain ⟨hg, hr⟩ := gI_s hr
      refine z_iald hx hb hK hP 2 0 rfl rfl hg rfl dX1_begin_21 ?_
      obtain ⟨w1, hw1, hr⟩ := nm_s hr
      refine z_topi hw1 ?_
      obtain ⟨hg, hr⟩ := gI_s hr
      obtain ⟨w2, hw2, hr⟩ := nm_s hr
      refine z_iast hx hb hK hP hD hS 4 0 rfl rfl hg rfl hw2 dX1_begin_22 (fun H locs hP hD hS => ?_)
      have hP : va_P (dC, dI) vwCl [oX1 h_this h_hall h_coins h_chairOf h_tired h_hosted h_owed h_paid v_sitting v_taken v_served v_hidden v_round v_over v_host v_paidInAll v_lot, oX2 h_hall h_hall_guestName h_hall_coins h_hall_pride h_hall_speed h_hall_place h_hall_payer h_hall_dishName h_hall_cost v_hall_chairs v_hall_guests v_hall_dishes, aI cI h_hall_coins 7 v_hall_coins, aI cI h_hall_place 7 v_hall_place, aI cI h_coins 7 w2, aI cI h_chairOf 7 v_chairOf, aI cI h_tired 7 v_tired, aI cI h_hosted 7 v_hosted, aI cI h_owed 7 v_owed, aI cI h_paid 7 v_paid] H := hP
      have hD : va_D A [oX1 h_this h_hall h_coins h_chairOf h_tired h_hosted h_owed h_paid v_sitting v_taken v_served v_hidden v_round v_over v_host v_paidInAll v_lot, oX2 h_hall h_hall_guestName h_hall_coins h_hall_pride h_hall_speed h_hall_place h_hall_payer h_hall_dishName h_hall_cost v_hall_chairs v_hall_guests v_hall_dishes, aI cI h_hall_coins 7 v_hall_coins, aI cI h_hall_place 7 v_hall_place, aI cI h_coins 7 w2, aI cI h_chairOf 7 v_chairOf, aI cI h_tired 7 v_tired, aI cI h_hosted 7 v_hosted, aI cI h_owed 7 v_owed, aI cI h_paid 7 v_paid] := hD
      refine lv_aload_n hx hb dX1_begin_23 rfl (lv_at hl 0 rfl) ?_
      refine va_get (D := (dC, dI)) (ci := 1) (v := .ref h_chairOf) (C := RX1) (T := TX1) (N := 16) hx hb hts (fun w h => List.mem_cons_of_mem _ (inU_1 w h)) hown hK hP 0 rfl rfl 2 (by decide) (hts _ (List.mem_cons_of_mem _ U_145)) (fun _ h9 => h9) rfl dX1_begin_24 ?_
      refine z_pc (pc' := 27) rfl ?_
      refine lv_iload_n hx hb dX1_begin_27 rfl (lv_at hl 1 rfl) ?_
      refine lv_aload_n hx hb dX1_begin_28 rfl (lv_at hl 0 rfl) ?_
      refine va_get (D := (dC, dI)) (ci := 1) (v := .ref h_hall) (C := RX1) (T := TX1) (N := 16) hx hb hts (fun w h => List.mem_cons_of_mem _ (inU_1 w h)) hown hK hP 0 rfl rfl 0 (by decide) (hts _ (List.mem_cons_of_mem _ U_143)) (fun _ h9 => h9) rfl dX1_begin_29 ?_
      refine va_get (D := (dC, dI)) (ci := 2) (v := .ref h_hall_place) (C := RX2) (T := TX2) (N := 11) hx hb hts (fun w h => List.mem_cons_of_mem _ (inU_2 w h)) hown hK hP 1 rfl rfl 4 (by decide) (hts _ (List.mem_cons_of_mem _ U_440)) (fun _ h9 => h9) rfl dX1_begin_32 ?_
      refine lv_iload_n hx hb dX1_begin_35 rfl (lv_at hl 1 rfl) ?_
      obtain ⟨hg, hr⟩ := gI_s hr
      refine z_iald hx hb hK hP 3 0 rfl rfl hg rfl dX1_begin_36 ?_
      refine z_pc (pc' := 37) rfl ?_
      obtain ⟨w3, hw3, hr⟩ := nm_s hr
      refine z_topi hw3 ?_
      obtain ⟨hg, hr⟩ := gI_s hr
      obtain ⟨w4, hw4, hr⟩ := nm_s hr
      refine z_iast hx hb hK hP hD hS 5 0 rfl rfl hg rfl hw4 dX1_begin_37 (fun H locs hP hD hS => ?_)
      have hP : va_P (dC, dI) vwCl [oX1 h_this h_hall h_coins h_chairOf h_tired h_hosted h_owed h_paid v_sitting v_taken v_served v_hidden v_round v_over v_host v_paidInAll v_lot, oX2 h_hall h_hall_guestName h_hall_coins h_hall_pride h_hall_speed h_hall_place h_hall_payer h_hall_dishName h_hall_cost v_hall_chairs v_hall_guests v_hall_dishes, aI cI h_hall_coins 7 v_hall_coins, aI cI h_hall_place 7 v_hall_place, aI cI h_coins 7 w2, aI cI h_chairOf 7 w4, aI cI h_tired 7 v_tired, aI cI h_hosted 7 v_hosted, aI cI h_owed 7 v_owed, aI cI h_paid 7 v_paid] H := hP
      have hD : va_D A [oX1 h_this h_hall h_coins h_chairOf h_tired h_hosted h_owed h_paid v_sitting v_taken v_served v_hidden v_round v_over v_host v_paidInAll v_lot, oX2 h_hall h_hall_guestName h_hall_coins h_hall_pride h_hall_speed h_hall_place h_hall_payer h_hall_dishName h_hall_cost v_hall_chairs v_hall_guests v_hall_dishes, aI cI h_hall_coins 7 v_hall_coins, aI cI h_hall_place 7 v_hall_place, aI cI h_coins 7 w2, aI cI h_chairOf 7 w4, aI cI h_tired 7 v_tired, aI cI h_hosted 7 v_hosted, aI cI h_owed 7 v_owed, aI cI h_paid 7 v_paid] := hD
      refine lv_aload_n hx hb dX1_begin_38 rfl (lv_at hl 0 rfl) ?_
      refine va_get (D := (dC, dI)) (ci := 1) (v := .ref h_tired) (C := RX1) (T := TX1) (N := 16) hx hb hts (fun w h => List.mem_cons_of_mem _ (inU_1 w h)) hown hK hP 0 rfl rfl 3 (by decide) (hts _ (List.mem_cons_of_mem _ U_146)) (fun _ h9 => h9) rfl dX1_begin_39 ?_
      refine lv_iload_n hx hb dX1_begin_42 rfl (lv_at hl 1 rfl) ?_
      refine lv_iconst (v := 0) hx hb dX1_begin_43 (by decide) ?_
      obtain ⟨hg, hr⟩ := gI_s hr
      obtain ⟨w5, hw5, hr⟩ := nm_s hr
      refine z_iast hx hb hK hP hD hS 6 0 rfl rfl hg rfl hw5 dX1_begin_44 (fun H locs hP hD hS => ?_)
      have hP : va_P (dC, dI) vwCl [oX1 h_this h_hall h_coins h_chairOf h_tired h_hosted h_owed h_paid v_sitting v_taken v_served v_hidden v_round v_over v_host v_paidInAll v_lot, oX2 h_hall h_hall_guestName h_hall_coins h_hall_pride h_hall_speed h_hall_place h_hall_payer h_hall_dishName h_hall_cost v_hall_chairs v_hall_guests v_hall_dishes, aI cI h_hall_coins 7 v_hall_coins, aI cI h_hall_place 7 v_hall_place, aI cI h_coins 7 w2, aI cI h_chairOf 7 w4, aI cI h_tired 7 w5, aI cI h_hosted 7 v_hosted, aI cI h_owed 7 v_owed, aI cI h_paid 7 v_paid] H := hP
      have hD : va_D A [oX1 h_this h_hall h_coins h_chairOf h_tired h_hosted h_owed h_paid v_sitting v_taken v_served v_hidden v_round v_over v_host v_paidInAll v_lot, oX2 h_hall h_hall_guestName h_hall_coins h_hall_pride h_hall_speed h_hall_place h_hall_payer h_hall_dishName h_hall_cost v_hall_chairs v_hall_guests v_hall_dishes, aI cI h_hall_coins 7 v_hall_coins, aI cI h_hall_place 7 v_hall_place, aI cI h_coins 7 w2, aI cI h_chairOf 7 w4, aI cI h_tired 7 w5, aI cI h_hosted 7 v_hosted, aI cI h_owed 7 v_owed, aI cI h_paid 7 v_paid] := hD
      refine z_pc (pc' := 45) rfl ?_
      refine lv_aload_n hx hb dX1_begin_45 rfl (lv_at hl 0 rfl) ?_
      refine va_get (D := (dC, dI)) (ci := 1) (v := .ref h_hosted) (C := RX1) (T := TX1) (N := 16) hx hb hts (fun w h => List.mem_cons_of_mem _ (inU_1 w h)) hown hK hP 0 rfl rfl 4 (by decide) (hts _ (List.mem_cons_of_mem _ U_147)) (fun _ h9 => h9) rfl dX1_begin_46 ?_
      refine lv_iload_n hx hb dX1_begin_49 rfl (lv_at hl 1 rfl) ?_
      refine lv_iconst (v := 0) hx hb dX1_begin_50 (by decide) ?_
      obtain ⟨hg, hr⟩ := gI_s hr
      obtain ⟨w6, hw6, hr⟩ := nm_s hr
      refine z_iast hx hb hK hP hD hS 7 0 rfl rfl hg rfl hw6 dX1_begin_51 (fun H locs hP hD hS => ?_)
      have hP : va_P (dC, dI) vwCl [oX1 h_this h_hall h_coins h_chairOf h_tired h_hosted h_owed h_paid v_sitting v_taken v_served v_hidden v_round v_over v_host v_paidInAll v_lot, oX2 h_hall h_hall_guestName h_hall_coins h_hall_pride h_hall_speed h_hall_place h_hall_payer h_hall_dishName h_hall_cost v_hall_chairs v_hall_guests v_hall_dishes, aI cI h_hall_coins 7 v_hall_coins, aI cI h_hall_place 7 v_hall_place, aI cI h_coins 7 w2, aI cI h_chairOf 7 w4, aI cI h_tired 7 w5, aI cI h_hosted 7 w6, aI cI h_owed 7 v_owed, aI cI h_paid 7 v_paid] H := hP
      have hD : va_D A [oX1 h_this h_hall h_coins h_chairOf h_tired h_hosted h_owed h_paid v_sitting v_taken v_served v_hidden v_round v_over v_host v_paidInAll v_lot, oX2 h_hall h_hall_guestName h_hall_coins h_hall_pride h_hall_speed h_hall_place h_hall_payer h_hall_dishName h_hall_cost v_hall_chairs v_hall_guests v_hall_dishes, aI cI h_hall_coins 7 v_hall_coins, aI cI h_hall_place 7 v_hall_place, aI cI h_coins 7 w2, aI cI h_chairOf 7 w4, aI cI h_tired 7 w5, aI cI h_hosted 7 w6, aI cI h_owed 7 v_owed, aI cI h_paid 7 v_paid] := hD
      refine lv_aload_n hx hb dX1_begin_52 rfl (lv_at hl 0 rfl) ?_
      refine z_pc (pc' := 53) rfl ?_
      refine va_get (D := (dC, dI)) (ci := 1) (v := .ref h_owed) (C := RX1) (T := TX1) (N := 16) hx hb hts (fun w h => List.mem_cons_of_mem _ (inU_1 w h)) hown hK hP 0 rfl rfl 5 (by decide) (hts _ (List.mem_cons_of_mem _ U_148)) (fun _ h9 => h9) rfl dX1_begin_53 ?_
      refine lv_iload_n hx hb dX1_begin_56 rfl (lv_at hl 1 rfl) ?_
      refine lv_iconst (v := 0) hx hb dX1_begin_57 (by decide) ?_
      obtain ⟨hg, hr⟩ := gI_s hr
      obtain ⟨w7, hw7, hr⟩ := nm_s hr
      refine z_iast hx hb hK hP hD hS 8 0 rfl rfl hg rfl hw7 dX1_begin_58 (fun H locs hP hD hS => ?_)
      have hP : va_P (dC, dI) vwCl [oX1 h_this h_hall h_coins h_chairOf h_tired h_hosted h_owed h_paid v_sitting v_taken v_served v_hidden v_round v_over v_host v_paidInAll v_lot, oX2 h_hall h_hall_guestName h_hall_coins h_hall_pride h_hall_speed h_hall_place h_hall_payer h_hall_dishName h_hall_cost v_hall_chairs v_hall_guests v_hall_dishes, aI cI h_hall_coins 7 v_hall_coins, aI cI h_hall_place 7 v_hall_place, aI cI h_coins 7 w2, aI cI h_chairOf 7 w4, aI cI h_tired 7 w5, aI cI h_hosted 7 w6, aI cI h_owed 7 w7, aI cI h_paid 7 v_paid] H := hP
      have hD : va_D A [oX1 h_this h_hall h_coins h_chairOf h_tired h_hosted h_owed h_paid v_sitting v_taken v_served v_hidden v_round v_over v_host v_paidInAll v_lot, oX2 h_hall h_hall_guestName h_hall_coins h_hall_pride h_hall_speed h_hall_place h_hall_payer h_hall_dishName h_hall_cost v_hall_chairs v_hall_guests v_hall_dishes, aI cI h_hall_coins 7 v_hall_coins, aI cI h_hall_place 7 v_hall_place, aI cI h_coins 7 w2, aI cI h_chairOf 7 w4, aI cI h_tired 7 w5, aI cI h_hosted 7 w6, aI cI h_owed 7 w7, aI cI h_paid 7 v_paid] := hD
      refine lv_aload_n hx hb dX1_begin_59 rfl (lv_at hl 0 rfl) ?_
      refine va_get (D := (dC, dI)) (ci := 1) (v := .ref h_paid) (C := RX1) (T := TX1) (N := 16) hx hb hts (fun w h => List.mem_cons_of_mem _ (inU_1 w h)) hown hK hP 0 rfl rfl 6 (by decide) (hts _ (List.mem_cons_of_mem _ U_149)) (fun _ h9 => h9) rfl dX1_begin_60 ?_
      refine z_pc (pc' := 63) rfl ?_
      refine lv_iload_n hx hb dX1_begin_63 rfl (lv_at hl 1 rfl) ?_
      refine lv_iconst (v := 0) hx hb dX1_begin_64 (by decide) ?_
      obtain ⟨hg, hr⟩ := gI_s hr
      obtain ⟨w8, hw8, hr⟩ := nm_s hr
      refine z_iast hx hb hK hP hD hS 9 0 rfl rfl hg rfl hw8 dX1_begin_65 (fun H locs hP hD hS => ?_)
      have hP : va_P (dC, dI) vwCl [oX1 h_this h_hall h_coins h_chairOf h_tired h_hosted h_owed h_paid v_sitting v_taken v_served v_hidden v_round v_over v_host v_paidInAll v_lot, oX2 h_hall h_hall_guestName h_hall_coins h_hall_pride h_hall_speed h_hall_place h_hall_payer h_hall_dishName h_hall_cost v_hall_chairs v_hall_guests v_hall_dishes, aI cI h_hall_coins 7 v_hall_coins, aI cI h_hall_place 7 v_hall_place, aI cI h_coins 7 w2, aI cI h_chairOf 7 w4, aI cI h_tired 7 w5, aI cI h_hosted 7 w6, aI cI h_owed 7 w7, aI cI h_paid 7 w8] H := hP
      have hD : va_D A [oX1 h_this h_hall h_coins h_chairOf h_tired h_hosted h_owed h_paid v_sitting v_taken v_served v_hidden v_round v_over v_host v_paidInAll v_lot, oX2 h_hall h_hall_guestName h_hall_coins h_hall_pride h_hall_speed h_hall_place h_hall_payer h_hall_dishName h_hall_cost v_hall_chairs v_hall_guests v_hall_dishes, aI cI h_hall_coins 7 v_hall_coins, aI cI h_hall_place 7 v_hall_place, aI cI h_coins 7 w2, aI cI h_chairOf 7 w4, aI cI h_tired 7 w5, aI cI h_hosted 7 w6, aI cI h_owed 7 w7, aI cI h_paid 7 w8] := hD
      refine lv_iinc (v := (x1 + 1)) (lv' := [(1, .int (x1 + 1)), (0, .ref h_this)]) hx hb dX1_begin_66 hl (k := 1) rfl rfl (by decide) rfl (fun ls hl => ?_)
      refine lv_goto (tgt := 2) hx hb dX1_begin_69 (by decide) ?_
      exact ih v_sitting v_taken v_served v_hidden v_round v_over v_host v_paidInAll w2 w4 w5 w6 w7 w8 (x1 + 1) hr _ _ ⟨hK, hP, hD, hS⟩ ls (lv_sub hl [1, 0] rfl)
set_option maxHeartbeats 4000000 in
set_option maxRecDepth 100000 in
theorem tX1_begin {p : Program} {l : Launch} {e : Env} {R : Room} {s : State} {m : MethodId} {args : Array Value} {below : List Frame} {meth : Method} {c : Code} {dC : Nat → ClassId} {dI : Nat → Nat → Nat} {cI cJ cB cZ cF cG : ClassId} {A : Nat → Prop} (hA : ∀ q : Nat, s.heap.size ≤ q → A q) (C0 : Cx p s m meth c args cX1_begin 2 none RX1 uX1_begin) (hR : 0 ≤ R.frames ∧ 0 ≤ R.locals) (h_this : Nat) (h_hall : Nat) (h_hall_coins : Nat) (h_hall_place : Nat) (h_coins : Nat) (h_chairOf : Nat) (h_tired : Nat) (h_hosted : Nat) (h_owed : Nat) (h_paid : Nat) (h_hall_guestName : Nat) (h_hall_pride : Nat) (h_hall_speed : Nat) (h_hall_payer : Nat) (h_hall_dishName : Nat) (h_hall_cost : Nat) (v_lot : Int32) (v_hall_chairs : Int32) (v_hall_guests : Int32) (v_hall_dishes : Int32) (v_hall_coins : Nat → Int32) (v_hall_place : Nat → Int32) (o_sitting : Int32) (o_taken : Int32) (o_served : Int32) (o_hidden : Int32) (o_round : Int32) (o_over : Int32) (o_host : Int32) (o_paidInAll : Int32) (o_coins : Nat → Int32) (o_chairOf : Nat → Int32) (o_tired : Nat → Int32) (o_hosted : Nat → Int32) (o_owed : Nat → Int32) (o_paid : Nat → Int32) :
    ∀ (v_sitting : Int32) (v_taken : Int32) (v_served : Int32) (v_hidden : Int32) (v_round : Int32) (v_over : Int32) (v_host : Int32) (v_paidInAll : Int32) (v_coins : Nat → Int32) (v_chairOf : Nat → Int32) (v_tired : Nat → Int32) (v_hosted : Nat → Int32) (v_owed : Nat → Int32) (v_paid : Nat → Int32), fX1_begin v_hall_coins v_hall_place v_sitting v_taken v_served v_hidden v_round v_over v_host v_paidInAll v_coins v_chairOf v_tired v_hosted v_owed v_paid = some (o_sitting, o_taken, o_served, o_hidden, o_round, o_over, o_host, o_paidInAll, o_coins, o_chairOf, o_tired, o_hosted, o_owed, o_paid) → ∀ (H : Heap) (locs : List Loc), Wd dC dI cI cJ cB cZ cF cG A s H locs [oX1 h_this h_hall h_coins h_chairOf h_tired h_hosted h_owed h_paid v_sitting v_taken v_served v_hidden v_round v_over v_host v_paidInAll v_lot, oX2 h_hall h_hall_guestName h_hall_coins h_hall_pride h_hall_speed h_hall_place h_hall_payer h_hall_dishName h_hall_cost v_hall_chairs v_hall_guests v_hall_dishes, aI cI h_hall_coins 7 v_hall_coins, aI cI h_hall_place 7 v_hall_place, aI cI h_coins 7 v_coins, aI cI h_chairOf 7 v_chairOf, aI cI h_tired 7 v_tired, aI cI h_hosted 7 v_hosted, aI cI h_owed 7 v_owed, aI cI h_paid 7 v_paid] → ∀ (ls : Array Slot), lv_has ls 2 [(0, .ref h_this)] → W p l e R s m args below meth c H locs 0 0 (MQ below (PQv dC dI cI cJ cB cZ cF cG A [oX1 h_this h_hall h_coins h_chairOf h_tired h_hosted h_owed h_paid o_sitting o_taken o_served o_hidden o_round o_over o_host o_paidInAll v_lot, oX2 h_hall h_hall_guestName h_hall_coins h_hall_pride h_hall_speed h_hall_place h_hall_payer h_hall_dishName h_hall_cost v_hall_chairs v_hall_guests v_hall_dishes, aI cI h_hall_coins 7 v_hall_coins, aI cI h_hall_place 7 v_hall_place, aI cI h_coins 7 o_coins, aI cI h_chairOf 7 o_chairOf, aI cI h_tired 7 o_tired, aI cI h_hosted 7 o_hosted, aI cI h_owed 7 o_owed, aI cI h_paid 7 o_paid]) args s 0 0 A) (F0 m 0 ls []) := by
  obtain ⟨hx, hb, hrt, hml, hown, hts, hlocks⟩ := id C0
  intro v_sitting v_taken v_served v_hidden v_round v_over v_host v_paidInAll v_coins v_chairOf v_tired v_hosted v_owed v_paid hr H locs hW ls hl
  obtain ⟨hK, hP, hD, hS⟩ := hW
  have hr : (lX1_begin_2 v_hall_coins v_hall_place 5000 v_sitting v_taken v_served v_hidden v_round v_over v_host v_paidInAll v_coins v_chairOf v_tired v_hosted v_owed v_paid 0 : Option (Int32 × Int32 × Int32 × Int32 × Int32 × Int32 × Int32 × Int32 × (Nat → Int32) × (Nat → Int32) × (Nat → Int32) × (Nat → Int32) × (Nat → Int32) × (Nat → Int32))) = some (o_sitting, o_taken, o_served, o_hidden, o_round, o_over, o_host, o_paidInAll, o_coins, o_chairOf, o_tired, o_hosted, o_owed, o_paid) := hr
  refine lv_iconst (v := 0) hx hb dX1_begin_0 (by decide) ?_
  refine lv_istore_n (lv' := [(1, .int 0), (0, .ref h_this)]) hx hb dX1_begin_1 rfl hl (by decide) rfl (fun ls hl => ?_)
  exact tX1_begin_2 hA C0 hR h_this h_hall h_hall_coins h_hall_place h_coins h_chairOf h_tired h_hosted h_owed h_paid h_hall_guestName h_hall_pride h_hall_speed h_hall_payer h_hall_dishName h_hall_cost v_lot v_hall_chairs v_hall_guests v_hall_dishes v_hall_coins v_hall_place o_sitting o_taken o_served o_hidden o_round o_over o_host o_paidInAll o_coins o_chairOf o_tired o_hosted o_owed o_paid 5000 v_sitting v_taken v_served v_hidden v_round v_over v_host v_paidInAll v_coins v_chairOf v_tired v_hosted v_owed v_paid 0 hr _ _ ⟨hK, hP, hD, hS⟩ ls (lv_sub hl [1, 0] rfl)
set_option maxHeartbeats 4000000 in
set_option maxRecDepth 100000 in
theorem mX1_begin (l : Launch) (dC : Nat → ClassId) (dI : Nat → Nat → Nat) (cI cJ cB cZ cF cG : ClassId) (h_this : Nat) (h_hall : Nat) (h_hall_coins : Nat) (h_hall_place : Nat) (h_coins : Nat) (h_chairOf : Nat) (h_tired : Nat) (h_hosted : Nat) (h_owed : Nat) (h_paid : Nat) (h_hall_guestName : Nat) (h_hall_pride : Nat) (h_hall_speed : Nat) (h_hall_payer : Nat) (h_hall_dishName : Nat) (h_hall_cost : Nat) (sz : Nat) (v_sitting : Int32) (v_taken : Int32) (v_served : Int32) (v_hidden : Int32) (v_round : Int32) (v_over : Int32) (v_host : Int32) (v_paidInAll : Int32) (v_lot : Int32) (v_hall_chairs : Int32) (v_hall_guests : Int32) (v_hall_dishes : Int32) (v_hall_coins : Nat → Int32) (v_hall_place : Nat → Int32) (v_coins : Nat → Int32) (v_chairOf : Nat → Int32) (v_tired : Nat → Int32) (v_hosted : Nat → Int32) (v_owed : Nat → Int32) (v_paid : Nat → Int32) (o_sitting : Int32) (o_taken : Int32) (o_served : Int32) (o_hidden : Int32) (o_round : Int32) (o_over : Int32) (o_host : Int32) (o_paidInAll : Int32) (o_coins : Nat → Int32) (o_chairOf : Nat → Int32) (o_tired : Nat → Int32) (o_hosted : Nat → Int32) (o_owed : Nat → Int32) (o_paid : Nat → Int32) (hf : fX1_begin v_hall_coins v_hall_place v_sitting v_taken v_served v_hidden v_round v_over v_host v_paidInAll v_coins v_chairOf v_tired v_hosted v_owed v_paid = some (o_sitting, o_taken, o_served, o_hidden, o_round, o_over, o_host, o_paidInAll, o_coins, o_chairOf, o_tired, o_hosted, o_owed, o_paid)) : Met l yX1_begin uX1_begin ({ frames := 0, cells := 0, slots := 0, locals := 0 }) (va_Pc [.ref h_this] (fun U => U.heap.size = sz ∧ va_P (dC, dI) vwCl [oX1 h_this h_hall h_coins h_chairOf h_tired h_hosted h_owed h_paid v_sitting v_taken v_served v_hidden v_round v_over v_host v_paidInAll v_lot, oX2 h_hall h_hall_guestName h_hall_coins h_hall_pride h_hall_speed h_hall_place h_hall_payer h_hall_dishName h_hall_cost v_hall_chairs v_hall_guests v_hall_dishes, aI cI h_hall_coins 7 v_hall_coins, aI cI h_hall_place 7 v_hall_place, aI cI h_coins 7 v_coins, aI cI h_chairOf 7 v_chairOf, aI cI h_tired 7 v_tired, aI cI h_hosted 7 v_hosted, aI cI h_owed 7 v_owed, aI cI h_paid 7 v_paid] U.heap ∧ va_K (dC, dI) vwCl (TYS cI cJ cB cZ cF cG) U ∧ va_D (fun _ => True) [oX1 h_this h_hall h_coins h_chairOf h_tired h_hosted h_owed h_paid v_sitting v_taken v_served v_hidden v_round v_over v_host v_paidInAll v_lot, oX2 h_hall h_hall_guestName h_hall_coins h_hall_pride h_hall_speed h_hall_place h_hall_payer h_hall_dishName h_hall_cost v_hall_chairs v_hall_guests v_hall_dishes, aI cI h_hall_coins 7 v_hall_coins, aI cI h_hall_place 7 v_hall_place, aI cI h_coins 7 v_coins, aI cI h_chairOf 7 v_chairOf, aI cI h_tired 7 v_tired, aI cI h_hosted 7 v_hosted, aI cI h_owed 7 v_owed, aI cI h_paid 7 v_paid])) (PQv dC dI cI cJ cB cZ cF cG (va_A [oX1 h_this h_hall h_coins h_chairOf h_tired h_hosted h_owed h_paid v_sitting v_taken v_served v_hidden v_round v_over v_host v_paidInAll v_lot, oX2 h_hall h_hall_guestName h_hall_coins h_hall_pride h_hall_speed h_hall_place h_hall_payer h_hall_dishName h_hall_cost v_hall_chairs v_hall_guests v_hall_dishes, aI cI h_hall_coins 7 v_hall_coins, aI cI h_hall_place 7 v_hall_place, aI cI h_coins 7 v_coins, aI cI h_chairOf 7 v_chairOf, aI cI h_tired 7 v_tired, aI cI h_hosted 7 v_hosted, aI cI h_owed 7 v_owed, aI cI h_paid 7 v_paid] sz) [oX1 h_this h_hall h_coins h_chairOf h_tired h_hosted h_owed h_paid o_sitting o_taken o_served o_hidden o_round o_over o_host o_paidInAll v_lot, oX2 h_hall h_hall_guestName h_hall_coins h_hall_pride h_hall_speed h_hall_place h_hall_payer h_hall_dishName h_hall_cost v_hall_chairs v_hall_guests v_hall_dishes, aI cI h_hall_coins 7 v_hall_coins, aI cI h_hall_place 7 v_hall_place, aI cI h_coins 7 o_coins, aI cI h_chairOf 7 o_chairOf, aI cI h_tired 7 o_tired, aI cI h_hosted 7 o_hosted, aI cI h_owed 7 o_owed, aI cI h_paid 7 o_paid]) 0 0 (va_A [oX1 h_this h_hall h_coins h_chairOf h_tired h_hosted h_owed h_paid v_sitting v_taken v_served v_hidden v_round v_over v_host v_paidInAll v_lot, oX2 h_hall h_hall_guestName h_hall_coins h_hall_pride h_hall_speed h_hall_place h_hall_payer h_hall_dishName h_hall_cost v_hall_chairs v_hall_guests v_hall_dishes, aI cI h_hall_coins 7 v_hall_coins, aI cI h_hall_place 7 v_hall_place, aI cI h_coins 7 v_coins, aI cI h_chairOf 7 v_chairOf, aI cI h_tired 7 v_tired, aI cI h_hosted 7 v_hosted, aI cI h_owed 7 v_owed, aI cI h_paid 7 v_paid] sz) := by
  refine Met.ofW (cc := cX1_begin) (maxL := 2) (ret := none) (by decide) rfl ?_
  intro p e s m args below meth c s₁ B hml hv
  obtain ⟨rfl, hsz, hP, hK, hD0⟩ := hv
  have hx := B.exec
  have hb := B.bytes
  have hr := B.returns
  have hts := atoms_spec (ws := uX1_begin) B.pre
  have hown : s.vm.findClass RX1 = some m.cls := findClass_of_methodNamed B.named
  have hlocks := B.notSynchronized
  subst hsz
  have hD := hD0.self (sz := s.heap.size)
  generalize hAe : va_A [oX1 h_this h_hall h_coins h_chairOf h_tired h_hosted h_owed h_paid v_sitting v_taken v_served v_hidden v_round v_over v_host v_paidInAll v_lot, oX2 h_hall h_hall_guestName h_hall_coins h_hall_pride h_hall_speed h_hall_place h_hall_payer h_hall_dishName h_hall_cost v_hall_chairs v_hall_guests v_hall_dishes, aI cI h_hall_coins 7 v_hall_coins, aI cI h_hall_place 7 v_hall_place, aI cI h_coins 7 v_coins, aI cI h_chairOf 7 v_chairOf, aI cI h_tired 7 v_tired, aI cI h_hosted 7 v_hosted, aI cI h_owed 7 v_owed, aI cI h_paid 7 v_paid] s.heap.size = A at hD ⊢
  have hA : ∀ q : Nat, s.heap.size ≤ q → A q := fun q h => by rw [← hAe]; exact Or.inr h
  have hS : va_S A s.heap s.heap [] := va_S.rf
  have hl := lv_entry ([.ref h_this]) (n := 2) (Nat.le_of_ble_eq_true rfl)
  rw [lg_entry_eq]
  generalize (lg_sl ([.ref h_this]) ++ List.replicate (2 - (lg_sl ([.ref h_this])).length) Slot.unset).toArray = ls at hl ⊢
  have hl : lv_has ls 2 [(0, .ref h_this)] := hl
  exact tX1_begin hA ⟨hx, hb, hr, hml, hown, hts, hlocks⟩ ⟨Nat.le_refl _, Nat.le_refl _⟩ h_this h_hall h_hall_coins h_hall_place h_coins h_chairOf h_tired h_hosted h_owed h_paid h_hall_guestName h_hall_pride h_hall_speed h_hall_payer h_hall_dishName h_hall_cost v_lot v_hall_chairs v_hall_guests v_hall_dishes v_hall_coins v_hall_place o_sitting o_taken o_served o_hidden o_round o_over o_host o_paidInAll o_coins o_chairOf o_tired o_hosted o_owed o_paid v_sitting v_taken v_served v_hidden v_round v_over v_host v_paidInAll v_coins v_chairOf v_tired v_hosted v_owed v_paid hf _ _ ⟨hK, hP, hD, hS⟩ ls hl
-- LastSeat$Feast.isSeated(I)Z
def uX1_isSeated : List Cond := .code yX1_isSeated cX1_isSeated 2 (some .boolean) :: wsU
set_option maxHeartbeats 4000000 in
set_option maxRecDepth 100000 in
theorem tX1_isSeated {p : Program} {l : Launch} {e : Env} {R : Room} {s : State} {m : MethodId} {args : Array Value} {below : List Frame} {meth : Method} {c : Code} {dC : Nat → ClassId} {dI : Nat → Nat → Nat} {cI cJ cB cZ cF cG : ClassId} {A : Nat → Prop} (hA : ∀ q : Nat, s.heap.size ≤ q → A q) (C0 : Cx p s m meth c args cX1_isSeated 2 (some .boolean) RX1 uX1_isSeated) (hR : 0 ≤ R.frames ∧ 0 ≤ R.locals) (h_this : Nat) (h_hall : Nat) (h_coins : Nat) (h_chairOf : Nat) (h_tired : Nat) (h_hosted : Nat) (h_owed : Nat) (h_paid : Nat) (v_sitting : Int32) (v_taken : Int32) (v_served : Int32) (v_hidden : Int32) (v_round : Int32) (v_over : Int32) (v_host : Int32) (v_paidInAll : Int32) (v_lot : Int32) (o_r : Int32) :
    ∀ (x1 : Int32), fX1_isSeated v_sitting x1 = some o_r → ∀ (H : Heap) (locs : List Loc), Wd dC dI cI cJ cB cZ cF cG A s H locs [oX1 h_this h_hall h_coins h_chairOf h_tired h_hosted h_owed h_paid v_sitting v_taken v_served v_hidden v_round v_over v_host v_paidInAll v_lot] → ∀ (ls : Array Slot), lv_has ls 2 [(0, .ref h_this), (1, .int x1)] → W p l e R s m args below meth c H locs 0 0 (MQ below (PQz dC dI cI cJ cB cZ cF cG A o_r [oX1 h_this h_hall h_coins h_chairOf h_tired h_hosted h_owed h_paid v_sitting v_taken v_served v_hidden v_round v_over v_host v_paidInAll v_lot]) args s 0 0 A) (F0 m 0 ls []) := by
  obtain ⟨hx, hb, hrt, hml, hown, hts, hlocks⟩ := id C0
  intro x1 hr H locs hW ls hl
  obtain ⟨hK, hP, hD, hS⟩ := hW
  have hr : (if ((v_sitting >>> (x1 &&& 31)) &&& 1) = 1 then some 1 else some 0 : Option (Int32)) = some o_r := hr
  refine lv_aload_n hx hb dX1_isSeated_0 rfl (lv_at hl 0 rfl) ?_
  refine va_get (D := (dC, dI)) (ci := 1) (v := .int v_sitting) (C := RX1) (T := TX1) (N := 16) hx hb hts (fun w h => List.mem_cons_of_mem _ (inU_1 w h)) hown hK hP 0 rfl rfl 7 (by decide) (hts _ (List.mem_cons_of_mem _ U_441)) (fun _ h9 => h9) rfl dX1_isSeated_1 ?_
  refine lv_iload_n hx hb dX1_isSeated_4 rfl (lv_at hl 1 rfl) ?_
  refine lv_ishr hx hb dX1_isSeated_5 ?_
  refine lv_iconst (v := 1) hx hb dX1_isSeated_6 (by decide) ?_
  refine z_pc (pc' := 7) rfl ?_
  refine lv_iand hx hb dX1_isSeated_7 ?_
  refine lv_iconst (v := 1) hx hb dX1_isSeated_8 (by decide) ?_
  refine lv_icmp_ne (tgt := 16) hx hb dX1_isSeated_9 (by decide) (fun hc => ?_) (fun hc => ?_)
  · have hr := iteN hc hr
    refine lv_iconst (v := 0) hx hb dX1_isSeated_16 (by decide) ?_
    have q0 := Option.some.inj hr
    subst q0
    exact W.zret (v := 0) hx hb hrt rfl (fun t ht hW => ⟨⟨0, (), rfl, ⟨rfl, rfl⟩, by rw [ht]; exact hP, va_K.moved hW.alike hK, hD⟩, hS.F ht⟩) hS.2.2 dX1_isSeated_17 hlocks
  · have hr := iteP hc hr
    refine lv_iconst (v := 1) hx hb dX1_isSeated_12 (by decide) ?_
    refine lv_goto (tgt := 17) hx hb dX1_isSeated_13 (by decide) ?_
    have q0 := Option.some.inj hr
    subst q0
    exact W.zret (v := 1) hx hb hrt rfl (fun t ht hW => ⟨⟨1, (), rfl, ⟨rfl, rfl⟩, by rw [ht]; exact hP, va_K.moved hW.alike hK, hD⟩, hS.F ht⟩) hS.2.2 dX1_isSeated_17 hlocks
set_option maxHeartbeats 4000000 in
set_option maxRecDepth 100000 in
theorem mX1_isSeated (l : Launch) (dC : Nat → ClassId) (dI : Nat → Nat → Nat) (cI cJ cB cZ cF cG : ClassId) (h_this : Nat) (h_hall : Nat) (h_coins : Nat) (h_chairOf : Nat) (h_tired : Nat) (h_hosted : Nat) (h_owed : Nat) (h_paid : Nat) (sz : Nat) (v_sitting : Int32) (v_taken : Int32) (v_served : Int32) (v_hidden : Int32) (v_round : Int32) (v_over : Int32) (v_host : Int32) (v_paidInAll : Int32) (v_lot : Int32) (x1 : Int32) (o_r : Int32) (hf : fX1_isSeated v_sitting x1 = some o_r) : Met l yX1_isSeated uX1_isSeated ({ frames := 0, cells := 0, slots := 0, locals := 0 }) (va_Pc [.ref h_this, .int x1] (fun U => U.heap.size = sz ∧ va_P (dC, dI) vwCl [oX1 h_this h_hall h_coins h_chairOf h_tired h_hosted h_owed h_paid v_sitting v_taken v_served v_hidden v_round v_over v_host v_paidInAll v_lot] U.heap ∧ va_K (dC, dI) vwCl (TYS cI cJ cB cZ cF cG) U ∧ va_D (fun _ => True) [oX1 h_this h_hall h_coins h_chairOf h_tired h_hosted h_owed h_paid v_sitting v_taken v_served v_hidden v_round v_over v_host v_paidInAll v_lot])) (PQz dC dI cI cJ cB cZ cF cG (va_A [oX1 h_this h_hall h_coins h_chairOf h_tired h_hosted h_owed h_paid v_sitting v_taken v_served v_hidden v_round v_over v_host v_paidInAll v_lot] sz) o_r [oX1 h_this h_hall h_coins h_chairOf h_tired h_hosted h_owed h_paid v_sitting v_taken v_served v_hidden v_round v_over v_host v_paidInAll v_lot]) 0 0 (va_A [oX1 h_this h_hall h_coins h_chairOf h_tired h_hosted h_owed h_paid v_sitting v_taken v_served v_hidden v_round v_over v_host v_paidInAll v_lot] sz) := by
  refine Met.ofW (cc := cX1_isSeated) (maxL := 2) (ret := (some .boolean)) (by decide) rfl ?_
  intro p e s m args below meth c s₁ B hml hv
  obtain ⟨rfl, hsz, hP, hK, hD0⟩ := hv
  have hx := B.exec
  have hb := B.bytes
  have hr := B.returns
  have hts := atoms_spec (ws := uX1_isSeated) B.pre
  have hown : s.vm.findClass RX1 = some m.cls := findClass_of_methodNamed B.named
  have hlocks := B.notSynchronized
  subst hsz
  have hD := hD0.self (sz := s.heap.size)
  generalize hAe : va_A [oX1 h_this h_hall h_coins h_chairOf h_tired h_hosted h_owed h_paid v_sitting v_taken v_served v_hidden v_round v_over v_host v_paidInAll v_lot] s.heap.size = A at hD ⊢
  have hA : ∀ q : Nat, s.heap.size ≤ q → A q := fun q h => by rw [← hAe]; exact Or.inr h
  have hS : va_S A s.heap s.heap [] := va_S.rf
  have hl := lv_entry ([.ref h_this, .int x1]) (n := 2) (Nat.le_of_ble_eq_true rfl)
  rw [lg_entry_eq]
  generalize (lg_sl ([.ref h_this, .int x1]) ++ List.replicate (2 - (lg_sl ([.ref h_this, .int x1])).length) Slot.unset).toArray = ls at hl ⊢
  have hl : lv_has ls 2 [(0, .ref h_this), (1, .int x1)] := hl
  exact tX1_isSeated hA ⟨hx, hb, hr, hml, hown, hts, hlocks⟩ ⟨Nat.le_refl _, Nat.le_refl _⟩ h_this h_hall h_coins h_chairOf h_tired h_hosted h_owed h_paid v_sitting v_taken v_served v_hidden v_round v_over v_host v_paidInAll v_lot o_r x1 hf _ _ ⟨hK, hP, hD, hS⟩ ls hl
-- LastSeat$Feast.whoIsAt(I)I
def uX1_whoIsAt : List Cond := .code yX1_whoIsAt cX1_whoIsAt 4 (some .int) :: wsU
set_option maxHeartbeats 4000000 in
set_option maxRecDepth 100000 in
theorem tX1_whoIsAt_4 {p : Program} {l : Launch} {e : Env} {R : Room} {s : State} {m : MethodId} {args : Array Value} {below : List Frame} {meth : Method} {c : Code} {dC : Nat → ClassId} {dI : Nat → Nat → Nat} {cI cJ cB cZ cF cG : ClassId} {A : Nat → Prop} (hA : ∀ q : Nat, s.heap.size ≤ q → A q) (C0 : Cx p s m meth c args cX1_whoIsAt 4 (some .int) RX1 uX1_whoIsAt) (hR : 0 ≤ R.frames ∧ 0 ≤ R.locals) (h_this : Nat) (h_hall : Nat) (h_chairOf : Nat) (h_coins : Nat) (h_tired : Nat) (h_hosted : Nat) (h_owed : Nat) (h_paid : Nat) (h_hall_guestName : Nat) (h_hall_coins : Nat) (h_hall_pride : Nat) (h_hall_speed : Nat) (h_hall_place : Nat) (h_hall_payer : Nat) (h_hall_dishName : Nat) (h_hall_cost : Nat) (v_sitting : Int32) (v_taken : Int32) (v_served : Int32) (v_hidden : Int32) (v_round : Int32) (v_over : Int32) (v_host : Int32) (v_paidInAll : Int32) (v_lot : Int32) (v_hall_chairs : Int32) (v_hall_guests : Int32) (v_hall_dishes : Int32) (v_chairOf : Nat → Int32) (o_r : Int32) :
    ∀ n : Nat, ∀ (x1 : Int32) (x2 : Int32) (x3 : Int32), lX1_whoIsAt_4 v_hall_guests v_chairOf n x1 x2 x3 = some o_r → ∀ (H : Heap) (locs : List Loc), Wd dC dI cI cJ cB cZ cF cG A s H locs [oX1 h_this h_hall h_coins h_chairOf h_tired h_hosted h_owed h_paid v_sitting v_taken v_served v_hidden v_round v_over v_host v_paidInAll v_lot, oX2 h_hall h_hall_guestName h_hall_coins h_hall_pride h_hall_speed h_hall_place h_hall_payer h_hall_dishName h_hall_cost v_hall_chairs v_hall_guests v_hall_dishes, aI cI h_chairOf 7 v_chairOf] → ∀ (ls : Array Slot), lv_has ls 4 [(0, .ref h_this), (1, .int x1), (2, .int x2), (3, .int x3)] → W p l e R s m args below meth c H locs 0 0 (MQ below (PQi dC dI cI cJ cB cZ cF cG A o_r [oX1 h_this h_hall h_coins h_chairOf h_tired h_hosted h_owed h_paid v_sitting v_taken v_served v_hidden v_round v_over v_host v_paidInAll v_lot, oX2 h_hall h_hall_guestName h_hall_coins h_hall_pride h_hall_speed h_hall_place h_hall_payer h_hall_dishName h_hall_cost v_hall_chairs v_hall_guests v_hall_dishes, aI cI h_chairOf 7 v_chairOf]) args s 0 0 A) (F0 m 4 ls []) := by
  obtain ⟨hx, hb, hrt, hml, hown, hts, hlocks⟩ := id C0
  intro n
  induction n with
  | zero =>
    intro x1 x2 x3 hr
    exact nomatch (show (none : Option (Int32)) = some _ from hr)
  | succ n ih =>
    intro x1 x2 x3 hr H locs hW ls hl
    obtain ⟨hK, hP, hD, hS⟩ := hW
    have hr : (if v_hall_guests ≤ x3 then some x2 else gI x3 7 (if (v_chairOf (Int32.toNatClampNeg x3)) = x1 then nmv (x2 ||| (1 <<< (x3 &&& 31))) (fun w1 => lX1_whoIsAt_4 v_hall_guests v_chairOf n x1 w1 (x3 + 1)) else lX1_whoIsAt_4 v_hall_guests v_chairOf n x1 x2 (x3 + 1)) : Option (Int32)) = some o_r := hr
    refine lv_iload_n hx hb dX1_whoIsAt_4 rfl (lv_at hl 3 rfl) ?_
    refine lv_aload_n hx hb dX1_whoIsAt_5 rfl (lv_at hl 0 rfl) ?_
    refine va_get (D := (dC, dI)) (ci := 1) (v := .ref h_hall) (C := RX1) (T := TX1) (N := 16) hx hb hts (fun w h => List.mem_cons_of_mem _ (inU_1 w h)) hown hK hP 0 rfl rfl 0 (by decide) (hts _ (List.mem_cons_of_mem _ U_143)) (fun _ h9 => h9) rfl dX1_whoIsAt_6 ?_
    refine va_get (D := (dC, dI)) (ci := 2) (v := .int v_hall_guests) (C := RX2) (T := TX2) (N := 11) hx hb hts (fun w h => List.mem_cons_of_mem _ (inU_2 w h)) hown hK hP 1 rfl rfl 9 (by decide) (hts _ (List.mem_cons_of_mem _ U_626)) (fun _ h9 => h9) rfl dX1_whoIsAt_9 ?_
    refine lv_icmp_ge (tgt := 37) hx hb dX1_whoIsAt_12 (by decide) (fun hc => ?_) (fun hc => ?_)
    · have hr := iteP hc hr
      refine lv_iload_n hx hb dX1_whoIsAt_37 rfl (lv_at hl 2 rfl) ?_
      have q0 := Option.some.inj hr
      subst q0
      exact W.iret (v := x2) hx hb hrt (fun t ht hW => ⟨⟨x2, (), rfl, rfl, by rw [ht]; exact hP, va_K.moved hW.alike hK, hD⟩, hS.F ht⟩) hS.2.2 dX1_whoIsAt_38 hlocks
    · have hr := iteN hc hr
      refine lv_aload_n hx hb dX1_whoIsAt_15 rfl (lv_at hl 0 rfl) ?_
      refine va_get (D := (dC, dI)) (ci := 1) (v := .ref h_chairOf) (C := RX1) (T := TX1) (N := 16) hx hb hts (fun w h => List.mem_cons_of_mem _ (inU_1 w h)) hown hK hP 0 rfl rfl 2 (by decide) (hts _ (List.mem_cons_of_mem _ U_145)) (fun _ h9 => h9) rfl dX1_whoIsAt_16 ?_
      refine lv_iload_n hx hb dX1_whoIsAt_19 rfl (lv_at hl 3 rfl) ?_
      obtain ⟨hg, hr⟩ := gI_s hr
      refine z_iald hx hb hK hP 2 0 rfl rfl hg rfl dX1_whoIsAt_20 ?_
      refine lv_iload_n hx hb dX1_whoIsAt_21 rfl (lv_at hl 1 rfl) ?_
      refine z_pc (pc' := 22) rfl ?_
      refine lv_icmp_ne (tgt := 31) hx hb dX1_whoIsAt_22 (by decide) (fun hc => ?_) (fun hc => ?_)
      · have hr := iteN hc hr
        refine lv_iinc (v := (x3 + 1)) (lv' := [(3, .int (x3 + 1)), (0, .ref h_this), (1, .int x1), (2, .int x2)]) hx hb dX1_whoIsAt_31 hl (k := 3) rfl rfl (by decide) rfl (fun ls hl => ?_)
        refine lv_goto (tgt := 4) hx hb dX1_whoIsAt_34 (by decide) ?_
        exact ih x1 x2 (x3 + 1) hr _ _ ⟨hK, hP, hD, hS⟩ ls (lv_sub hl [1, 2, 3, 0] rfl)
      · have hr := iteP hc hr
        refine lv_iload_n hx hb dX1_whoIsAt_25 rfl (lv_at hl 2 rfl) ?_
        refine lv_iconst (v := 1) hx hb dX1_whoIsAt_26 (by decide) ?_
        refine lv_iload_n hx hb dX1_whoIsAt_27 rfl (lv_at hl 3 rfl) ?_
        refine lv_ishl hx hb dX1_whoIsAt_28 ?_
        refine lv_ior hx hb dX1_whoIsAt_29 ?_
        refine z_pc (pc' := 30) rfl ?_
        obtain ⟨w1, hw1, hr⟩ := nm_s hr
        refine z_topi hw1 ?_
        refine lv_istore_n (lv' := [(2, .int w1), (0, .ref h_this), (1, .int x1), (3, .int x3)]) hx hb dX1_whoIsAt_30 rfl hl (by decide) rfl (fun ls hl => ?_)
        refine lv_iinc (v := (x3 + 1)) (lv' := [(3, .int (x3 + 1)), (2, .int w1), (0, .ref h_this), (1, .int x1)]) hx hb dX1_whoIsAt_31 hl (k := 3) rfl rfl (by decide) rfl (fun ls hl => ?_)
        refine lv_goto (tgt := 4) hx hb dX1_whoIsAt_34 (by decide) ?_
        exact ih x1 w1 (x3 + 1) hr _ _ ⟨hK, hP, hD, hS⟩ ls (lv_sub hl [2, 3, 1, 0] rfl)
set_option maxHeartbeats 4000000 in
set_option maxRecDepth 100000 in
theorem tX1_whoIsAt {p : Program} {l : Launch} {e : Env} {R : Room} {s : State} {m : MethodId} {args : Array Value} {below : List Frame} {meth : Method} {c : Code} {dC : Nat → ClassId} {dI : Nat → Nat → Nat} {cI cJ cB cZ cF cG : ClassId} {A : Nat → Prop} (hA : ∀ q : Nat, s.heap.size ≤ q → A q) (C0 : Cx p s m meth c args cX1_whoIsAt 4 (some .int) RX1 uX1_whoIsAt) (hR : 0 ≤ R.frames ∧ 0 ≤ R.locals) (h_this : Nat) (h_hall : Nat) (h_chairOf : Nat) (h_coins : Nat) (h_tired : Nat) (h_hosted : Nat) (h_owed : Nat) (h_paid : Nat) (h_hall_guestName : Nat) (h_hall_coins : Nat) (h_hall_pride : Nat) (h_hall_speed : Nat) (h_hall_place : Nat) (h_hall_payer : Nat) (h_hall_dishName : Nat) (h_hall_cost : Nat) (v_sitting : Int32) (v_taken : Int32) (v_served : Int32) (v_hidden : Int32) (v_round : Int32) (v_over : Int32) (v_host : Int32) (v_paidInAll : Int32) (v_lot : Int32) (v_hall_chairs : Int32) (v_hall_guests : Int32) (v_hall_dishes : Int32) (v_chairOf : Nat → Int32) (o_r : Int32) :
    ∀ (x1 : Int32), fX1_whoIsAt v_hall_guests v_chairOf x1 = some o_r → ∀ (H : Heap) (locs : List Loc), Wd dC dI cI cJ cB cZ cF cG A s H locs [oX1 h_this h_hall h_coins h_chairOf h_tired h_hosted h_owed h_paid v_sitting v_taken v_served v_hidden v_round v_over v_host v_paidInAll v_lot, oX2 h_hall h_hall_guestName h_hall_coins h_hall_pride h_hall_speed h_hall_place h_hall_payer h_hall_dishName h_hall_cost v_hall_chairs v_hall_guests v_hall_dishes, aI cI h_chairOf 7 v_chairOf] → ∀ (ls : Array Slot), lv_has ls 4 [(0, .ref h_this), (1, .int x1)] → W p l e R s m args below meth c H locs 0 0 (MQ below (PQi dC dI cI cJ cB cZ cF cG A o_r [oX1 h_this h_hall h_coins h_chairOf h_tired h_hosted h_owed h_paid v_sitting v_taken v_served v_hidden v_round v_over v_host v_paidInAll v_lot, oX2 h_hall h_hall_guestName h_hall_coins h_hall_pride h_hall_speed h_hall_place h_hall_payer h_hall_dishName h_hall_cost v_hall_chairs v_hall_guests v_hall_dishes, aI cI h_chairOf 7 v_chairOf]) args s 0 0 A) (F0 m 0 ls []) := by
  obtain ⟨hx, hb, hrt, hml, hown, hts, hlocks⟩ := id C0
  intro x1 hr H locs hW ls hl
  obtain ⟨hK, hP, hD, hS⟩ := hW
  have hr : (lX1_whoIsAt_4 v_hall_guests v_chairOf 5000 x1 0 0 : Option (Int32)) = some o_r := hr
  refine lv_iconst (v := 0) hx hb dX1_whoIsAt_0 (by decide) ?_
  refine lv_istore_n (lv' := [(2, .int 0), (0, .ref h_this), (1, .int x1)]) hx hb dX1_whoIsAt_1 rfl hl (by decide) rfl (fun ls hl => ?_)
  refine lv_iconst (v := 0) hx hb dX1_whoIsAt_2 (by decide) ?_
  refine lv_istore_n (lv' := [(3, .int 0), (2, .int 0), (0, .ref h_this), (1, .int x1)]) hx hb dX1_whoIsAt_3 rfl hl (by decide) rfl (fun ls hl => ?_)
  exact tX1_whoIsAt_4 hA C0 hR h_this h_hall h_chairOf h_coins h_tired h_hosted h_owed h_paid h_hall_guestName h_hall_coins h_hall_pride h_hall_speed h_hall_place h_hall_payer h_hall_dishName h_hall_cost v_sitting v_taken v_served v_hidden v_round v_over v_host v_paidInAll v_lot v_hall_chairs v_hall_guests v_hall_dishes v_chairOf o_r 5000 x1 0 0 hr _ _ ⟨hK, hP, hD, hS⟩ ls (lv_sub hl [2, 3, 1, 0] rfl)
set_option maxHeartbeats 4000000 in
set_option maxRecDepth 100000 in
theorem mX1_whoIsAt (l : Launch) (dC : Nat → ClassId) (dI : Nat → Nat → Nat) (cI cJ cB cZ cF cG : ClassId) (h_this : Nat) (h_hall : Nat) (h_chairOf : Nat) (h_coins : Nat) (h_tired : Nat) (h_hosted : Nat) (h_owed : Nat) (h_paid : Nat) (h_hall_guestName : Nat) (h_hall_coins : Nat) (h_hall_pride : Nat) (h_hall_speed : Nat) (h_hall_place : Nat) (h_hall_payer : Nat) (h_hall_dishName : Nat) (h_hall_cost : Nat) (sz : Nat) (v_sitting : Int32) (v_taken : Int32) (v_served : Int32) (v_hidden : Int32) (v_round : Int32) (v_over : Int32) (v_host : Int32) (v_paidInAll : Int32) (v_lot : Int32) (v_hall_chairs : Int32) (v_hall_guests : Int32) (v_hall_dishes : Int32) (v_chairOf : Nat → Int32) (x1 : Int32) (o_r : Int32) (hf : fX1_whoIsAt v_hall_guests v_chairOf x1 = some o_r) : Met l yX1_whoIsAt uX1_whoIsAt ({ frames := 0, cells := 0, slots := 0, locals := 0 }) (va_Pc [.ref h_this, .int x1] (fun U => U.heap.size = sz ∧ va_P (dC, dI) vwCl [oX1 h_this h_hall h_coins h_chairOf h_tired h_hosted h_owed h_paid v_sitting v_taken v_served v_hidden v_round v_over v_host v_paidInAll v_lot, oX2 h_hall h_hall_guestName h_hall_coins h_hall_pride h_hall_speed h_hall_place h_hall_payer h_hall_dishName h_hall_cost v_hall_chairs v_hall_guests v_hall_dishes, aI cI h_chairOf 7 v_chairOf] U.heap ∧ va_K (dC, dI) vwCl (TYS cI cJ cB cZ cF cG) U ∧ va_D (fun _ => True) [oX1 h_this h_hall h_coins h_chairOf h_tired h_hosted h_owed h_paid v_sitting v_taken v_served v_hidden v_round v_over v_host v_paidInAll v_lot, oX2 h_hall h_hall_guestName h_hall_coins h_hall_pride h_hall_speed h_hall_place h_hall_payer h_hall_dishName h_hall_cost v_hall_chairs v_hall_guests v_hall_dishes, aI cI h_chairOf 7 v_chairOf])) (PQi dC dI cI cJ cB cZ cF cG (va_A [oX1 h_this h_hall h_coins h_chairOf h_tired h_hosted h_owed h_paid v_sitting v_taken v_served v_hidden v_round v_over v_host v_paidInAll v_lot, oX2 h_hall h_hall_guestName h_hall_coins h_hall_pride h_hall_speed h_hall_place h_hall_payer h_hall_dishName h_hall_cost v_hall_chairs v_hall_guests v_hall_dishes, aI cI h_chairOf 7 v_chairOf] sz) o_r [oX1 h_this h_hall h_coins h_chairOf h_tired h_hosted h_owed h_paid v_sitting v_taken v_served v_hidden v_round v_over v_host v_paidInAll v_lot, oX2 h_hall h_hall_guestName h_hall_coins h_hall_pride h_hall_speed h_hall_place h_hall_payer h_hall_dishName h_hall_cost v_hall_chairs v_hall_guests v_hall_dishes, aI cI h_chairOf 7 v_chairOf]) 0 0 (va_A [oX1 h_this h_hall h_coins h_chairOf h_tired h_hosted h_owed h_paid v_sitting v_taken v_served v_hidden v_round v_over v_host v_paidInAll v_lot, oX2 h_hall h_hall_guestName h_hall_coins h_hall_pride h_hall_speed h_hall_place h_hall_payer h_hall_dishName h_hall_cost v_hall_chairs v_hall_guests v_hall_dishes, aI cI h_chairOf 7 v_chairOf] sz) := by
  refine Met.ofW (cc := cX1_whoIsAt) (maxL := 4) (ret := (some .int)) (by decide) rfl ?_
  intro p e s m args below meth c s₁ B hml hv
  obtain ⟨rfl, hsz, hP, hK, hD0⟩ := hv
  have hx := B.exec
  have hb := B.bytes
  have hr := B.returns
  have hts := atoms_spec (ws := uX1_whoIsAt) B.pre
  have hown : s.vm.findClass RX1 = some m.cls := findClass_of_methodNamed B.named
  have hlocks := B.notSynchronized
  subst hsz
  have hD := hD0.self (sz := s.heap.size)
  generalize hAe : va_A [oX1 h_this h_hall h_coins h_chairOf h_tired h_hosted h_owed h_paid v_sitting v_taken v_served v_hidden v_round v_over v_host v_paidInAll v_lot, oX2 h_hall h_hall_guestName h_hall_coins h_hall_pride h_hall_speed h_hall_place h_hall_payer h_hall_dishName h_hall_cost v_hall_chairs v_hall_guests v_hall_dishes, aI cI h_chairOf 7 v_chairOf] s.heap.size = A at hD ⊢
  have hA : ∀ q : Nat, s.heap.size ≤ q → A q := fun q h => by rw [← hAe]; exact Or.inr h
  have hS : va_S A s.heap s.heap [] := va_S.rf
  have hl := lv_entry ([.ref h_this, .int x1]) (n := 4) (Nat.le_of_ble_eq_true rfl)
  rw [lg_entry_eq]
  generalize (lg_sl ([.ref h_this, .int x1]) ++ List.replicate (4 - (lg_sl ([.ref h_this, .int x1])).length) Slot.unset).toArray = ls at hl ⊢
  have hl : lv_has ls 4 [(0, .ref h_this), (1, .int x1)] := hl
  exact tX1_whoIsAt hA ⟨hx, hb, hr, hml, hown, hts, hlocks⟩ ⟨Nat.le_refl _, Nat.le_refl _⟩ h_this h_hall h_chairOf h_coins h_tired h_hosted h_owed h_paid h_hall_guestName h_hall_coins h_hall_pride h_hall_speed h_hall_place h_hall_payer h_hall_dishName h_hall_cost v_sitting v_taken v_served v_hidden v_round v_over v_host v_paidInAll v_lot v_hall_chairs v_hall_guests v_hall_dishes v_chairOf o_r x1 hf _ _ ⟨hK, hP, hD, hS⟩ ls hl
-- LastSeat$Feast.whoSitsAt(I)I
def uX1_whoSitsAt : List Cond := .code yX1_whoSitsAt cX1_whoSitsAt 3 (some .int) :: wsU
set_option maxHeartbeats 4000000 in
set_option maxRecDepth 100000 in
theorem tX1_whoSitsAt_2 {p : Program} {l : Launch} {e : Env} {R : Room} {s : State} {m : MethodId} {args : Array Value} {below : List Frame} {meth : Method} {c : Code} {dC : Nat → ClassId} {dI : Nat → Nat → Nat} {cI cJ cB cZ cF cG : ClassId} {A : Nat → Prop} (hA : ∀ q : Nat, s.heap.size ≤ q → A q) (C0 : Cx p s m meth c args cX1_whoSitsAt 3 (some .int) RX1 uX1_whoSitsAt) (hR : 1 ≤ R.frames ∧ 21 ≤ R.locals) (h_this : Nat) (h_hall : Nat) (h_chairOf : Nat) (h_coins : Nat) (h_tired : Nat) (h_hosted : Nat) (h_owed : Nat) (h_paid : Nat) (h_hall_guestName : Nat) (h_hall_coins : Nat) (h_hall_pride : Nat) (h_hall_speed : Nat) (h_hall_place : Nat) (h_hall_payer : Nat) (h_hall_dishName : Nat) (h_hall_cost : Nat) (v_sitting : Int32) (v_taken : Int32) (v_served : Int32) (v_hidden : Int32) (v_round : Int32) (v_over : Int32) (v_host : Int32) (v_paidInAll : Int32) (v_lot : Int32) (v_hall_chairs : Int32) (v_hall_guests : Int32) (v_hall_dishes : Int32) (v_chairOf : Nat → Int32) (o_r : Int32) :
    ∀ n : Nat, ∀ (x1 : Int32) (x2 : Int32), lX1_whoSitsAt_2 v_sitting v_hall_guests v_chairOf n x1 x2 = some o_r → ∀ (H : Heap) (locs : List Loc), Wd dC dI cI cJ cB cZ cF cG A s H locs [oX1 h_this h_hall h_coins h_chairOf h_tired h_hosted h_owed h_paid v_sitting v_taken v_served v_hidden v_round v_over v_host v_paidInAll v_lot, oX2 h_hall h_hall_guestName h_hall_coins h_hall_pride h_hall_speed h_hall_place h_hall_payer h_hall_dishName h_hall_cost v_hall_chairs v_hall_guests v_hall_dishes, aI cI h_chairOf 7 v_chairOf] → ∀ (ls : Array Slot), lv_has ls 3 [(0, .ref h_this), (1, .int x1), (2, .int x2)] → W p l e R s m args below meth c H locs 0 0 (MQ below (PQi dC dI cI cJ cB cZ cF cG A o_r [oX1 h_this h_hall h_coins h_chairOf h_tired h_hosted h_owed h_paid v_sitting v_taken v_served v_hidden v_round v_over v_host v_paidInAll v_lot, oX2 h_hall h_hall_guestName h_hall_coins h_hall_pride h_hall_speed h_hall_place h_hall_payer h_hall_dishName h_hall_cost v_hall_chairs v_hall_guests v_hall_dishes, aI cI h_chairOf 7 v_chairOf]) args s 0 0 A) (F0 m 2 ls []) := by
  obtain ⟨hx, hb, hrt, hml, hown, hts, hlocks⟩ := id C0
  intro n
  induction n with
  | zero =>
    intro x1 x2 hr
    exact nomatch (show (none : Option (Int32)) = some _ from hr)
  | succ n ih =>
    intro x1 x2 hr H locs hW ls hl
    obtain ⟨hK, hP, hD, hS⟩ := hW
    have hr : (if v_hall_guests ≤ x2 then some (-1) else gI x2 7 (if (v_chairOf (Int32.toNatClampNeg x2)) = x1 then (fX1_isSeated v_sitting x2).bind (fun r_1 => if r_1 = 0 then lX1_whoSitsAt_2 v_sitting v_hall_guests v_chairOf n x1 (x2 + 1) else some x2) else lX1_whoSitsAt_2 v_sitting v_hall_guests v_chairOf n x1 (x2 + 1)) : Option (Int32)) = some o_r := hr
    refine lv_iload_n hx hb dX1_whoSitsAt_2 rfl (lv_at hl 2 rfl) ?_
    refine lv_aload_n hx hb dX1_whoSitsAt_3 rfl (lv_at hl 0 rfl) ?_
    refine va_get (D := (dC, dI)) (ci := 1) (v := .ref h_hall) (C := RX1) (T := TX1) (N := 16) hx hb hts (fun w h => List.mem_cons_of_mem _ (inU_1 w h)) hown hK hP 0 rfl rfl 0 (by decide) (hts _ (List.mem_cons_of_mem _ U_143)) (fun _ h9 => h9) rfl dX1_whoSitsAt_4 ?_
    refine va_get (D := (dC, dI)) (ci := 2) (v := .int v_hall_guests) (C := RX2) (T := TX2) (N := 11) hx hb hts (fun w h => List.mem_cons_of_mem _ (inU_2 w h)) hown hK hP 1 rfl rfl 9 (by decide) (hts _ (List.mem_cons_of_mem _ U_626)) (fun _ h9 => h9) rfl dX1_whoSitsAt_7 ?_
    refine lv_icmp_ge (tgt := 39) hx hb dX1_whoSitsAt_10 (by decide) (fun hc => ?_) (fun hc => ?_)
    · have hr := iteP hc hr
      refine lv_iconst (v := (-1)) hx hb dX1_whoSitsAt_39 (by decide) ?_
      have q0 := Option.some.inj hr
      subst q0
      exact W.iret (v := (-1)) hx hb hrt (fun t ht hW => ⟨⟨(-1), (), rfl, rfl, by rw [ht]; exact hP, va_K.moved hW.alike hK, hD⟩, hS.F ht⟩) hS.2.2 dX1_whoSitsAt_40 hlocks
    · have hr := iteN hc hr
      refine lv_aload_n hx hb dX1_whoSitsAt_13 rfl (lv_at hl 0 rfl) ?_
      refine va_get (D := (dC, dI)) (ci := 1) (v := .ref h_chairOf) (C := RX1) (T := TX1) (N := 16) hx hb hts (fun w h => List.mem_cons_of_mem _ (inU_1 w h)) hown hK hP 0 rfl rfl 2 (by decide) (hts _ (List.mem_cons_of_mem _ U_145)) (fun _ h9 => h9) rfl dX1_whoSitsAt_14 ?_
      refine lv_iload_n hx hb dX1_whoSitsAt_17 rfl (lv_at hl 2 rfl) ?_
      obtain ⟨hg, hr⟩ := gI_s hr
      refine z_iald hx hb hK hP 2 0 rfl rfl hg rfl dX1_whoSitsAt_18 ?_
      refine lv_iload_n hx hb dX1_whoSitsAt_19 rfl (lv_at hl 1 rfl) ?_
      refine z_pc (pc' := 20) rfl ?_
      refine lv_icmp_ne (tgt := 33) hx hb dX1_whoSitsAt_20 (by decide) (fun hc => ?_) (fun hc => ?_)
      · have hr := iteN hc hr
        refine lv_iinc (v := (x2 + 1)) (lv' := [(2, .int (x2 + 1)), (0, .ref h_this), (1, .int x1)]) hx hb dX1_whoSitsAt_33 hl (k := 2) rfl rfl (by decide) rfl (fun ls hl => ?_)
        refine lv_goto (tgt := 2) hx hb dX1_whoSitsAt_36 (by decide) ?_
        exact ih x1 (x2 + 1) hr _ _ ⟨hK, hP, hD, hS⟩ ls (lv_sub hl [1, 2, 0] rfl)
      · have hr := iteP hc hr
        refine lv_aload_n hx hb dX1_whoSitsAt_23 rfl (lv_at hl 0 rfl) ?_
        refine lv_iload_n hx hb dX1_whoSitsAt_24 rfl (lv_at hl 2 rfl) ?_
        obtain ⟨r_1, ho, hr⟩ := bind_s hr
        have hPc := hP.sub (ws' := [oX1 h_this h_hall h_coins h_chairOf h_tired h_hosted h_owed h_paid v_sitting v_taken v_served v_hidden v_round v_over v_host v_paidInAll v_lot]) [0] rfl
        have hDc := hD.sub (ws' := [oX1 h_this h_hall h_coins h_chairOf h_tired h_hosted h_owed h_paid v_sitting v_taken v_served v_hidden v_round v_over v_host v_paidInAll v_lot]) [0] (by decide) rfl
        have hFc := va_free (wc := [oX1 h_this h_hall h_coins h_chairOf h_tired h_hosted h_owed h_paid v_sitting v_taken v_served v_hidden v_round v_over v_host v_paidInAll v_lot]) hD hS hA [0] rfl
        refine va_calli (va_runV (As := [.int x2]) (rest := []) ⟨hx, hb, hml, hown, hts⟩ (mX1_isSeated l dC dI cI cJ cB cZ cF cG h_this h_hall h_coins h_chairOf h_tired h_hosted h_owed h_paid H.size v_sitting v_taken v_served v_hidden v_round v_over v_host v_paidInAll v_lot x2 r_1 ho) (cwV 1 hts (goodV U_627 U_590 U_591 U_27 U_592) rfl rfl rfl (by decide +kernel) ⟨Nat.le_trans (by decide) hR.1, Nat.le_trans (Nat.le_of_ble_eq_true rfl) hR.2⟩) ⟨fun a U g mk q => by obtain ⟨q0, q1, qP, qK, qD⟩ := q; exact ⟨q0, q1, qP, va_K.moved (u := U) (U := U.calling g mk a) (Vm.Alike.refl U.vm) qK, qD⟩, va_recv hK hPc (ci := 1) (q0 := 0) rfl rfl, fun U hU hW => ⟨rfl, by rw [hU], by rw [hU]; exact hPc, va_K.moved hW.alike hK, hDc.weaken (fun _ _ _ _ => trivial)⟩⟩ rfl rfl hl.1 rfl (lv_room (Nat.le_of_ble_eq_true rfl)) dX1_whoSitsAt_25 ⟨Nat.zero_le _, Nat.zero_le _⟩) hS (fun q _ h => hFc q h) hFc (fun rz u t H1 locs ht hvm hw hB hz1 hk1 hS => ?_)
        obtain ⟨hP1, hK1, hD1⟩ := hB
        obtain ⟨hw, hz_1⟩ := hw
        have hw := hw.symm; subst hw
        rw [ht] at hP1
        obtain ⟨hP, hD⟩ := va_join (wr := [oX2 h_hall h_hall_guestName h_hall_coins h_hall_pride h_hall_speed h_hall_place h_hall_payer h_hall_dishName h_hall_cost v_hall_chairs v_hall_guests v_hall_dishes, aI cI h_chairOf 7 v_chairOf]) (w1 := [oX1 h_this h_hall h_coins h_chairOf h_tired h_hosted h_owed h_paid v_sitting v_taken v_served v_hidden v_round v_over v_host v_paidInAll v_lot]) hP hD [0] [1, 2] rfl rfl (by decide) (by decide) hk1 hFc hP1 hD1
        generalize H1 = H at hP hS ⊢
        have hP := hP.sub (ws' := [oX1 h_this h_hall h_coins h_chairOf h_tired h_hosted h_owed h_paid v_sitting v_taken v_served v_hidden v_round v_over v_host v_paidInAll v_lot, oX2 h_hall h_hall_guestName h_hall_coins h_hall_pride h_hall_speed h_hall_place h_hall_payer h_hall_dishName h_hall_cost v_hall_chairs v_hall_guests v_hall_dishes, aI cI h_chairOf 7 v_chairOf]) [2, 0, 1] rfl
        have hD := hD.sub (ws' := [oX1 h_this h_hall h_coins h_chairOf h_tired h_hosted h_owed h_paid v_sitting v_taken v_served v_hidden v_round v_over v_host v_paidInAll v_lot, oX2 h_hall h_hall_guestName h_hall_coins h_hall_pride h_hall_speed h_hall_place h_hall_payer h_hall_dishName h_hall_cost v_hall_chairs v_hall_guests v_hall_dishes, aI cI h_chairOf 7 v_chairOf]) [2, 0, 1] (by decide) rfl
        refine lv_if_eq (tgt := 33) hx hb dX1_whoSitsAt_28 (by decide) (fun hc => ?_) (fun hc => ?_)
        · have hr := iteP hc hr
          refine lv_iinc (v := (x2 + 1)) (lv' := [(2, .int (x2 + 1)), (0, .ref h_this), (1, .int x1)]) hx hb dX1_whoSitsAt_33 hl (k := 2) rfl rfl (by decide) rfl (fun ls hl => ?_)
          refine lv_goto (tgt := 2) hx hb dX1_whoSitsAt_36 (by decide) ?_
          exact ih x1 (x2 + 1) hr _ _ ⟨hK, hP, hD, hS⟩ ls (lv_sub hl [1, 2, 0] rfl)
        · have hr := iteN hc hr
          refine lv_iload_n hx hb dX1_whoSitsAt_31 rfl (lv_at hl 2 rfl) ?_
          have q0 := Option.some.inj hr
          subst q0
          exact W.iret (v := x2) hx hb hrt (fun t ht hW => ⟨⟨x2, (), rfl, rfl, by rw [ht]; exact hP, va_K.moved hW.alike hK, hD⟩, hS.F ht⟩) hS.2.2 dX1_whoSitsAt_32 hlocks
set_option maxHeartbeats 4000000 in
set_option maxRecDepth 100000 in
theorem tX1_whoSitsAt {p : Program} {l : Launch} {e : Env} {R : Room} {s : State} {m : MethodId} {args : Array Value} {below : List Frame} {meth : Method} {c : Code} {dC : Nat → ClassId} {dI : Nat → Nat → Nat} {cI cJ cB cZ cF cG : ClassId} {A : Nat → Prop} (hA : ∀ q : Nat, s.heap.size ≤ q → A q) (C0 : Cx p s m meth c args cX1_whoSitsAt 3 (some .int) RX1 uX1_whoSitsAt) (hR : 1 ≤ R.frames ∧ 21 ≤ R.locals) (h_this : Nat) (h_hall : Nat) (h_chairOf : Nat) (h_coins : Nat) (h_tired : Nat) (h_hosted : Nat) (h_owed : Nat) (h_paid : Nat) (h_hall_guestName : Nat) (h_hall_coins : Nat) (h_hall_pride : Nat) (h_hall_speed : Nat) (h_hall_place : Nat) (h_hall_payer : Nat) (h_hall_dishName : Nat) (h_hall_cost : Nat) (v_sitting : Int32) (v_taken : Int32) (v_served : Int32) (v_hidden : Int32) (v_round : Int32) (v_over : Int32) (v_host : Int32) (v_paidInAll : Int32) (v_lot : Int32) (v_hall_chairs : Int32) (v_hall_guests : Int32) (v_hall_dishes : Int32) (v_chairOf : Nat → Int32) (o_r : Int32) :
    ∀ (x1 : Int32), fX1_whoSitsAt v_sitting v_hall_guests v_chairOf x1 = some o_r → ∀ (H : Heap) (locs : List Loc), Wd dC dI cI cJ cB cZ cF cG A s H locs [oX1 h_this h_hall h_coins h_chairOf h_tired h_hosted h_owed h_paid v_sitting v_taken v_served v_hidden v_round v_over v_host v_paidInAll v_lot, oX2 h_hall h_hall_guestName h_hall_coins h_hall_pride h_hall_speed h_hall_place h_hall_payer h_hall_dishName h_hall_cost v_hall_chairs v_hall_guests v_hall_dishes, aI cI h_chairOf 7 v_chairOf] → ∀ (ls : Array Slot), lv_has ls 3 [(0, .ref h_this), (1, .int x1)] → W p l e R s m args below meth c H locs 0 0 (MQ below (PQi dC dI cI cJ cB cZ cF cG A o_r [oX1 h_this h_hall h_coins h_chairOf h_tired h_hosted h_owed h_paid v_sitting v_taken v_served v_hidden v_round v_over v_host v_paidInAll v_lot, oX2 h_hall h_hall_guestName h_hall_coins h_hall_pride h_hall_speed h_hall_place h_hall_payer h_hall_dishName h_hall_cost v_hall_chairs v_hall_guests v_hall_dishes, aI cI h_chairOf 7 v_chairOf]) args s 0 0 A) (F0 m 0 ls []) := by
  obtain ⟨hx, hb, hrt, hml, hown, hts, hlocks⟩ := id C0
  intro x1 hr H locs hW ls hl
  obtain ⟨hK, hP, hD, hS⟩ := hW
  have hr : (lX1_whoSitsAt_2 v_sitting v_hall_guests v_chairOf 5000 x1 0 : Option (Int32)) = some o_r := hr
  refine lv_iconst (v := 0) hx hb dX1_whoSitsAt_0 (by decide) ?_
  refine lv_istore_n (lv' := [(2, .int 0), (0, .ref h_this), (1, .int x1)]) hx hb dX1_whoSitsAt_1 rfl hl (by decide) rfl (fun ls hl => ?_)
  exact tX1_whoSitsAt_2 hA C0 hR h_this h_hall h_chairOf h_coins h_tired h_hosted h_owed h_paid h_hall_guestName h_hall_coins h_hall_pride h_hall_speed h_hall_place h_hall_payer h_hall_dishName h_hall_cost v_sitting v_taken v_served v_hidden v_round v_over v_host v_paidInAll v_lot v_hall_chairs v_hall_guests v_hall_dishes v_chairOf o_r 5000 x1 0 hr _ _ ⟨hK, hP, hD, hS⟩ ls (lv_sub hl [1, 2, 0] rfl)
set_option maxHeartbeats 4000000 in
set_option maxRecDepth 100000 in
theorem mX1_whoSitsAt (l : Launch) (dC : Nat → ClassId) (dI : Nat → Nat → Nat) (cI cJ cB cZ cF cG : ClassId) (h_this : Nat) (h_hall : Nat) (h_chairOf : Nat) (h_coins : Nat) (h_tired : Nat) (h_hosted : Nat) (h_owed : Nat) (h_paid : Nat) (h_hall_guestName : Nat) (h_hall_coins : Nat) (h_hall_pride : Nat) (h_hall_speed : Nat) (h_hall_place : Nat) (h_hall_payer : Nat) (h_hall_dishName : Nat) (h_hall_cost : Nat) (sz : Nat) (v_sitting : Int32) (v_taken : Int32) (v_served : Int32) (v_hidden : Int32) (v_round : Int32) (v_over : Int32) (v_host : Int32) (v_paidInAll : Int32) (v_lot : Int32) (v_hall_chairs : Int32) (v_hall_guests : Int32) (v_hall_dishes : Int32) (v_chairOf : Nat → Int32) (x1 : Int32) (o_r : Int32) (hf : fX1_whoSitsAt v_sitting v_hall_guests v_chairOf x1 = some o_r) : Met l yX1_whoSitsAt uX1_whoSitsAt ({ frames := 1, cells := 0, slots := 0, locals := 21 }) (va_Pc [.ref h_this, .int x1] (fun U => U.heap.size = sz ∧ va_P (dC, dI) vwCl [oX1 h_this h_hall h_coins h_chairOf h_tired h_hosted h_owed h_paid v_sitting v_taken v_served v_hidden v_round v_over v_host v_paidInAll v_lot, oX2 h_hall h_hall_guestName h_hall_coins h_hall_pride h_hall_speed h_hall_place h_hall_payer h_hall_dishName h_hall_cost v_hall_chairs v_hall_guests v_hall_dishes, aI cI h_chairOf 7 v_chairOf] U.heap ∧ va_K (dC, dI) vwCl (TYS cI cJ cB cZ cF cG) U ∧ va_D (fun _ => True) [oX1 h_this h_hall h_coins h_chairOf h_tired h_hosted h_owed h_paid v_sitting v_taken v_served v_hidden v_round v_over v_host v_paidInAll v_lot, oX2 h_hall h_hall_guestName h_hall_coins h_hall_pride h_hall_speed h_hall_place h_hall_payer h_hall_dishName h_hall_cost v_hall_chairs v_hall_guests v_hall_dishes, aI cI h_chairOf 7 v_chairOf])) (PQi dC dI cI cJ cB cZ cF cG (va_A [oX1 h_this h_hall h_coins h_chairOf h_tired h_hosted h_owed h_paid v_sitting v_taken v_served v_hidden v_round v_over v_host v_paidInAll v_lot, oX2 h_hall h_hall_guestName h_hall_coins h_hall_pride h_hall_speed h_hall_place h_hall_payer h_hall_dishName h_hall_cost v_hall_chairs v_hall_guests v_hall_dishes, aI cI h_chairOf 7 v_chairOf] sz) o_r [oX1 h_this h_hall h_coins h_chairOf h_tired h_hosted h_owed h_paid v_sitting v_taken v_served v_hidden v_round v_over v_host v_paidInAll v_lot, oX2 h_hall h_hall_guestName h_hall_coins h_hall_pride h_hall_speed h_hall_place h_hall_payer h_hall_dishName h_hall_cost v_hall_chairs v_hall_guests v_hall_dishes, aI cI h_chairOf 7 v_chairOf]) 0 0 (va_A [oX1 h_this h_hall h_coins h_chairOf h_tired h_hosted h_owed h_paid v_sitting v_taken v_served v_hidden v_round v_over v_host v_paidInAll v_lot, oX2 h_hall h_hall_guestName h_hall_coins h_hall_pride h_hall_speed h_hall_place h_hall_payer h_hall_dishName h_hall_cost v_hall_chairs v_hall_guests v_hall_dishes, aI cI h_chairOf 7 v_chairOf] sz) := by
  refine Met.ofW (cc := cX1_whoSitsAt) (maxL := 3) (ret := (some .int)) (by decide) rfl ?_
  intro p e s m args below meth c s₁ B hml hv
  obtain ⟨rfl, hsz, hP, hK, hD0⟩ := hv
  have hx := B.exec
  have hb := B.bytes
  have hr := B.returns
  have hts := atoms_spec (ws := uX1_whoSitsAt) B.pre
  have hown : s.vm.findClass RX1 = some m.cls := findClass_of_methodNamed B.named
  have hlocks := B.notSynchronized
  subst hsz
  have hD := hD0.self (sz := s.heap.size)
  generalize hAe : va_A [oX1 h_this h_hall h_coins h_chairOf h_tired h_hosted h_owed h_paid v_sitting v_taken v_served v_hidden v_round v_over v_host v_paidInAll v_lot, oX2 h_hall h_hall_guestName h_hall_coins h_hall_pride h_hall_speed h_hall_place h_hall_payer h_hall_dishName h_hall_cost v_hall_chairs v_hall_guests v_hall_dishes, aI cI h_chairOf 7 v_chairOf] s.heap.size = A at hD ⊢
  have hA : ∀ q : Nat, s.heap.size ≤ q → A q := fun q h => by rw [← hAe]; exact Or.inr h
  have hS : va_S A s.heap s.heap [] := va_S.rf
  have hl := lv_entry ([.ref h_this, .int x1]) (n := 3) (Nat.le_of_ble_eq_true rfl)
  rw [lg_entry_eq]
  generalize (lg_sl ([.ref h_this, .int x1]) ++ List.replicate (3 - (lg_sl ([.ref h_this, .int x1])).length) Slot.unset).toArray = ls at hl ⊢
  have hl : lv_has ls 3 [(0, .ref h_this), (1, .int x1)] := hl
  exact tX1_whoSitsAt hA ⟨hx, hb, hr, hml, hown, hts, hlocks⟩ ⟨Nat.le_refl _, Nat.le_refl _⟩ h_this h_hall h_chairOf h_coins h_tired h_hosted h_owed h_paid h_hall_guestName h_hall_coins h_hall_pride h_hall_speed h_hall_place h_hall_payer h_hall_dishName h_hall_cost v_sitting v_taken v_served v_hidden v_round v_over v_host v_paidInAll v_lot v_hall_chairs v_hall_guests v_hall_dishes v_chairOf o_r x1 hf _ _ ⟨hK, hP, hD, hS⟩ ls hl
-- LastSeat$Feast.whyNotSit(I)I
def uX1_whyNotSit : List Cond := .code yX1_whyNotSit cX1_whyNotSit 2 (some .int) :: wsU
set_option maxHeartbeats 4000000 in
set_option maxRecDepth 100000 in
theorem tX1_whyNotSit {p : Program} {l : Launch} {e : Env} {R : Room} {s : State} {m : MethodId} {args : Array Value} {below : List Frame} {meth : Method} {c : Code} {dC : Nat → ClassId} {dI : Nat → Nat → Nat} {cI cJ cB cZ cF cG : ClassId} {A : Nat → Prop} (hA : ∀ q : Nat, s.heap.size ≤ q → A q) (C0 : Cx p s m meth c args cX1_whyNotSit 2 (some .int) RX1 uX1_whyNotSit) (hR : 1 ≤ R.frames ∧ 21 ≤ R.locals) (h_this : Nat) (h_chairOf : Nat) (h_hall : Nat) (h_coins : Nat) (h_tired : Nat) (h_hosted : Nat) (h_owed : Nat) (h_paid : Nat) (v_sitting : Int32) (v_taken : Int32) (v_served : Int32) (v_hidden : Int32) (v_round : Int32) (v_over : Int32) (v_host : Int32) (v_paidInAll : Int32) (v_lot : Int32) (v_chairOf : Nat → Int32) (o_r : Int32) :
    ∀ (x1 : Int32), fX1_whyNotSit v_sitting v_taken v_hidden v_chairOf x1 = some o_r → ∀ (H : Heap) (locs : List Loc), Wd dC dI cI cJ cB cZ cF cG A s H locs [oX1 h_this h_hall h_coins h_chairOf h_tired h_hosted h_owed h_paid v_sitting v_taken v_served v_hidden v_round v_over v_host v_paidInAll v_lot, aI cI h_chairOf 7 v_chairOf] → ∀ (ls : Array Slot), lv_has ls 2 [(0, .ref h_this), (1, .int x1)] → W p l e R s m args below meth c H locs 0 0 (MQ below (PQi dC dI cI cJ cB cZ cF cG A o_r [oX1 h_this h_hall h_coins h_chairOf h_tired h_hosted h_owed h_paid v_sitting v_taken v_served v_hidden v_round v_over v_host v_paidInAll v_lot, aI cI h_chairOf 7 v_chairOf]) args s 0 0 A) (F0 m 0 ls []) := by
  obtain ⟨hx, hb, hrt, hml, hown, hts, hlocks⟩ := id C0
  intro x1 hr H locs hW ls hl
  obtain ⟨hK, hP, hD, hS⟩ := hW
  have hr : ((fX1_isSeated v_sitting x1).bind (fun r_1 => if r_1 = 0 then gI x1 7 (if ((v_taken >>> ((v_chairOf (Int32.toNatClampNeg x1)) &&& 31)) &&& 1) = 1 then some 2 else gI x1 7 (if ((v_hidden >>> ((v_chairOf (Int32.toNatClampNeg x1)) &&& 31)) &&& 1) = 1 then some 3 else some 0)) else some 1) : Option (Int32)) = some o_r := hr
  refine lv_aload_n hx hb dX1_whyNotSit_0 rfl (lv_at hl 0 rfl) ?_
  refine lv_iload_n hx hb dX1_whyNotSit_1 rfl (lv_at hl 1 rfl) ?_
  obtain ⟨r_1, ho, hr⟩ := bind_s hr
  have hPc := hP.sub (ws' := [oX1 h_this h_hall h_coins h_chairOf h_tired h_hosted h_owed h_paid v_sitting v_taken v_served v_hidden v_round v_over v_host v_paidInAll v_lot]) [0] rfl
  have hDc := hD.sub (ws' := [oX1 h_this h_hall h_coins h_chairOf h_tired h_hosted h_owed h_paid v_sitting v_taken v_served v_hidden v_round v_over v_host v_paidInAll v_lot]) [0] (by decide) rfl
  have hFc := va_free (wc := [oX1 h_this h_hall h_coins h_chairOf h_tired h_hosted h_owed h_paid v_sitting v_taken v_served v_hidden v_round v_over v_host v_paidInAll v_lot]) hD hS hA [0] rfl
  refine va_calli (va_runV (As := [.int x1]) (rest := []) ⟨hx, hb, hml, hown, hts⟩ (mX1_isSeated l dC dI cI cJ cB cZ cF cG h_this h_hall h_coins h_chairOf h_tired h_hosted h_owed h_paid H.size v_sitting v_taken v_served v_hidden v_round v_over v_host v_paidInAll v_lot x1 r_1 ho) (cwV 1 hts (goodV U_627 U_590 U_591 U_27 U_592) rfl rfl rfl (by decide +kernel) ⟨Nat.le_trans (by decide) hR.1, Nat.le_trans (Nat.le_of_ble_eq_true rfl) hR.2⟩) ⟨fun a U g mk q => by obtain ⟨q0, q1, qP, qK, qD⟩ := q; exact ⟨q0, q1, qP, va_K.moved (u := U) (U := U.calling g mk a) (Vm.Alike.refl U.vm) qK, qD⟩, va_recv hK hPc (ci := 1) (q0 := 0) rfl rfl, fun U hU hW => ⟨rfl, by rw [hU], by rw [hU]; exact hPc, va_K.moved hW.alike hK, hDc.weaken (fun _ _ _ _ => trivial)⟩⟩ rfl rfl hl.1 rfl (lv_room (Nat.le_of_ble_eq_true rfl)) dX1_whyNotSit_2 ⟨Nat.zero_le _, Nat.zero_le _⟩) hS (fun q _ h => hFc q h) hFc (fun rz u t H1 locs ht hvm hw hB hz1 hk1 hS => ?_)
  obtain ⟨hP1, hK1, hD1⟩ := hB
  obtain ⟨hw, hz_1⟩ := hw
  have hw := hw.symm; subst hw
  rw [ht] at hP1
  obtain ⟨hP, hD⟩ := va_join (wr := [aI cI h_chairOf 7 v_chairOf]) (w1 := [oX1 h_this h_hall h_coins h_chairOf h_tired h_hosted h_owed h_paid v_sitting v_taken v_served v_hidden v_round v_over v_host v_paidInAll v_lot]) hP hD [0] [1] rfl rfl (by decide) (by decide) hk1 hFc hP1 hD1
  generalize H1 = H at hP hS ⊢
  have hP := hP.sub (ws' := [oX1 h_this h_hall h_coins h_chairOf h_tired h_hosted h_owed h_paid v_sitting v_taken v_served v_hidden v_round v_over v_host v_paidInAll v_lot, aI cI h_chairOf 7 v_chairOf]) [1, 0] rfl
  have hD := hD.sub (ws' := [oX1 h_this h_hall h_coins h_chairOf h_tired h_hosted h_owed h_paid v_sitting v_taken v_served v_hidden v_round v_over v_host v_paidInAll v_lot, aI cI h_chairOf 7 v_chairOf]) [1, 0] (by decide) rfl
  refine lv_if_eq (tgt := 10) hx hb dX1_whyNotSit_5 (by decide) (fun hc => ?_) (fun hc => ?_)
  · have hr := iteP hc hr
    refine lv_aload_n hx hb dX1_whyNotSit_10 rfl (lv_at hl 0 rfl) ?_
    refine va_get (D := (dC, dI)) (ci := 1) (v := .int v_taken) (C := RX1) (T := TX1) (N := 16) hx hb hts (fun w h => List.mem_cons_of_mem _ (inU_1 w h)) hown hK hP 0 rfl rfl 8 (by decide) (hts _ (List.mem_cons_of_mem _ U_442)) (fun _ h9 => h9) rfl dX1_whyNotSit_11 ?_
    refine lv_aload_n hx hb dX1_whyNotSit_14 rfl (lv_at hl 0 rfl) ?_
    refine va_get (D := (dC, dI)) (ci := 1) (v := .ref h_chairOf) (C := RX1) (T := TX1) (N := 16) hx hb hts (fun w h => List.mem_cons_of_mem _ (inU_1 w h)) hown hK hP 0 rfl rfl 2 (by decide) (hts _ (List.mem_cons_of_mem _ U_145)) (fun _ h9 => h9) rfl dX1_whyNotSit_15 ?_
    refine lv_iload_n hx hb dX1_whyNotSit_18 rfl (lv_at hl 1 rfl) ?_
    refine z_pc (pc' := 19) rfl ?_
    obtain ⟨hg, hr⟩ := gI_s hr
    refine z_iald hx hb hK hP 1 0 rfl rfl hg rfl dX1_whyNotSit_19 ?_
    refine lv_ishr hx hb dX1_whyNotSit_20 ?_
    refine lv_iconst (v := 1) hx hb dX1_whyNotSit_21 (by decide) ?_
    refine lv_iand hx hb dX1_whyNotSit_22 ?_
    refine lv_iconst (v := 1) hx hb dX1_whyNotSit_23 (by decide) ?_
    refine lv_icmp_ne (tgt := 29) hx hb dX1_whyNotSit_24 (by decide) (fun hc => ?_) (fun hc => ?_)
    · have hr := iteN hc hr
      refine lv_aload_n hx hb dX1_whyNotSit_29 rfl (lv_at hl 0 rfl) ?_
      refine va_get (D := (dC, dI)) (ci := 1) (v := .int v_hidden) (C := RX1) (T := TX1) (N := 16) hx hb hts (fun w h => List.mem_cons_of_mem _ (inU_1 w h)) hown hK hP 0 rfl rfl 10 (by decide) (hts _ (List.mem_cons_of_mem _ U_444)) (fun _ h9 => h9) rfl dX1_whyNotSit_30 ?_
      refine lv_aload_n hx hb dX1_whyNotSit_33 rfl (lv_at hl 0 rfl) ?_
      refine va_get (D := (dC, dI)) (ci := 1) (v := .ref h_chairOf) (C := RX1) (T := TX1) (N := 16) hx hb hts (fun w h => List.mem_cons_of_mem _ (inU_1 w h)) hown hK hP 0 rfl rfl 2 (by decide) (hts _ (List.mem_cons_of_mem _ U_145)) (fun _ h9 => h9) rfl dX1_whyNotSit_34 ?_
      refine lv_iload_n hx hb dX1_whyNotSit_37 rfl (lv_at hl 1 rfl) ?_
      refine z_pc (pc' := 38) rfl ?_
      obtain ⟨hg, hr⟩ := gI_s hr
      refine z_iald hx hb hK hP 1 0 rfl rfl hg rfl dX1_whyNotSit_38 ?_
      refine lv_ishr hx hb dX1_whyNotSit_39 ?_
      refine lv_iconst (v := 1) hx hb dX1_whyNotSit_40 (by decide) ?_
      refine lv_iand hx hb dX1_whyNotSit_41 ?_
      refine lv_iconst (v := 1) hx hb dX1_whyNotSit_42 (by decide) ?_
      refine lv_icmp_ne (tgt := 50) hx hb dX1_whyNotSit_43 (by decide) (fun hc => ?_) (fun hc => ?_)
      · have hr := iteN hc hr
        refine lv_iconst (v := 0) hx hb dX1_whyNotSit_50 (by decide) ?_
        have q0 := Option.some.inj hr
        subst q0
        exact W.iret (v := 0) hx hb hrt (fun t ht hW => ⟨⟨0, (), rfl, rfl, by rw [ht]; exact hP, va_K.moved hW.alike hK, hD⟩, hS.F ht⟩) hS.2.2 dX1_whyNotSit_51 hlocks
      · have hr := iteP hc hr
        refine lv_iconst (v := 3) hx hb dX1_whyNotSit_46 (by decide) ?_
        refine lv_goto (tgt := 51) hx hb dX1_whyNotSit_47 (by decide) ?_
        have q0 := Option.some.inj hr
        subst q0
        exact W.iret (v := 3) hx hb hrt (fun t ht hW => ⟨⟨3, (), rfl, rfl, by rw [ht]; exact hP, va_K.moved hW.alike hK, hD⟩, hS.F ht⟩) hS.2.2 dX1_whyNotSit_51 hlocks
    · have hr := iteP hc hr
      refine lv_iconst (v := 2) hx hb dX1_whyNotSit_27 (by decide) ?_
      have q0 := Option.some.inj hr
      subst q0
      exact W.iret (v := 2) hx hb hrt (fun t ht hW => ⟨⟨2, (), rfl, rfl, by rw [ht]; exact hP, va_K.moved hW.alike hK, hD⟩, hS.F ht⟩) hS.2.2 dX1_whyNotSit_28 hlocks
  · have hr := iteN hc hr
    refine lv_iconst (v := 1) hx hb dX1_whyNotSit_8 (by decide) ?_
    have q0 := Option.some.inj hr
    subst q0
    exact W.iret (v := 1) hx hb hrt (fun t ht hW => ⟨⟨1, (), rfl, rfl, by rw [ht]; exact hP, va_K.moved hW.alike hK, hD⟩, hS.F ht⟩) hS.2.2 dX1_whyNotSit_9 hlocks
set_option maxHeartbeats 4000000 in
set_option maxRecDepth 100000 in
theorem mX1_whyNotSit (l : Launch) (dC : Nat → ClassId) (dI : Nat → Nat → Nat) (cI cJ cB cZ cF cG : ClassId) (h_this : Nat) (h_chairOf : Nat) (h_hall : Nat) (h_coins : Nat) (h_tired : Nat) (h_hosted : Nat) (h_owed : Nat) (h_paid : Nat) (sz : Nat) (v_sitting : Int32) (v_taken : Int32) (v_served : Int32) (v_hidden : Int32) (v_round : Int32) (v_over : Int32) (v_host : Int32) (v_paidInAll : Int32) (v_lot : Int32) (v_chairOf : Nat → Int32) (x1 : Int32) (o_r : Int32) (hf : fX1_whyNotSit v_sitting v_taken v_hidden v_chairOf x1 = some o_r) : Met l yX1_whyNotSit uX1_whyNotSit ({ frames := 1, cells := 0, slots := 0, locals := 21 }) (va_Pc [.ref h_this, .int x1] (fun U => U.heap.size = sz ∧ va_P (dC, dI) vwCl [oX1 h_this h_hall h_coins h_chairOf h_tired h_hosted h_owed h_paid v_sitting v_taken v_served v_hidden v_round v_over v_host v_paidInAll v_lot, aI cI h_chairOf 7 v_chairOf] U.heap ∧ va_K (dC, dI) vwCl (TYS cI cJ cB cZ cF cG) U ∧ va_D (fun _ => True) [oX1 h_this h_hall h_coins h_chairOf h_tired h_hosted h_owed h_paid v_sitting v_taken v_served v_hidden v_round v_over v_host v_paidInAll v_lot, aI cI h_chairOf 7 v_chairOf])) (PQi dC dI cI cJ cB cZ cF cG (va_A [oX1 h_this h_hall h_coins h_chairOf h_tired h_hosted h_owed h_paid v_sitting v_taken v_served v_hidden v_round v_over v_host v_paidInAll v_lot, aI cI h_chairOf 7 v_chairOf] sz) o_r [oX1 h_this h_hall h_coins h_chairOf h_tired h_hosted h_owed h_paid v_sitting v_taken v_served v_hidden v_round v_over v_host v_paidInAll v_lot, aI cI h_chairOf 7 v_chairOf]) 0 0 (va_A [oX1 h_this h_hall h_coins h_chairOf h_tired h_hosted h_owed h_paid v_sitting v_taken v_served v_hidden v_round v_over v_host v_paidInAll v_lot, aI cI h_chairOf 7 v_chairOf] sz) := by
  refine Met.ofW (cc := cX1_whyNotSit) (maxL := 2) (ret := (some .int)) (by decide) rfl ?_
  intro p e s m args below meth c s₁ B hml hv
  obtain ⟨rfl, hsz, hP, hK, hD0⟩ := hv
  have hx := B.exec
  have hb := B.bytes
  have hr := B.returns
  have hts := atoms_spec (ws := uX1_whyNotSit) B.pre
  have hown : s.vm.findClass RX1 = some m.cls := findClass_of_methodNamed B.named
  have hlocks := B.notSynchronized
  subst hsz
  have hD := hD0.self (sz := s.heap.size)
  generalize hAe : va_A [oX1 h_this h_hall h_coins h_chairOf h_tired h_hosted h_owed h_paid v_sitting v_taken v_served v_hidden v_round v_over v_host v_paidInAll v_lot, aI cI h_chairOf 7 v_chairOf] s.heap.size = A at hD ⊢
  have hA : ∀ q : Nat, s.heap.size ≤ q → A q := fun q h => by rw [← hAe]; exact Or.inr h
  have hS : va_S A s.heap s.heap [] := va_S.rf
  have hl := lv_entry ([.ref h_this, .int x1]) (n := 2) (Nat.le_of_ble_eq_true rfl)
  rw [lg_entry_eq]
  generalize (lg_sl ([.ref h_this, .int x1]) ++ List.replicate (2 - (lg_sl ([.ref h_this, .int x1])).length) Slot.unset).toArray = ls at hl ⊢
  have hl : lv_has ls 2 [(0, .ref h_this), (1, .int x1)] := hl
  exact tX1_whyNotSit hA ⟨hx, hb, hr, hml, hown, hts, hlocks⟩ ⟨Nat.le_refl _, Nat.le_refl _⟩ h_this h_chairOf h_hall h_coins h_tired h_hosted h_owed h_paid v_sitting v_taken v_served v_hidden v_round v_over v_host v_paidInAll v_lot v_chairOf o_r x1 hf _ _ ⟨hK, hP, hD, hS⟩ ls hl
-- LastSeat$Feast.whyNotRise(I)I
def uX1_whyNotRise : List Cond := .code yX1_whyNotRise cX1_whyNotRise 2 (some .int) :: wsU
set_option maxHeartbeats 4000000 in
set_option maxRecDepth 100000 in
theorem tX1_whyNotRise {p : Program} {l : Launch} {e : Env} {R : Room} {s : State} {m : MethodId} {args : Array Value} {below : List Frame} {meth : Method} {c : Code} {dC : Nat → ClassId} {dI : Nat → Nat → Nat} {cI cJ cB cZ cF cG : ClassId} {A : Nat → Prop} (hA : ∀ q : Nat, s.heap.size ≤ q → A q) (C0 : Cx p s m meth c args cX1_whyNotRise 2 (some .int) RX1 uX1_whyNotRise) (hR : 1 ≤ R.frames ∧ 21 ≤ R.locals) (h_this : Nat) (h_hall : Nat) (h_coins : Nat) (h_chairOf : Nat) (h_tired : Nat) (h_hosted : Nat) (h_owed : Nat) (h_paid : Nat) (v_sitting : Int32) (v_taken : Int32) (v_served : Int32) (v_hidden : Int32) (v_round : Int32) (v_over : Int32) (v_host : Int32) (v_paidInAll : Int32) (v_lot : Int32) (o_r : Int32) :
    ∀ (x1 : Int32), fX1_whyNotRise v_sitting x1 = some o_r → ∀ (H : Heap) (locs : List Loc), Wd dC dI cI cJ cB cZ cF cG A s H locs [oX1 h_this h_hall h_coins h_chairOf h_tired h_hosted h_owed h_paid v_sitting v_taken v_served v_hidden v_round v_over v_host v_paidInAll v_lot] → ∀ (ls : Array Slot), lv_has ls 2 [(0, .ref h_this), (1, .int x1)] → W p l e R s m args below meth c H locs 0 0 (MQ below (PQi dC dI cI cJ cB cZ cF cG A o_r [oX1 h_this h_hall h_coins h_chairOf h_tired h_hosted h_owed h_paid v_sitting v_taken v_served v_hidden v_round v_over v_host v_paidInAll v_lot]) args s 0 0 A) (F0 m 0 ls []) := by
  obtain ⟨hx, hb, hrt, hml, hown, hts, hlocks⟩ := id C0
  intro x1 hr H locs hW ls hl
  obtain ⟨hK, hP, hD, hS⟩ := hW
  have hr : ((fX1_isSeated v_sitting x1).bind (fun r_1 => if r_1 = 0 then some 1 else some 0) : Option (Int32)) = some o_r := hr
  refine lv_aload_n hx hb dX1_whyNotRise_0 rfl (lv_at hl 0 rfl) ?_
  refine lv_iload_n hx hb dX1_whyNotRise_1 rfl (lv_at hl 1 rfl) ?_
  obtain ⟨r_1, ho, hr⟩ := bind_s hr
  have hPc := hP.sub (ws' := [oX1 h_this h_hall h_coins h_chairOf h_tired h_hosted h_owed h_paid v_sitting v_taken v_served v_hidden v_round v_over v_host v_paidInAll v_lot]) [0] rfl
  have hDc := hD.sub (ws' := [oX1 h_this h_hall h_coins h_chairOf h_tired h_hosted h_owed h_paid v_sitting v_taken v_served v_hidden v_round v_over v_host v_paidInAll v_lot]) [0] (by decide) rfl
  have hFc := va_free (wc := [oX1 h_this h_hall h_coins h_chairOf h_tired h_hosted h_owed h_paid v_sitting v_taken v_served v_hidden v_round v_over v_host v_paidInAll v_lot]) hD hS hA [0] rfl
  refine va_calli (va_runV (As := [.int x1]) (rest := []) ⟨hx, hb, hml, hown, hts⟩ (mX1_isSeated l dC dI cI cJ cB cZ cF cG h_this h_hall h_coins h_chairOf h_tired h_hosted h_owed h_paid H.size v_sitting v_taken v_served v_hidden v_round v_over v_host v_paidInAll v_lot x1 r_1 ho) (cwV 1 hts (goodV U_627 U_590 U_591 U_27 U_592) rfl rfl rfl (by decide +kernel) ⟨Nat.le_trans (by decide) hR.1, Nat.le_trans (Nat.le_of_ble_eq_true rfl) hR.2⟩) ⟨fun a U g mk q => by obtain ⟨q0, q1, qP, qK, qD⟩ := q; exact ⟨q0, q1, qP, va_K.moved (u := U) (U := U.calling g mk a) (Vm.Alike.refl U.vm) qK, qD⟩, va_recv hK hPc (ci := 1) (q0 := 0) rfl rfl, fun U hU hW => ⟨rfl, by rw [hU], by rw [hU]; exact hPc, va_K.moved hW.alike hK, hDc.weaken (fun _ _ _ _ => trivial)⟩⟩ rfl rfl hl.1 rfl (lv_room (Nat.le_of_ble_eq_true rfl)) dX1_whyNotRise_2 ⟨Nat.zero_le _, Nat.zero_le _⟩) hS (fun q _ h => hFc q h) hFc (fun rz u t H1 locs ht hvm hw hB hz1 hk1 hS => ?_)
  obtain ⟨hP1, hK1, hD1⟩ := hB
  obtain ⟨hw, hz_1⟩ := hw
  have hw := hw.symm; subst hw
  rw [ht] at hP1
  obtain ⟨hP, hD⟩ := va_join (wr := []) (w1 := [oX1 h_this h_hall h_coins h_chairOf h_tired h_hosted h_owed h_paid v_sitting v_taken v_served v_hidden v_round v_over v_host v_paidInAll v_lot]) hP hD [0] [] rfl rfl (by decide) (by decide) hk1 hFc hP1 hD1
  generalize H1 = H at hP hS ⊢
  have hP : va_P (dC, dI) vwCl [oX1 h_this h_hall h_coins h_chairOf h_tired h_hosted h_owed h_paid v_sitting v_taken v_served v_hidden v_round v_over v_host v_paidInAll v_lot] H := hP
  have hD : va_D A [oX1 h_this h_hall h_coins h_chairOf h_tired h_hosted h_owed h_paid v_sitting v_taken v_served v_hidden v_round v_over v_host v_paidInAll v_lot] := hD
  refine lv_if_eq (tgt := 12) hx hb dX1_whyNotRise_5 (by decide) (fun hc => ?_) (fun hc => ?_)
  · have hr := iteP hc hr
    refine lv_iconst (v := 1) hx hb dX1_whyNotRise_12 (by decide) ?_
    have q0 := Option.some.inj hr
    subst q0
    exact W.iret (v := 1) hx hb hrt (fun t ht hW => ⟨⟨1, (), rfl, rfl, by rw [ht]; exact hP, va_K.moved hW.alike hK, hD⟩, hS.F ht⟩) hS.2.2 dX1_whyNotRise_13 hlocks
  · have hr := iteN hc hr
    refine lv_iconst (v := 0) hx hb dX1_whyNotRise_8 (by decide) ?_
    refine lv_goto (tgt := 13) hx hb dX1_whyNotRise_9 (by decide) ?_
    have q0 := Option.some.inj hr
    subst q0
    exact W.iret (v := 0) hx hb hrt (fun t ht hW => ⟨⟨0, (), rfl, rfl, by rw [ht]; exact hP, va_K.moved hW.alike hK, hD⟩, hS.F ht⟩) hS.2.2 dX1_whyNotRise_13 hlocks
set_option maxHeartbeats 4000000 in
set_option maxRecDepth 100000 in
theorem mX1_whyNotRise (l : Launch) (dC : Nat → ClassId) (dI : Nat → Nat → Nat) (cI cJ cB cZ cF cG : ClassId) (h_this : Nat) (h_hall : Nat) (h_coins : Nat) (h_chairOf : Nat) (h_tired : Nat) (h_hosted : Nat) (h_owed : Nat) (h_paid : Nat) (sz : Nat) (v_sitting : Int32) (v_taken : Int32) (v_served : Int32) (v_hidden : Int32) (v_round : Int32) (v_over : Int32) (v_host : Int32) (v_paidInAll : Int32) (v_lot : Int32) (x1 : Int32) (o_r : Int32) (hf : fX1_whyNotRise v_sitting x1 = some o_r) : Met l yX1_whyNotRise uX1_whyNotRise ({ frames := 1, cells := 0, slots := 0, locals := 21 }) (va_Pc [.ref h_this, .int x1] (fun U => U.heap.size = sz ∧ va_P (dC, dI) vwCl [oX1 h_this h_hall h_coins h_chairOf h_tired h_hosted h_owed h_paid v_sitting v_taken v_served v_hidden v_round v_over v_host v_paidInAll v_lot] U.heap ∧ va_K (dC, dI) vwCl (TYS cI cJ cB cZ cF cG) U ∧ va_D (fun _ => True) [oX1 h_this h_hall h_coins h_chairOf h_tired h_hosted h_owed h_paid v_sitting v_taken v_served v_hidden v_round v_over v_host v_paidInAll v_lot])) (PQi dC dI cI cJ cB cZ cF cG (va_A [oX1 h_this h_hall h_coins h_chairOf h_tired h_hosted h_owed h_paid v_sitting v_taken v_served v_hidden v_round v_over v_host v_paidInAll v_lot] sz) o_r [oX1 h_this h_hall h_coins h_chairOf h_tired h_hosted h_owed h_paid v_sitting v_taken v_served v_hidden v_round v_over v_host v_paidInAll v_lot]) 0 0 (va_A [oX1 h_this h_hall h_coins h_chairOf h_tired h_hosted h_owed h_paid v_sitting v_taken v_served v_hidden v_round v_over v_host v_paidInAll v_lot] sz) := by
  refine Met.ofW (cc := cX1_whyNotRise) (maxL := 2) (ret := (some .int)) (by decide) rfl ?_
  intro p e s m args below meth c s₁ B hml hv
  obtain ⟨rfl, hsz, hP, hK, hD0⟩ := hv
  have hx := B.exec
  have hb := B.bytes
  have hr := B.returns
  have hts := atoms_spec (ws := uX1_whyNotRise) B.pre
  have hown : s.vm.findClass RX1 = some m.cls := findClass_of_methodNamed B.named
  have hlocks := B.notSynchronized
  subst hsz
  have hD := hD0.self (sz := s.heap.size)
  generalize hAe : va_A [oX1 h_this h_hall h_coins h_chairOf h_tired h_hosted h_owed h_paid v_sitting v_taken v_served v_hidden v_round v_over v_host v_paidInAll v_lot] s.heap.size = A at hD ⊢
  have hA : ∀ q : Nat, s.heap.size ≤ q → A q := fun q h => by rw [← hAe]; exact Or.inr h
  have hS : va_S A s.heap s.heap [] := va_S.rf
  have hl := lv_entry ([.ref h_this, .int x1]) (n := 2) (Nat.le_of_ble_eq_true rfl)
  rw [lg_entry_eq]
  generalize (lg_sl ([.ref h_this, .int x1]) ++ List.replicate (2 - (lg_sl ([.ref h_this, .int x1])).length) Slot.unset).toArray = ls at hl ⊢
  have hl : lv_has ls 2 [(0, .ref h_this), (1, .int x1)] := hl
  exact tX1_whyNotRise hA ⟨hx, hb, hr, hml, hown, hts, hlocks⟩ ⟨Nat.le_refl _, Nat.le_refl _⟩ h_this h_hall h_coins h_chairOf h_tired h_hosted h_owed h_paid v_sitting v_taken v_served v_hidden v_round v_over v_host v_paidInAll v_lot o_r x1 hf _ _ ⟨hK, hP, hD, hS⟩ ls hl
-- LastSeat$Feast.whyNotServe(I)I
def uX1_whyNotServe : List Cond := .code yX1_whyNotServe cX1_whyNotServe 2 (some .int) :: wsU
set_option maxHeartbeats 4000000 in
set_option maxRecDepth 100000 in
theorem tX1_whyNotServe {p : Program} {l : Launch} {e : Env} {R : Room} {s : State} {m : MethodId} {args : Array Value} {below : List Frame} {meth : Method} {c : Code} {dC : Nat → ClassId} {dI : Nat → Nat → Nat} {cI cJ cB cZ cF cG : ClassId} {A : Nat → Prop} (hA : ∀ q : Nat, s.heap.size ≤ q → A q) (C0 : Cx p s m meth c args cX1_whyNotServe 2 (some .int) RX1 uX1_whyNotServe) (hR : 0 ≤ R.frames ∧ 0 ≤ R.locals) (h_this : Nat) (h_hall : Nat) (h_coins : Nat) (h_chairOf : Nat) (h_tired : Nat) (h_hosted : Nat) (h_owed : Nat) (h_paid : Nat) (v_sitting : Int32) (v_taken : Int32) (v_served : Int32) (v_hidden : Int32) (v_round : Int32) (v_over : Int32) (v_host : Int32) (v_paidInAll : Int32) (v_lot : Int32) (o_r : Int32) :
    ∀ (x1 : Int32), fX1_whyNotServe v_served x1 = some o_r → ∀ (H : Heap) (locs : List Loc), Wd dC dI cI cJ cB cZ cF cG A s H locs [oX1 h_this h_hall h_coins h_chairOf h_tired h_hosted h_owed h_paid v_sitting v_taken v_served v_hidden v_round v_over v_host v_paidInAll v_lot] → ∀ (ls : Array Slot), lv_has ls 2 [(0, .ref h_this), (1, .int x1)] → W p l e R s m args below meth c H locs 0 0 (MQ below (PQi dC dI cI cJ cB cZ cF cG A o_r [oX1 h_this h_hall h_coins h_chairOf h_tired h_hosted h_owed h_paid v_sitting v_taken v_served v_hidden v_round v_over v_host v_paidInAll v_lot]) args s 0 0 A) (F0 m 0 ls []) := by
  obtain ⟨hx, hb, hrt, hml, hown, hts, hlocks⟩ := id C0
  intro x1 hr H locs hW ls hl
  obtain ⟨hK, hP, hD, hS⟩ := hW
  have hr : (if ((v_served >>> (x1 &&& 31)) &&& 1) = 1 then some 1 else some 0 : Option (Int32)) = some o_r := hr
  refine lv_aload_n hx hb dX1_whyNotServe_0 rfl (lv_at hl 0 rfl) ?_
  refine va_get (D := (dC, dI)) (ci := 1) (v := .int v_served) (C := RX1) (T := TX1) (N := 16) hx hb hts (fun w h => List.mem_cons_of_mem _ (inU_1 w h)) hown hK hP 0 rfl rfl 9 (by decide) (hts _ (List.mem_cons_of_mem _ U_443)) (fun _ h9 => h9) rfl dX1_whyNotServe_1 ?_
  refine lv_iload_n hx hb dX1_whyNotServe_4 rfl (lv_at hl 1 rfl) ?_
  refine lv_ishr hx hb dX1_whyNotServe_5 ?_
  refine lv_iconst (v := 1) hx hb dX1_whyNotServe_6 (by decide) ?_
  refine z_pc (pc' := 7) rfl ?_
  refine lv_iand hx hb dX1_whyNotServe_7 ?_
  refine lv_iconst (v := 1) hx hb dX1_whyNotServe_8 (by decide) ?_
  refine lv_icmp_ne (tgt := 16) hx hb dX1_whyNotServe_9 (by decide) (fun hc => ?_) (fun hc => ?_)
  · have hr := iteN hc hr
    refine lv_iconst (v := 0) hx hb dX1_whyNotServe_16 (by decide) ?_
    have q0 := Option.some.inj hr
    subst q0
    exact W.iret (v := 0) hx hb hrt (fun t ht hW => ⟨⟨0, (), rfl, rfl, by rw [ht]; exact hP, va_K.moved hW.alike hK, hD⟩, hS.F ht⟩) hS.2.2 dX1_whyNotServe_17 hlocks
  · have hr := iteP hc hr
    refine lv_iconst (v := 1) hx hb dX1_whyNotServe_12 (by decide) ?_
    refine lv_goto (tgt := 17) hx hb dX1_whyNotServe_13 (by decide) ?_
    have q0 := Option.some.inj hr
    subst q0
    exact W.iret (v := 1) hx hb hrt (fun t ht hW => ⟨⟨1, (), rfl, rfl, by rw [ht]; exact hP, va_K.moved hW.alike hK, hD⟩, hS.F ht⟩) hS.2.2 dX1_whyNotServe_17 hlocks
set_option maxHeartbeats 4000000 in
set_option maxRecDepth 100000 in
theorem mX1_whyNotServe (l : Launch) (dC : Nat → ClassId) (dI : Nat → Nat → Nat) (cI cJ cB cZ cF cG : ClassId) (h_this : Nat) (h_hall : Nat) (h_coins : Nat) (h_chairOf : Nat) (h_tired : Nat) (h_hosted : Nat) (h_owed : Nat) (h_paid : Nat) (sz : Nat) (v_sitting : Int32) (v_taken : Int32) (v_served : Int32) (v_hidden : Int32) (v_round : Int32) (v_over : Int32) (v_host : Int32) (v_paidInAll : Int32) (v_lot : Int32) (x1 : Int32) (o_r : Int32) (hf : fX1_whyNotServe v_served x1 = some o_r) : Met l yX1_whyNotServe uX1_whyNotServe ({ frames := 0, cells := 0, slots := 0, locals := 0 }) (va_Pc [.ref h_this, .int x1] (fun U => U.heap.size = sz ∧ va_P (dC, dI) vwCl [oX1 h_this h_hall h_coins h_chairOf h_tired h_hosted h_owed h_paid v_sitting v_taken v_served v_hidden v_round v_over v_host v_paidInAll v_lot] U.heap ∧ va_K (dC, dI) vwCl (TYS cI cJ cB cZ cF cG) U ∧ va_D (fun _ => True) [oX1 h_this h_hall h_coins h_chairOf h_tired h_hosted h_owed h_paid v_sitting v_taken v_served v_hidden v_round v_over v_host v_paidInAll v_lot])) (PQi dC dI cI cJ cB cZ cF cG (va_A [oX1 h_this h_hall h_coins h_chairOf h_tired h_hosted h_owed h_paid v_sitting v_taken v_served v_hidden v_round v_over v_host v_paidInAll v_lot] sz) o_r [oX1 h_this h_hall h_coins h_chairOf h_tired h_hosted h_owed h_paid v_sitting v_taken v_served v_hidden v_round v_over v_host v_paidInAll v_lot]) 0 0 (va_A [oX1 h_this h_hall h_coins h_chairOf h_tired h_hosted h_owed h_paid v_sitting v_taken v_served v_hidden v_round v_over v_host v_paidInAll v_lot] sz) := by
  refine Met.ofW (cc := cX1_whyNotServe) (maxL := 2) (ret := (some .int)) (by decide) rfl ?_
  intro p e s m args below meth c s₁ B hml hv
  obtain ⟨rfl, hsz, hP, hK, hD0⟩ := hv
  have hx := B.exec
  have hb := B.bytes
  have hr := B.returns
  have hts := atoms_spec (ws := uX1_whyNotServe) B.pre
  have hown : s.vm.findClass RX1 = some m.cls := findClass_of_methodNamed B.named
  have hlocks := B.notSynchronized
  subst hsz
  have hD := hD0.self (sz := s.heap.size)
  generalize hAe : va_A [oX1 h_this h_hall h_coins h_chairOf h_tired h_hosted h_owed h_paid v_sitting v_taken v_served v_hidden v_round v_over v_host v_paidInAll v_lot] s.heap.size = A at hD ⊢
  have hA : ∀ q : Nat, s.heap.size ≤ q → A q := fun q h => by rw [← hAe]; exact Or.inr h
  have hS : va_S A s.heap s.heap [] := va_S.rf
  have hl := lv_entry ([.ref h_this, .int x1]) (n := 2) (Nat.le_of_ble_eq_true rfl)
  rw [lg_entry_eq]
  generalize (lg_sl ([.ref h_this, .int x1]) ++ List.replicate (2 - (lg_sl ([.ref h_this, .int x1])).length) Slot.unset).toArray = ls at hl ⊢
  have hl : lv_has ls 2 [(0, .ref h_this), (1, .int x1)] := hl
  exact tX1_whyNotServe hA ⟨hx, hb, hr, hml, hown, hts, hlocks⟩ ⟨Nat.le_refl _, Nat.le_refl _⟩ h_this h_hall h_coins h_chairOf h_tired h_hosted h_owed h_paid v_sitting v_taken v_served v_hidden v_round v_over v_host v_paidInAll v_lot o_r x1 hf _ _ ⟨hK, hP, hD, hS⟩ ls hl
-- LastSeat$Feast.canStillBeHidden()I
def uX1_canStillBeHidden : List Cond := .code yX1_canStillBeHidden cX1_canStillBeHidden 1 (some .int) :: wsU
set_option maxHeartbeats 4000000 in
set_option maxRecDepth 100000 in
theorem tX1_canStillBeHidden {p : Program} {l : Launch} {e : Env} {R : Room} {s : State} {m : MethodId} {args : Array Value} {below : List Frame} {meth : Method} {c : Code} {dC : Nat → ClassId} {dI : Nat → Nat → Nat} {cI cJ cB cZ cF cG : ClassId} {A : Nat → Prop} (hA : ∀ q : Nat, s.heap.size ≤ q → A q) (C0 : Cx p s m meth c args cX1_canStillBeHidden 1 (some .int) RX1 uX1_canStillBeHidden) (hR : 1 ≤ R.frames ∧ 20 ≤ R.locals) (h_this : Nat) (h_hall : Nat) (h_coins : Nat) (h_chairOf : Nat) (h_tired : Nat) (h_hosted : Nat) (h_owed : Nat) (h_paid : Nat) (h_hall_guestName : Nat) (h_hall_coins : Nat) (h_hall_pride : Nat) (h_hall_speed : Nat) (h_hall_place : Nat) (h_hall_payer : Nat) (h_hall_dishName : Nat) (h_hall_cost : Nat) (v_sitting : Int32) (v_taken : Int32) (v_served : Int32) (v_hidden : Int32) (v_round : Int32) (v_over : Int32) (v_host : Int32) (v_paidInAll : Int32) (v_lot : Int32) (v_hall_chairs : Int32) (v_hall_guests : Int32) (v_hall_dishes : Int32) (o_r : Int32) :
    fX1_canStillBeHidden v_hidden v_hall_chairs v_hall_guests = some o_r → ∀ (H : Heap) (locs : List Loc), Wd dC dI cI cJ cB cZ cF cG A s H locs [oX1 h_this h_hall h_coins h_chairOf h_tired h_hosted h_owed h_paid v_sitting v_taken v_served v_hidden v_round v_over v_host v_paidInAll v_lot, oX2 h_hall h_hall_guestName h_hall_coins h_hall_pride h_hall_speed h_hall_place h_hall_payer h_hall_dishName h_hall_cost v_hall_chairs v_hall_guests v_hall_dishes] → ∀ (ls : Array Slot), lv_has ls 1 [(0, .ref h_this)] → W p l e R s m args below meth c H locs 0 0 (MQ below (PQi dC dI cI cJ cB cZ cF cG A o_r [oX1 h_this h_hall h_coins h_chairOf h_tired h_hosted h_owed h_paid v_sitting v_taken v_served v_hidden v_round v_over v_host v_paidInAll v_lot, oX2 h_hall h_hall_guestName h_hall_coins h_hall_pride h_hall_speed h_hall_place h_hall_payer h_hall_dishName h_hall_cost v_hall_chairs v_hall_guests v_hall_dishes]) args s 0 0 A) (F0 m 0 ls []) := by
  obtain ⟨hx, hb, hrt, hml, hown, hts, hlocks⟩ := id C0
  intro  hr H locs hW ls hl
  obtain ⟨hK, hP, hD, hS⟩ := hW
  have hr : ((fJ6_bitCount_0f7a4 v_hidden).bind (fun r_1 => some ((v_hall_chairs - r_1) - v_hall_guests)) : Option (Int32)) = some o_r := hr
  refine lv_aload_n hx hb dX1_canStillBeHidden_0 rfl (lv_at hl 0 rfl) ?_
  refine va_get (D := (dC, dI)) (ci := 1) (v := .ref h_hall) (C := RX1) (T := TX1) (N := 16) hx hb hts (fun w h => List.mem_cons_of_mem _ (inU_1 w h)) hown hK hP 0 rfl rfl 0 (by decide) (hts _ (List.mem_cons_of_mem _ U_143)) (fun _ h9 => h9) rfl dX1_canStillBeHidden_1 ?_
  refine va_get (D := (dC, dI)) (ci := 2) (v := .int v_hall_chairs) (C := RX2) (T := TX2) (N := 11) hx hb hts (fun w h => List.mem_cons_of_mem _ (inU_2 w h)) hown hK hP 1 rfl rfl 8 (by decide) (hts _ (List.mem_cons_of_mem _ U_792)) (fun _ h9 => h9) rfl dX1_canStillBeHidden_4 ?_
  refine lv_aload_n hx hb dX1_canStillBeHidden_7 rfl (lv_at hl 0 rfl) ?_
  refine va_get (D := (dC, dI)) (ci := 1) (v := .int v_hidden) (C := RX1) (T := TX1) (N := 16) hx hb hts (fun w h => List.mem_cons_of_mem _ (inU_1 w h)) hown hK hP 0 rfl rfl 10 (by decide) (hts _ (List.mem_cons_of_mem _ U_444)) (fun _ h9 => h9) rfl dX1_canStillBeHidden_8 ?_
  refine z_pc (pc' := 11) rfl ?_
  obtain ⟨r_1, ho, hr⟩ := bind_s hr
  have hPc := hP.sub (ws' := []) [] rfl
  have hDc := hD.sub (ws' := []) [] (by decide) rfl
  have hFc := va_free (wc := []) hD hS hA [] rfl
  refine va_calli (va_runS (As := [.int v_hidden]) (rest := [.int v_hall_chairs]) ⟨hx, hb, hml, hown, hts⟩ (mJ6_bitCount_0f7a4 l dC dI cI cJ cB cZ cF cG H.size v_hidden r_1 ho) (va_cwS 1 hts (goodS U_701 U_702 U_703 U_704) rfl rfl rfl (by decide +kernel) ⟨Nat.le_trans (by decide) hR.1, Nat.le_trans (Nat.le_of_ble_eq_true rfl) hR.2⟩) ⟨fun a U g mk q => by obtain ⟨q0, q1, qP, qK, qD⟩ := q; exact ⟨q0, q1, qP, va_K.moved (u := U) (U := U.calling g mk a) (Vm.Alike.refl U.vm) qK, qD⟩, fun U hU hW => ⟨rfl, by rw [hU], by rw [hU]; exact hPc, va_K.moved hW.alike hK, hDc.weaken (fun _ _ _ _ => trivial)⟩⟩ rfl rfl hl.1 rfl (lv_room (Nat.le_of_ble_eq_true rfl)) dX1_canStillBeHidden_11 ⟨Nat.zero_le _, Nat.zero_le _⟩) hS (fun q _ h => hFc q h) hFc (fun rz u t H1 locs ht hvm hw hB hz1 hk1 hS => ?_)
  obtain ⟨hP1, hK1, hD1⟩ := hB
  have hw := hw.symm; subst hw
  rw [ht] at hP1
  obtain ⟨hP, hD⟩ := va_join (wr := [oX1 h_this h_hall h_coins h_chairOf h_tired h_hosted h_owed h_paid v_sitting v_taken v_served v_hidden v_round v_over v_host v_paidInAll v_lot, oX2 h_hall h_hall_guestName h_hall_coins h_hall_pride h_hall_speed h_hall_place h_hall_payer h_hall_dishName h_hall_cost v_hall_chairs v_hall_guests v_hall_dishes]) (w1 := []) hP hD [] [0, 1] rfl rfl (by decide) (by decide) hk1 hFc hP1 hD1
  generalize H1 = H at hP hS ⊢
  have hP : va_P (dC, dI) vwCl [oX1 h_this h_hall h_coins h_chairOf h_tired h_hosted h_owed h_paid v_sitting v_taken v_served v_hidden v_round v_over v_host v_paidInAll v_lot, oX2 h_hall h_hall_guestName h_hall_coins h_hall_pride h_hall_speed h_hall_place h_hall_payer h_hall_dishName h_hall_cost v_hall_chairs v_hall_guests v_hall_dishes] H := hP
  have hD : va_D A [oX1 h_this h_hall h_coins h_chairOf h_tired h_hosted h_owed h_paid v_sitting v_taken v_served v_hidden v_round v_over v_host v_paidInAll v_lot, oX2 h_hall h_hall_guestName h_hall_coins h_hall_pride h_hall_speed h_hall_place h_hall_payer h_hall_dishName h_hall_cost v_hall_chairs v_hall_guests v_hall_dishes] := hD
  refine lv_isub hx hb dX1_canStillBeHidden_14 ?_
  refine lv_aload_n hx hb dX1_canStillBeHidden_15 rfl (lv_at hl 0 rfl) ?_
  refine va_get (D := (dC, dI)) (ci := 1) (v := .ref h_hall) (C := RX1) (T := TX1) (N := 16) hx hb hts (fun w h => List.mem_cons_of_mem _ (inU_1 w h)) hown hK hP 0 rfl rfl 0 (by decide) (hts _ (List.mem_cons_of_mem _ U_143)) (fun _ h9 => h9) rfl dX1_canStillBeHidden_16 ?_
  refine va_get (D := (dC, dI)) (ci := 2) (v := .int v_hall_guests) (C := RX2) (T := TX2) (N := 11) hx hb hts (fun w h => List.mem_cons_of_mem _ (inU_2 w h)) hown hK hP 1 rfl rfl 9 (by decide) (hts _ (List.mem_cons_of_mem _ U_626)) (fun _ h9 => h9) rfl dX1_canStillBeHidden_19 ?_
  refine lv_isub hx hb dX1_canStillBeHidden_22 ?_
  refine z_pc (pc' := 23) rfl ?_
  have q0 := Option.some.inj hr
  subst q0
  exact W.iret (v := ((v_hall_chairs - r_1) - v_hall_guests)) hx hb hrt (fun t ht hW => ⟨⟨((v_hall_chairs - r_1) - v_hall_guests), (), rfl, rfl, by rw [ht]; exact hP, va_K.moved hW.alike hK, hD⟩, hS.F ht⟩) hS.2.2 dX1_canStillBeHidden_23 hlocks
set_option maxHeartbeats 4000000 in
set_option maxRecDepth 100000 in
theorem mX1_canStillBeHidden (l : Launch) (dC : Nat → ClassId) (dI : Nat → Nat → Nat) (cI cJ cB cZ cF cG : ClassId) (h_this : Nat) (h_hall : Nat) (h_coins : Nat) (h_chairOf : Nat) (h_tired : Nat) (h_hosted : Nat) (h_owed : Nat) (h_paid : Nat) (h_hall_guestName : Nat) (h_hall_coins : Nat) (h_hall_pride : Nat) (h_hall_speed : Nat) (h_hall_place : Nat) (h_hall_payer : Nat) (h_hall_dishName : Nat) (h_hall_cost : Nat) (sz : Nat) (v_sitting : Int32) (v_taken : Int32) (v_served : Int32) (v_hidden : Int32) (v_round : Int32) (v_over : Int32) (v_host : Int32) (v_paidInAll : Int32) (v_lot : Int32) (v_hall_chairs : Int32) (v_hall_guests : Int32) (v_hall_dishes : Int32) (o_r : Int32) (hf : fX1_canStillBeHidden v_hidden v_hall_chairs v_hall_guests = some o_r) : Met l yX1_canStillBeHidden uX1_canStillBeHidden ({ frames := 1, cells := 0, slots := 0, locals := 20 }) (va_Pc [.ref h_this] (fun U => U.heap.size = sz ∧ va_P (dC, dI) vwCl [oX1 h_this h_hall h_coins h_chairOf h_tired h_hosted h_owed h_paid v_sitting v_taken v_served v_hidden v_round v_over v_host v_paidInAll v_lot, oX2 h_hall h_hall_guestName h_hall_coins h_hall_pride h_hall_speed h_hall_place h_hall_payer h_hall_dishName h_hall_cost v_hall_chairs v_hall_guests v_hall_dishes] U.heap ∧ va_K (dC, dI) vwCl (TYS cI cJ cB cZ cF cG) U ∧ va_D (fun _ => True) [oX1 h_this h_hall h_coins h_chairOf h_tired h_hosted h_owed h_paid v_sitting v_taken v_served v_hidden v_round v_over v_host v_paidInAll v_lot, oX2 h_hall h_hall_guestName h_hall_coins h_hall_pride h_hall_speed h_hall_place h_hall_payer h_hall_dishName h_hall_cost v_hall_chairs v_hall_guests v_hall_dishes])) (PQi dC dI cI cJ cB cZ cF cG (va_A [oX1 h_this h_hall h_coins h_chairOf h_tired h_hosted h_owed h_paid v_sitting v_taken v_served v_hidden v_round v_over v_host v_paidInAll v_lot, oX2 h_hall h_hall_guestName h_hall_coins h_hall_pride h_hall_speed h_hall_place h_hall_payer h_hall_dishName h_hall_cost v_hall_chairs v_hall_guests v_hall_dishes] sz) o_r [oX1 h_this h_hall h_coins h_chairOf h_tired h_hosted h_owed h_paid v_sitting v_taken v_served v_hidden v_round v_over v_host v_paidInAll v_lot, oX2 h_hall h_hall_guestName h_hall_coins h_hall_pride h_hall_speed h_hall_place h_hall_payer h_hall_dishName h_hall_cost v_hall_chairs v_hall_guests v_hall_dishes]) 0 0 (va_A [oX1 h_this h_hall h_coins h_chairOf h_tired h_hosted h_owed h_paid v_sitting v_taken v_served v_hidden v_round v_over v_host v_paidInAll v_lot, oX2 h_hall h_hall_guestName h_hall_coins h_hall_pride h_hall_speed h_hall_place h_hall_payer h_hall_dishName h_hall_cost v_hall_chairs v_hall_guests v_hall_dishes] sz) := by
  refine Met.ofW (cc := cX1_canStillBeHidden) (maxL := 1) (ret := (some .int)) (by decide) rfl ?_
  intro p e s m args below meth c s₁ B hml hv
  obtain ⟨rfl, hsz, hP, hK, hD0⟩ := hv
  have hx := B.exec
  have hb := B.bytes
  have hr := B.returns
  have hts := atoms_spec (ws := uX1_canStillBeHidden) B.pre
  have hown : s.vm.findClass RX1 = some m.cls := findClass_of_methodNamed B.named
  have hlocks := B.notSynchronized
  subst hsz
  have hD := hD0.self (sz := s.heap.size)
  generalize hAe : va_A [oX1 h_this h_hall h_coins h_chairOf h_tired h_hosted h_owed h_paid v_sitting v_taken v_served v_hidden v_round v_over v_host v_paidInAll v_lot, oX2 h_hall h_hall_guestName h_hall_coins h_hall_pride h_hall_speed h_hall_place h_hall_payer h_hall_dishName h_hall_cost v_hall_chairs v_hall_guests v_hall_dishes] s.heap.size = A at hD ⊢
  have hA : ∀ q : Nat, s.heap.size ≤ q → A q := fun q h => by rw [← hAe]; exact Or.inr h
  have hS : va_S A s.heap s.heap [] := va_S.rf
  have hl := lv_entry ([.ref h_this]) (n := 1) (Nat.le_of_ble_eq_true rfl)
  rw [lg_entry_eq]
  generalize (lg_sl ([.ref h_this]) ++ List.replicate (1 - (lg_sl ([.ref h_this])).length) Slot.unset).toArray = ls at hl ⊢
  have hl : lv_has ls 1 [(0, .ref h_this)] := hl
  exact tX1_canStillBeHidden hA ⟨hx, hb, hr, hml, hown, hts, hlocks⟩ ⟨Nat.le_refl _, Nat.le_refl _⟩ h_this h_hall h_coins h_chairOf h_tired h_hosted h_owed h_paid h_hall_guestName h_hall_coins h_hall_pride h_hall_speed h_hall_place h_hall_payer h_hall_dishName h_hall_cost v_sitting v_taken v_served v_hidden v_round v_over v_host v_paidInAll v_lot v_hall_chairs v_hall_guests v_hall_dishes o_r hf _ _ ⟨hK, hP, hD, hS⟩ ls hl
-- LastSeat$Feast.whyNotHide(I)I
def uX1_whyNotHide : List Cond := .code yX1_whyNotHide cX1_whyNotHide 2 (some .int) :: wsU
set_option maxHeartbeats 4000000 in
set_option maxRecDepth 100000 in
theorem tX1_whyNotHide {p : Program} {l : Launch} {e : Env} {R : Room} {s : State} {m : MethodId} {args : Array Value} {below : List Frame} {meth : Method} {c : Code} {dC : Nat → ClassId} {dI : Nat → Nat → Nat} {cI cJ cB cZ cF cG : ClassId} {A : Nat → Prop} (hA : ∀ q : Nat, s.heap.size ≤ q → A q) (C0 : Cx p s m meth c args cX1_whyNotHide 2 (some .int) RX1 uX1_whyNotHide) (hR : 2 ≤ R.frames ∧ 40 ≤ R.locals) (h_this : Nat) (h_hall : Nat) (h_coins : Nat) (h_chairOf : Nat) (h_tired : Nat) (h_hosted : Nat) (h_owed : Nat) (h_paid : Nat) (h_hall_guestName : Nat) (h_hall_coins : Nat) (h_hall_pride : Nat) (h_hall_speed : Nat) (h_hall_place : Nat) (h_hall_payer : Nat) (h_hall_dishName : Nat) (h_hall_cost : Nat) (v_sitting : Int32) (v_taken : Int32) (v_served : Int32) (v_hidden : Int32) (v_round : Int32) (v_over : Int32) (v_host : Int32) (v_paidInAll : Int32) (v_lot : Int32) (v_hall_chairs : Int32) (v_hall_guests : Int32) (v_hall_dishes : Int32) (o_r : Int32) :
    ∀ (x1 : Int32), fX1_whyNotHide v_taken v_hidden v_hall_chairs v_hall_guests x1 = some o_r → ∀ (H : Heap) (locs : List Loc), Wd dC dI cI cJ cB cZ cF cG A s H locs [oX1 h_this h_hall h_coins h_chairOf h_tired h_hosted h_owed h_paid v_sitting v_taken v_served v_hidden v_round v_over v_host v_paidInAll v_lot, oX2 h_hall h_hall_guestName h_hall_coins h_hall_pride h_hall_speed h_hall_place h_hall_payer h_hall_dishName h_hall_cost v_hall_chairs v_hall_guests v_hall_dishes] → ∀ (ls : Array Slot), lv_has ls 2 [(0, .ref h_this), (1, .int x1)] → W p l e R s m args below meth c H locs 0 0 (MQ below (PQi dC dI cI cJ cB cZ cF cG A o_r [oX1 h_this h_hall h_coins h_chairOf h_tired h_hosted h_owed h_paid v_sitting v_taken v_served v_hidden v_round v_over v_host v_paidInAll v_lot, oX2 h_hall h_hall_guestName h_hall_coins h_hall_pride h_hall_speed h_hall_place h_hall_payer h_hall_dishName h_hall_cost v_hall_chairs v_hall_guests v_hall_dishes]) args s 0 0 A) (F0 m 0 ls []) := by
  obtain ⟨hx, hb, hrt, hml, hown, hts, hlocks⟩ := id C0
  intro x1 hr H locs hW ls hl
  obtain ⟨hK, hP, hD, hS⟩ := hW
  have hr : ((fX2_hasChair v_hall_chairs x1).bind (fun r_1 => if r_1 = 0 then some 1 else if ((v_hidden >>> (x1 &&& 31)) &&& 1) = 1 then some 2 else if ((v_taken >>> (x1 &&& 31)) &&& 1) = 1 then some 3 else (fX1_canStillBeHidden v_hidden v_hall_chairs v_hall_guests).bind (fun r_2 => if 1 ≤ r_2 then some 0 else some 4)) : Option (Int32)) = some o_r := hr
  refine lv_aload_n hx hb dX1_whyNotHide_0 rfl (lv_at hl 0 rfl) ?_
  refine va_get (D := (dC, dI)) (ci := 1) (v := .ref h_hall) (C := RX1) (T := TX1) (N := 16) hx hb hts (fun w h => List.mem_cons_of_mem _ (inU_1 w h)) hown hK hP 0 rfl rfl 0 (by decide) (hts _ (List.mem_cons_of_mem _ U_143)) (fun _ h9 => h9) rfl dX1_whyNotHide_1 ?_
  refine lv_iload_n hx hb dX1_whyNotHide_4 rfl (lv_at hl 1 rfl) ?_
  obtain ⟨r_1, ho, hr⟩ := bind_s hr
  have hPc := hP.sub (ws' := [oX2 h_hall h_hall_guestName h_hall_coins h_hall_pride h_hall_speed h_hall_place h_hall_payer h_hall_dishName h_hall_cost v_hall_chairs v_hall_guests v_hall_dishes]) [1] rfl
  have hDc := hD.sub (ws' := [oX2 h_hall h_hall_guestName h_hall_coins h_hall_pride h_hall_speed h_hall_place h_hall_payer h_hall_dishName h_hall_cost v_hall_chairs v_hall_guests v_hall_dishes]) [1] (by decide) rfl
  have hFc := va_free (wc := [oX2 h_hall h_hall_guestName h_hall_coins h_hall_pride h_hall_speed h_hall_place h_hall_payer h_hall_dishName h_hall_cost v_hall_chairs v_hall_guests v_hall_dishes]) hD hS hA [1] rfl
  refine va_calli (va_runV (As := [.int x1]) (rest := []) ⟨hx, hb, hml, hown, hts⟩ (mX2_hasChair l dC dI cI cJ cB cZ cF cG h_hall h_hall_guestName h_hall_coins h_hall_pride h_hall_speed h_hall_place h_hall_payer h_hall_dishName h_hall_cost H.size v_hall_chairs v_hall_guests v_hall_dishes x1 r_1 ho) (cwV 1 hts (goodV U_787 U_619 U_620 U_23 U_621) rfl rfl rfl (by decide +kernel) ⟨Nat.le_trans (by decide) hR.1, Nat.le_trans (Nat.le_of_ble_eq_true rfl) hR.2⟩) ⟨fun a U g mk q => by obtain ⟨q0, q1, qP, qK, qD⟩ := q; exact ⟨q0, q1, qP, va_K.moved (u := U) (U := U.calling g mk a) (Vm.Alike.refl U.vm) qK, qD⟩, va_recv hK hPc (ci := 2) (q0 := 0) rfl rfl, fun U hU hW => ⟨rfl, by rw [hU], by rw [hU]; exact hPc, va_K.moved hW.alike hK, hDc.weaken (fun _ _ _ _ => trivial)⟩⟩ rfl rfl hl.1 rfl (lv_room (Nat.le_of_ble_eq_true rfl)) dX1_whyNotHide_5 ⟨Nat.zero_le _, Nat.zero_le _⟩) hS (fun q _ h => hFc q h) hFc (fun rz u t H1 locs ht hvm hw hB hz1 hk1 hS => ?_)
  obtain ⟨hP1, hK1, hD1⟩ := hB
  obtain ⟨hw, hz_1⟩ := hw
  have hw := hw.symm; subst hw
  rw [ht] at hP1
  obtain ⟨hP, hD⟩ := va_join (wr := [oX1 h_this h_hall h_coins h_chairOf h_tired h_hosted h_owed h_paid v_sitting v_taken v_served v_hidden v_round v_over v_host v_paidInAll v_lot]) (w1 := [oX2 h_hall h_hall_guestName h_hall_coins h_hall_pride h_hall_speed h_hall_place h_hall_payer h_hall_dishName h_hall_cost v_hall_chairs v_hall_guests v_hall_dishes]) hP hD [1] [0] rfl rfl (by decide) (by decide) hk1 hFc hP1 hD1
  generalize H1 = H at hP hS ⊢
  have hP : va_P (dC, dI) vwCl [oX1 h_this h_hall h_coins h_chairOf h_tired h_hosted h_owed h_paid v_sitting v_taken v_served v_hidden v_round v_over v_host v_paidInAll v_lot, oX2 h_hall h_hall_guestName h_hall_coins h_hall_pride h_hall_speed h_hall_place h_hall_payer h_hall_dishName h_hall_cost v_hall_chairs v_hall_guests v_hall_dishes] H := hP
  have hD : va_D A [oX1 h_this h_hall h_coins h_chairOf h_tired h_hosted h_owed h_paid v_sitting v_taken v_served v_hidden v_round v_over v_host v_paidInAll v_lot, oX2 h_hall h_hall_guestName h_hall_coins h_hall_pride h_hall_speed h_hall_place h_hall_payer h_hall_dishName h_hall_cost v_hall_chairs v_hall_guests v_hall_dishes] := hD
  refine lv_if_ne (tgt := 13) hx hb dX1_whyNotHide_8 (by decide) (fun hc => ?_) (fun hc => ?_)
  · have hr := iteN hc hr
    refine lv_aload_n hx hb dX1_whyNotHide_13 rfl (lv_at hl 0 rfl) ?_
    refine va_get (D := (dC, dI)) (ci := 1) (v := .int v_hidden) (C := RX1) (T := TX1) (N := 16) hx hb hts (fun w h => List.mem_cons_of_mem _ (inU_1 w h)) hown hK hP 0 rfl rfl 10 (by decide) (hts _ (List.mem_cons_of_mem _ U_444)) (fun _ h9 => h9) rfl dX1_whyNotHide_14 ?_
    refine lv_iload_n hx hb dX1_whyNotHide_17 rfl (lv_at hl 1 rfl) ?_
    refine lv_ishr hx hb dX1_whyNotHide_18 ?_
    refine lv_iconst (v := 1) hx hb dX1_whyNotHide_19 (by decide) ?_
    refine z_pc (pc' := 20) rfl ?_
    refine lv_iand hx hb dX1_whyNotHide_20 ?_
    refine lv_iconst (v := 1) hx hb dX1_whyNotHide_21 (by decide) ?_
    refine lv_icmp_ne (tgt := 27) hx hb dX1_whyNotHide_22 (by decide) (fun hc => ?_) (fun hc => ?_)
    · have hr := iteN hc hr
      refine lv_aload_n hx hb dX1_whyNotHide_27 rfl (lv_at hl 0 rfl) ?_
      refine va_get (D := (dC, dI)) (ci := 1) (v := .int v_taken) (C := RX1) (T := TX1) (N := 16) hx hb hts (fun w h => List.mem_cons_of_mem _ (inU_1 w h)) hown hK hP 0 rfl rfl 8 (by decide) (hts _ (List.mem_cons_of_mem _ U_442)) (fun _ h9 => h9) rfl dX1_whyNotHide_28 ?_
      refine lv_iload_n hx hb dX1_whyNotHide_31 rfl (lv_at hl 1 rfl) ?_
      refine lv_ishr hx hb dX1_whyNotHide_32 ?_
      refine lv_iconst (v := 1) hx hb dX1_whyNotHide_33 (by decide) ?_
      refine z_pc (pc' := 34) rfl ?_
      refine lv_iand hx hb dX1_whyNotHide_34 ?_
      refine lv_iconst (v := 1) hx hb dX1_whyNotHide_35 (by decide) ?_
      refine lv_icmp_ne (tgt := 41) hx hb dX1_whyNotHide_36 (by decide) (fun hc => ?_) (fun hc => ?_)
      · have hr := iteN hc hr
        refine lv_aload_n hx hb dX1_whyNotHide_41 rfl (lv_at hl 0 rfl) ?_
        obtain ⟨r_2, ho, hr⟩ := bind_s hr
        have hPc := hP.sub (ws' := [oX1 h_this h_hall h_coins h_chairOf h_tired h_hosted h_owed h_paid v_sitting v_taken v_served v_hidden v_round v_over v_host v_paidInAll v_lot, oX2 h_hall h_hall_guestName h_hall_coins h_hall_pride h_hall_speed h_hall_place h_hall_payer h_hall_dishName h_hall_cost v_hall_chairs v_hall_guests v_hall_dishes]) [0, 1] rfl
        have hDc := hD.sub (ws' := [oX1 h_this h_hall h_coins h_chairOf h_tired h_hosted h_owed h_paid v_sitting v_taken v_served v_hidden v_round v_over v_host v_paidInAll v_lot, oX2 h_hall h_hall_guestName h_hall_coins h_hall_pride h_hall_speed h_hall_place h_hall_payer h_hall_dishName h_hall_cost v_hall_chairs v_hall_guests v_hall_dishes]) [0, 1] (by decide) rfl
        have hFc := va_free (wc := [oX1 h_this h_hall h_coins h_chairOf h_tired h_hosted h_owed h_paid v_sitting v_taken v_served v_hidden v_round v_over v_host v_paidInAll v_lot, oX2 h_hall h_hall_guestName h_hall_coins h_hall_pride h_hall_speed h_hall_place h_hall_payer h_hall_dishName h_hall_cost v_hall_chairs v_hall_guests v_hall_dishes]) hD hS hA [0, 1] rfl
        refine va_calli (va_runV (As := []) (rest := []) ⟨hx, hb, hml, hown, hts⟩ (mX1_canStillBeHidden l dC dI cI cJ cB cZ cF cG h_this h_hall h_coins h_chairOf h_tired h_hosted h_owed h_paid h_hall_guestName h_hall_coins h_hall_pride h_hall_speed h_hall_place h_hall_payer h_hall_dishName h_hall_cost H.size v_sitting v_taken v_served v_hidden v_round v_over v_host v_paidInAll v_lot v_hall_chairs v_hall_guests v_hall_dishes r_2 ho) (cwV 0 hts (goodV U_788 U_789 U_790 U_27 U_791) rfl rfl rfl (by decide +kernel) ⟨Nat.le_trans (by decide) hR.1, Nat.le_trans (Nat.le_of_ble_eq_true rfl) hR.2⟩) ⟨fun a U g mk q => by obtain ⟨q0, q1, qP, qK, qD⟩ := q; exact ⟨q0, q1, qP, va_K.moved (u := U) (U := U.calling g mk a) (Vm.Alike.refl U.vm) qK, qD⟩, va_recv hK hPc (ci := 1) (q0 := 0) rfl rfl, fun U hU hW => ⟨rfl, by rw [hU], by rw [hU]; exact hPc, va_K.moved hW.alike hK, hDc.weaken (fun _ _ _ _ => trivial)⟩⟩ rfl rfl hl.1 rfl (lv_room (Nat.le_of_ble_eq_true rfl)) dX1_whyNotHide_42 ⟨Nat.zero_le _, Nat.zero_le _⟩) hS (fun q _ h => hFc q h) hFc (fun rz u t H1 locs ht hvm hw hB hz1 hk1 hS => ?_)
        obtain ⟨hP1, hK1, hD1⟩ := hB
        have hw := hw.symm; subst hw
        rw [ht] at hP1
        obtain ⟨hP, hD⟩ := va_join (wr := []) (w1 := [oX1 h_this h_hall h_coins h_chairOf h_tired h_hosted h_owed h_paid v_sitting v_taken v_served v_hidden v_round v_over v_host v_paidInAll v_lot, oX2 h_hall h_hall_guestName h_hall_coins h_hall_pride h_hall_speed h_hall_place h_hall_payer h_hall_dishName h_hall_cost v_hall_chairs v_hall_guests v_hall_dishes]) hP hD [0, 1] [] rfl rfl (by decide) (by decide) hk1 hFc hP1 hD1
        generalize H1 = H at hP hS ⊢
        have hP : va_P (dC, dI) vwCl [oX1 h_this h_hall h_coins h_chairOf h_tired h_hosted h_owed h_paid v_sitting v_taken v_served v_hidden v_round v_over v_host v_paidInAll v_lot, oX2 h_hall h_hall_guestName h_hall_coins h_hall_pride h_hall_speed h_hall_place h_hall_payer h_hall_dishName h_hall_cost v_hall_chairs v_hall_guests v_hall_dishes] H := hP
        have hD : va_D A [oX1 h_this h_hall h_coins h_chairOf h_tired h_hosted h_owed h_paid v_sitting v_taken v_served v_hidden v_round v_over v_host v_paidInAll v_lot, oX2 h_hall h_hall_guestName h_hall_coins h_hall_pride h_hall_speed h_hall_place h_hall_payer h_hall_dishName h_hall_cost v_hall_chairs v_hall_guests v_hall_dishes] := hD
        refine lv_iconst (v := 1) hx hb dX1_whyNotHide_45 (by decide) ?_
        refine lv_icmp_ge (tgt := 53) hx hb dX1_whyNotHide_46 (by decide) (fun hc => ?_) (fun hc => ?_)
        · have hr := iteP hc hr
          refine lv_iconst (v := 0) hx hb dX1_whyNotHide_53 (by decide) ?_
          have q0 := Option.some.inj hr
          subst q0
          exact W.iret (v := 0) hx hb hrt (fun t ht hW => ⟨⟨0, (), rfl, rfl, by rw [ht]; exact hP, va_K.moved hW.alike hK, hD⟩, hS.F ht⟩) hS.2.2 dX1_whyNotHide_54 hlocks
        · have hr := iteN hc hr
          refine lv_iconst (v := 4) hx hb dX1_whyNotHide_49 (by decide) ?_
          refine lv_goto (tgt := 54) hx hb dX1_whyNotHide_50 (by decide) ?_
          have q0 := Option.some.inj hr
          subst q0
          exact W.iret (v := 4) hx hb hrt (fun t ht hW => ⟨⟨4, (), rfl, rfl, by rw [ht]; exact hP, va_K.moved hW.alike hK, hD⟩, hS.F ht⟩) hS.2.2 dX1_whyNotHide_54 hlocks
      · have hr := iteP hc hr
        refine lv_iconst (v := 3) hx hb dX1_whyNotHide_39 (by decide) ?_
        have q0 := Option.some.inj hr
        subst q0
        exact W.iret (v := 3) hx hb hrt (fun t ht hW => ⟨⟨3, (), rfl, rfl, by rw [ht]; exact hP, va_K.moved hW.alike hK, hD⟩, hS.F ht⟩) hS.2.2 dX1_whyNotHide_40 hlocks
    · have hr := iteP hc hr
      refine lv_iconst (v := 2) hx hb dX1_whyNotHide_25 (by decide) ?_
      have q0 := Option.some.inj hr
      subst q0
      exact W.iret (v := 2) hx hb hrt (fun t ht hW => ⟨⟨2, (), rfl, rfl, by rw [ht]; exact hP, va_K.moved hW.alike hK, hD⟩, hS.F ht⟩) hS.2.2 dX1_whyNotHide_26 hlocks
  · have hr := iteP hc hr
    refine lv_iconst (v := 1) hx hb dX1_whyNotHide_11 (by decide) ?_
    have q0 := Option.some.inj hr
    subst q0
    exact W.iret (v := 1) hx hb hrt (fun t ht hW => ⟨⟨1, (), rfl, rfl, by rw [ht]; exact hP, va_K.moved hW.alike hK, hD⟩, hS.F ht⟩) hS.2.2 dX1_whyNotHide_12 hlocks
set_option maxHeartbeats 4000000 in
set_option maxRecDepth 100000 in
theorem mX1_whyNotHide (l : Launch) (dC : Nat → ClassId) (dI : Nat → Nat → Nat) (cI cJ cB cZ cF cG : ClassId) (h_this : Nat) (h_hall : Nat) (h_coins : Nat) (h_chairOf : Nat) (h_tired : Nat) (h_hosted : Nat) (h_owed : Nat) (h_paid : Nat) (h_hall_guestName : Nat) (h_hall_coins : Nat) (h_hall_pride : Nat) (h_hall_speed : Nat) (h_hall_place : Nat) (h_hall_payer : Nat) (h_hall_dishName : Nat) (h_hall_cost : Nat) (sz : Nat) (v_sitting : Int32) (v_taken : Int32) (v_served : Int32) (v_hidden : Int32) (v_round : Int32) (v_over : Int32) (v_host : Int32) (v_paidInAll : Int32) (v_lot : Int32) (v_hall_chairs : Int32) (v_hall_guests : Int32) (v_hall_dishes : Int32) (x1 : Int32) (o_r : Int32) (hf : fX1_whyNotHide v_taken v_hidden v_hall_chairs v_hall_guests x1 = some o_r) : Met l yX1_whyNotHide uX1_whyNotHide ({ frames := 2, cells := 0, slots := 0, locals := 40 }) (va_Pc [.ref h_this, .int x1] (fun U => U.heap.size = sz ∧ va_P (dC, dI) vwCl [oX1 h_this h_hall h_coins h_chairOf h_tired h_hosted h_owed h_paid v_sitting v_taken v_served v_hidden v_round v_over v_host v_paidInAll v_lot, oX2 h_hall h_hall_guestName h_hall_coins h_hall_pride h_hall_speed h_hall_place h_hall_payer h_hall_dishName h_hall_cost v_hall_chairs v_hall_guests v_hall_dishes] U.heap ∧ va_K (dC, dI) vwCl (TYS cI cJ cB cZ cF cG) U ∧ va_D (fun _ => True) [oX1 h_this h_hall h_coins h_chairOf h_tired h_hosted h_owed h_paid v_sitting v_taken v_served v_hidden v_round v_over v_host v_paidInAll v_lot, oX2 h_hall h_hall_guestName h_hall_coins h_hall_pride h_hall_speed h_hall_place h_hall_payer h_hall_dishName h_hall_cost v_hall_chairs v_hall_guests v_hall_dishes])) (PQi dC dI cI cJ cB cZ cF cG (va_A [oX1 h_this h_hall h_coins h_chairOf h_tired h_hosted h_owed h_paid v_sitting v_taken v_served v_hidden v_round v_over v_host v_paidInAll v_lot, oX2 h_hall h_hall_guestName h_hall_coins h_hall_pride h_hall_speed h_hall_place h_hall_payer h_hall_dishName h_hall_cost v_hall_chairs v_hall_guests v_hall_dishes] sz) o_r [oX1 h_this h_hall h_coins h_chairOf h_tired h_hosted h_owed h_paid v_sitting v_taken v_served v_hidden v_round v_over v_host v_paidInAll v_lot, oX2 h_hall h_hall_guestName h_hall_coins h_hall_pride h_hall_speed h_hall_place h_hall_payer h_hall_dishName h_hall_cost v_hall_chairs v_hall_guests v_hall_dishes]) 0 0 (va_A [oX1 h_this h_hall h_coins h_chairOf h_tired h_hosted h_owed h_paid v_sitting v_taken v_served v_hidden v_round v_over v_host v_paidInAll v_lot, oX2 h_hall h_hall_guestName h_hall_coins h_hall_pride h_hall_speed h_hall_place h_hall_payer h_hall_dishName h_hall_cost v_hall_chairs v_hall_guests v_hall_dishes] sz) := by
  refine Met.ofW (cc := cX1_whyNotHide) (maxL := 2) (ret := (some .int)) (by decide) rfl ?_
  intro p e s m args below meth c s₁ B hml hv
  obtain ⟨rfl, hsz, hP, hK, hD0⟩ := hv
  have hx := B.exec
  have hb := B.bytes
  have hr := B.returns
  have hts := atoms_spec (ws := uX1_whyNotHide) B.pre
  have hown : s.vm.findClass RX1 = some m.cls := findClass_of_methodNamed B.named
  have hlocks := B.notSynchronized
  subst hsz
  have hD := hD0.self (sz := s.heap.size)
  generalize hAe : va_A [oX1 h_this h_hall h_coins h_chairOf h_tired h_hosted h_owed h_paid v_sitting v_taken v_served v_hidden v_round v_over v_host v_paidInAll v_lot, oX2 h_hall h_hall_guestName h_hall_coins h_hall_pride h_hall_speed h_hall_place h_hall_payer h_hall_dishName h_hall_cost v_hall_chairs v_hall_guests v_hall_dishes] s.heap.size = A at hD ⊢
  have hA : ∀ q : Nat, s.heap.size ≤ q → A q := fun q h => by rw [← hAe]; exact Or.inr h
  have hS : va_S A s.heap s.heap [] := va_S.rf
  have hl := lv_entry ([.ref h_this, .int x1]) (n := 2) (Nat.le_of_ble_eq_true rfl)
  rw [lg_entry_eq]
  generalize (lg_sl ([.ref h_this, .int x1]) ++ List.replicate (2 - (lg_sl ([.ref h_this, .int x1])).length) Slot.unset).toArray = ls at hl ⊢
  have hl : lv_has ls 2 [(0, .ref h_this), (1, .int x1)] := hl
  exact tX1_whyNotHide hA ⟨hx, hb, hr, hml, hown, hts, hlocks⟩ ⟨Nat.le_refl _, Nat.le_refl _⟩ h_this h_hall h_coins h_chairOf h_tired h_hosted h_owed h_paid h_hall_guestName h_hall_coins h_hall_pride h_hall_speed h_hall_place h_hall_payer h_hall_dishName h_hall_cost v_sitting v_taken v_served v_hidden v_round v_over v_host v_paidInAll v_lot v_hall_chairs v_hall_guests v_hall_dishes o_r x1 hf _ _ ⟨hK, hP, hD, hS⟩ ls hl
-- LastSeat$Feast.whyNotShow(I)I
def uX1_whyNotShow : List Cond := .code yX1_whyNotShow cX1_whyNotShow 2 (some .int) :: wsU
set_option maxHeartbeats 4000000 in
set_option maxRecDepth 100000 in
theorem tX1_whyNotShow {p : Program} {l : Launch} {e : Env} {R : Room} {s : State} {m : MethodId} {args : Array Value} {below : List Frame} {meth : Method} {c : Code} {dC : Nat → ClassId} {dI : Nat → Nat → Nat} {cI cJ cB cZ cF cG : ClassId} {A : Nat → Prop} (hA : ∀ q : Nat, s.heap.size ≤ q → A q) (C0 : Cx p s m meth c args cX1_whyNotShow 2 (some .int) RX1 uX1_whyNotShow) (hR : 1 ≤ R.frames ∧ 21 ≤ R.locals) (h_this : Nat) (h_hall : Nat) (h_coins : Nat) (h_chairOf : Nat) (h_tired : Nat) (h_hosted : Nat) (h_owed : Nat) (h_paid : Nat) (h_hall_guestName : Nat) (h_hall_coins : Nat) (h_hall_pride : Nat) (h_hall_speed : Nat) (h_hall_place : Nat) (h_hall_payer : Nat) (h_hall_dishName : Nat) (h_hall_cost : Nat) (v_sitting : Int32) (v_taken : Int32) (v_served : Int32) (v_hidden : Int32) (v_round : Int32) (v_over : Int32) (v_host : Int32) (v_paidInAll : Int32) (v_lot : Int32) (v_hall_chairs : Int32) (v_hall_guests : Int32) (v_hall_dishes : Int32) (o_r : Int32) :
    ∀ (x1 : Int32), fX1_whyNotShow v_hidden v_hall_chairs x1 = some o_r → ∀ (H : Heap) (locs : List Loc), Wd dC dI cI cJ cB cZ cF cG A s H locs [oX1 h_this h_hall h_coins h_chairOf h_tired h_hosted h_owed h_paid v_sitting v_taken v_served v_hidden v_round v_over v_host v_paidInAll v_lot, oX2 h_hall h_hall_guestName h_hall_coins h_hall_pride h_hall_speed h_hall_place h_hall_payer h_hall_dishName h_hall_cost v_hall_chairs v_hall_guests v_hall_dishes] → ∀ (ls : Array Slot), lv_has ls 2 [(0, .ref h_this), (1, .int x1)] → W p l e R s m args below meth c H locs 0 0 (MQ below (PQi dC dI cI cJ cB cZ cF cG A o_r [oX1 h_this h_hall h_coins h_chairOf h_tired h_hosted h_owed h_paid v_sitting v_taken v_served v_hidden v_round v_over v_host v_paidInAll v_lot, oX2 h_hall h_hall_guestName h_hall_coins h_hall_pride h_hall_speed h_hall_place h_hall_payer h_hall_dishName h_hall_cost v_hall_chairs v_hall_guests v_hall_dishes]) args s 0 0 A) (F0 m 0 ls []) := by
  obtain ⟨hx, hb, hrt, hml, hown, hts, hlocks⟩ := id C0
  intro x1 hr H locs hW ls hl
  obtain ⟨hK, hP, hD, hS⟩ := hW
  have hr : ((fX2_hasChair v_hall_chairs x1).bind (fun r_1 => if r_1 = 0 then some 1 else if ((v_hidden >>> (x1 &&& 31)) &&& 1) = 1 then some 0 else some 2) : Option (Int32)) = some o_r := hr
  refine lv_aload_n hx hb dX1_whyNotShow_0 rfl (lv_at hl 0 rfl) ?_
  refine va_get (D := (dC, dI)) (ci := 1) (v := .ref h_hall) (C := RX1) (T := TX1) (N := 16) hx hb hts (fun w h => List.mem_cons_of_mem _ (inU_1 w h)) hown hK hP 0 rfl rfl 0 (by decide) (hts _ (List.mem_cons_of_mem _ U_143)) (fun _ h9 => h9) rfl dX1_whyNotShow_1 ?_
  refine lv_iload_n hx hb dX1_whyNotShow_4 rfl (lv_at hl 1 rfl) ?_
  obtain ⟨r_1, ho, hr⟩ := bind_s hr
  have hPc := hP.sub (ws' := [oX2 h_hall h_hall_guestName h_hall_coins h_hall_pride h_hall_speed h_hall_place h_hall_payer h_hall_dishName h_hall_cost v_hall_chairs v_hall_guests v_hall_dishes]) [1] rfl
  have hDc := hD.sub (ws' := [oX2 h_hall h_hall_guestName h_hall_coins h_hall_pride h_hall_speed h_hall_place h_hall_payer h_hall_dishName h_hall_cost v_hall_chairs v_hall_guests v_hall_dishes]) [1] (by decide) rfl
  have hFc := va_free (wc := [oX2 h_hall h_hall_guestName h_hall_coins h_hall_pride h_hall_speed h_hall_place h_hall_payer h_hall_dishName h_hall_cost v_hall_chairs v_hall_guests v_hall_dishes]) hD hS hA [1] rfl
  refine va_calli (va_runV (As := [.int x1]) (rest := []) ⟨hx, hb, hml, hown, hts⟩ (mX2_hasChair l dC dI cI cJ cB cZ cF cG h_hall h_hall_guestName h_hall_coins h_hall_pride h_hall_speed h_hall_place h_hall_payer h_hall_dishName h_hall_cost H.size v_hall_chairs v_hall_guests v_hall_dishes x1 r_1 ho) (cwV 1 hts (goodV U_787 U_619 U_620 U_23 U_621) rfl rfl rfl (by decide +kernel) ⟨Nat.le_trans (by decide) hR.1, Nat.le_trans (Nat.le_of_ble_eq_true rfl) hR.2⟩) ⟨fun a U g mk q => by obtain ⟨q0, q1, qP, qK, qD⟩ := q; exact ⟨q0, q1, qP, va_K.moved (u := U) (U := U.calling g mk a) (Vm.Alike.refl U.vm) qK, qD⟩, va_recv hK hPc (ci := 2) (q0 := 0) rfl rfl, fun U hU hW => ⟨rfl, by rw [hU], by rw [hU]; exact hPc, va_K.moved hW.alike hK, hDc.weaken (fun _ _ _ _ => trivial)⟩⟩ rfl rfl hl.1 rfl (lv_room (Nat.le_of_ble_eq_true rfl)) dX1_whyNotShow_5 ⟨Nat.zero_le _, Nat.zero_le _⟩) hS (fun q _ h => hFc q h) hFc (fun rz u t H1 locs ht hvm hw hB hz1 hk1 hS => ?_)
  obtain ⟨hP1, hK1, hD1⟩ := hB
  obtain ⟨hw, hz_1⟩ := hw
  have hw := hw.symm; subst hw
  rw [ht] at hP1
  obtain ⟨hP, hD⟩ := va_join (wr := [oX1 h_this h_hall h_coins h_chairOf h_tired h_hosted h_owed h_paid v_sitting v_taken v_served v_hidden v_round v_over v_host v_paidInAll v_lot]) (w1 := [oX2 h_hall h_hall_guestName h_hall_coins h_hall_pride h_hall_speed h_hall_place h_hall_payer h_hall_dishName h_hall_cost v_hall_chairs v_hall_guests v_hall_dishes]) hP hD [1] [0] rfl rfl (by decide) (by decide) hk1 hFc hP1 hD1
  generalize H1 = H at hP hS ⊢
  have hP : va_P (dC, dI) vwCl [oX1 h_this h_hall h_coins h_chairOf h_tired h_hosted h_owed h_paid v_sitting v_taken v_served v_hidden v_round v_over v_host v_paidInAll v_lot, oX2 h_hall h_hall_guestName h_hall_coins h_hall_pride h_hall_speed h_hall_place h_hall_payer h_hall_dishName h_hall_cost v_hall_chairs v_hall_guests v_hall_dishes] H := hP
  have hD : va_D A [oX1 h_this h_hall h_coins h_chairOf h_tired h_hosted h_owed h_paid v_sitting v_taken v_served v_hidden v_round v_over v_host v_paidInAll v_lot, oX2 h_hall h_hall_guestName h_hall_coins h_hall_pride h_hall_speed h_hall_place h_hall_payer h_hall_dishName h_hall_cost v_hall_chairs v_hall_guests v_hall_dishes] := hD
  refine lv_if_ne (tgt := 13) hx hb dX1_whyNotShow_8 (by decide) (fun hc => ?_) (fun hc => ?_)
  · have hr := iteN hc hr
    refine lv_aload_n hx hb dX1_whyNotShow_13 rfl (lv_at hl 0 rfl) ?_
    refine va_get (D := (dC, dI)) (ci := 1) (v := .int v_hidden) (C := RX1) (T := TX1) (N := 16) hx hb hts (fun w h => List.mem_cons_of_mem _ (inU_1 w h)) hown hK hP 0 rfl rfl 10 (by decide) (hts _ (List.mem_cons_of_mem _ U_444)) (fun _ h9 => h9) rfl dX1_whyNotShow_14 ?_
    refine lv_iload_n hx hb dX1_whyNotShow_17 rfl (lv_at hl 1 rfl) ?_
    refine lv_ishr hx hb dX1_whyNotShow_18 ?_
    refine lv_iconst (v := 1) hx hb dX1_whyNotShow_19 (by decide) ?_
    refine z_pc (pc' := 20) rfl ?_
    refine lv_iand hx hb dX1_whyNotShow_20 ?_
    refine lv_iconst (v := 1) hx hb dX1_whyNotShow_21 (by decide) ?_
    refine lv_icmp_ne (tgt := 29) hx hb dX1_whyNotShow_22 (by decide) (fun hc => ?_) (fun hc => ?_)
    · have hr := iteN hc hr
      refine lv_iconst (v := 2) hx hb dX1_whyNotShow_29 (by decide) ?_
      have q0 := Option.some.inj hr
      subst q0
      exact W.iret (v := 2) hx hb hrt (fun t ht hW => ⟨⟨2, (), rfl, rfl, by rw [ht]; exact hP, va_K.moved hW.alike hK, hD⟩, hS.F ht⟩) hS.2.2 dX1_whyNotShow_30 hlocks
    · have hr := iteP hc hr
      refine lv_iconst (v := 0) hx hb dX1_whyNotShow_25 (by decide) ?_
      refine lv_goto (tgt := 30) hx hb dX1_whyNotShow_26 (by decide) ?_
      have q0 := Option.some.inj hr
      subst q0
      exact W.iret (v := 0) hx hb hrt (fun t ht hW => ⟨⟨0, (), rfl, rfl, by rw [ht]; exact hP, va_K.moved hW.alike hK, hD⟩, hS.F ht⟩) hS.2.2 dX1_whyNotShow_30 hlocks
  · have hr := iteP hc hr
    refine lv_iconst (v := 1) hx hb dX1_whyNotShow_11 (by decide) ?_
    have q0 := Option.some.inj hr
    subst q0
    exact W.iret (v := 1) hx hb hrt (fun t ht hW => ⟨⟨1, (), rfl, rfl, by rw [ht]; exact hP, va_K.moved hW.alike hK, hD⟩, hS.F ht⟩) hS.2.2 dX1_whyNotShow_12 hlocks
set_option maxHeartbeats 4000000 in
set_option maxRecDepth 100000 in
theorem mX1_whyNotShow (l : Launch) (dC : Nat → ClassId) (dI : Nat → Nat → Nat) (cI cJ cB cZ cF cG : ClassId) (h_this : Nat) (h_hall : Nat) (h_coins : Nat) (h_chairOf : Nat) (h_tired : Nat) (h_hosted : Nat) (h_owed : Nat) (h_paid : Nat) (h_hall_guestName : Nat) (h_hall_coins : Nat) (h_hall_pride : Nat) (h_hall_speed : Nat) (h_hall_place : Nat) (h_hall_payer : Nat) (h_hall_dishName : Nat) (h_hall_cost : Nat) (sz : Nat) (v_sitting : Int32) (v_taken : Int32) (v_served : Int32) (v_hidden : Int32) (v_round : Int32) (v_over : Int32) (v_host : Int32) (v_paidInAll : Int32) (v_lot : Int32) (v_hall_chairs : Int32) (v_hall_guests : Int32) (v_hall_dishes : Int32) (x1 : Int32) (o_r : Int32) (hf : fX1_whyNotShow v_hidden v_hall_chairs x1 = some o_r) : Met l yX1_whyNotShow uX1_whyNotShow ({ frames := 1, cells := 0, slots := 0, locals := 21 }) (va_Pc [.ref h_this, .int x1] (fun U => U.heap.size = sz ∧ va_P (dC, dI) vwCl [oX1 h_this h_hall h_coins h_chairOf h_tired h_hosted h_owed h_paid v_sitting v_taken v_served v_hidden v_round v_over v_host v_paidInAll v_lot, oX2 h_hall h_hall_guestName h_hall_coins h_hall_pride h_hall_speed h_hall_place h_hall_payer h_hall_dishName h_hall_cost v_hall_chairs v_hall_guests v_hall_dishes] U.heap ∧ va_K (dC, dI) vwCl (TYS cI cJ cB cZ cF cG) U ∧ va_D (fun _ => True) [oX1 h_this h_hall h_coins h_chairOf h_tired h_hosted h_owed h_paid v_sitting v_taken v_served v_hidden v_round v_over v_host v_paidInAll v_lot, oX2 h_hall h_hall_guestName h_hall_coins h_hall_pride h_hall_speed h_hall_place h_hall_payer h_hall_dishName h_hall_cost v_hall_chairs v_hall_guests v_hall_dishes])) (PQi dC dI cI cJ cB cZ cF cG (va_A [oX1 h_this h_hall h_coins h_chairOf h_tired h_hosted h_owed h_paid v_sitting v_taken v_served v_hidden v_round v_over v_host v_paidInAll v_lot, oX2 h_hall h_hall_guestName h_hall_coins h_hall_pride h_hall_speed h_hall_place h_hall_payer h_hall_dishName h_hall_cost v_hall_chairs v_hall_guests v_hall_dishes] sz) o_r [oX1 h_this h_hall h_coins h_chairOf h_tired h_hosted h_owed h_paid v_sitting v_taken v_served v_hidden v_round v_over v_host v_paidInAll v_lot, oX2 h_hall h_hall_guestName h_hall_coins h_hall_pride h_hall_speed h_hall_place h_hall_payer h_hall_dishName h_hall_cost v_hall_chairs v_hall_guests v_hall_dishes]) 0 0 (va_A [oX1 h_this h_hall h_coins h_chairOf h_tired h_hosted h_owed h_paid v_sitting v_taken v_served v_hidden v_round v_over v_host v_paidInAll v_lot, oX2 h_hall h_hall_guestName h_hall_coins h_hall_pride h_hall_speed h_hall_place h_hall_payer h_hall_dishName h_hall_cost v_hall_chairs v_hall_guests v_hall_dishes] sz) := by
  refine Met.ofW (cc := cX1_whyNotShow) (maxL := 2) (ret := (some .int)) (by decide) rfl ?_
  intro p e s m args below meth c s₁ B hml hv
  obtain ⟨rfl, hsz, hP, hK, hD0⟩ := hv
  have hx := B.exec
  have hb := B.bytes
  have hr := B.returns
  have hts := atoms_spec (ws := uX1_whyNotShow) B.pre
  have hown : s.vm.findClass RX1 = some m.cls := findClass_of_methodNamed B.named
  have hlocks := B.notSynchronized
  subst hsz
  have hD := hD0.self (sz := s.heap.size)
  generalize hAe : va_A [oX1 h_this h_hall h_coins h_chairOf h_tired h_hosted h_owed h_paid v_sitting v_taken v_served v_hidden v_round v_over v_host v_paidInAll v_lot, oX2 h_hall h_hall_guestName h_hall_coins h_hall_pride h_hall_speed h_hall_place h_hall_payer h_hall_dishName h_hall_cost v_hall_chairs v_hall_guests v_hall_dishes] s.heap.size = A at hD ⊢
  have hA : ∀ q : Nat, s.heap.size ≤ q → A q := fun q h => by rw [← hAe]; exact Or.inr h
  have hS : va_S A s.heap s.heap [] := va_S.rf
  have hl := lv_entry ([.ref h_this, .int x1]) (n := 2) (Nat.le_of_ble_eq_true rfl)
  rw [lg_entry_eq]
  generalize (lg_sl ([.ref h_this, .int x1]) ++ List.replicate (2 - (lg_sl ([.ref h_this, .int x1])).length) Slot.unset).toArray = ls at hl ⊢
  have hl : lv_has ls 2 [(0, .ref h_this), (1, .int x1)] := hl
  exact tX1_whyNotShow hA ⟨hx, hb, hr, hml, hown, hts, hlocks⟩ ⟨Nat.le_refl _, Nat.le_refl _⟩ h_this h_hall h_coins h_chairOf h_tired h_hosted h_owed h_paid h_hall_guestName h_hall_coins h_hall_pride h_hall_speed h_hall_place h_hall_payer h_hall_dishName h_hall_cost v_sitting v_taken v_served v_hidden v_round v_over v_host v_paidInAll v_lot v_hall_chairs v_hall_guests v_hall_dishes o_r x1 hf _ _ ⟨hK, hP, hD, hS⟩ ls hl
-- LastSeat$Feast.settle(II)V
def uX1_settle : List Cond := .code yX1_settle cX1_settle 5 none :: wsU
set_option maxHeartbeats 4000000 in
set_option maxRecDepth 100000 in
theorem tX1_settle_20 {p : Program} {l : Launch} {e : Env} {R : Room} {s : State} {m : MethodId} {args : Array Value} {below : List Frame} {meth : Method} {c : Code} {dC : Nat → ClassId} {dI : Nat → Nat → Nat} {cI cJ cB cZ cF cG : ClassId} {A : Nat → Prop} (hA : ∀ q : Nat, s.heap.size ≤ q → A q) (C0 : Cx p s m meth c args cX1_settle 5 none RX1 uX1_settle) (hR : 0 ≤ R.frames ∧ 0 ≤ R.locals) (h_this : Nat) (h_coins : Nat) (h_owed : Nat) (h_paid : Nat) (h_hall : Nat) (h_chairOf : Nat) (h_tired : Nat) (h_hosted : Nat) (v_sitting : Int32) (v_taken : Int32) (v_served : Int32) (v_hidden : Int32) (v_round : Int32) (v_over : Int32) (v_host : Int32) (v_lot : Int32) (o_paidInAll : Int32) (o_coins : Nat → Int32) (o_owed : Nat → Int32) (o_paid : Nat → Int32) :
    ∀ (v_paidInAll : Int32) (v_coins : Nat → Int32) (v_owed : Nat → Int32) (v_paid : Nat → Int32) (x1 : Int32) (x2 : Int32) (y0 : Int32), bX1_settle_20 v_paidInAll v_coins v_owed v_paid x1 x2 y0 = some (o_paidInAll, o_coins, o_owed, o_paid) → ∀ (H : Heap) (locs : List Loc), Wd dC dI cI cJ cB cZ cF cG A s H locs [oX1 h_this h_hall h_coins h_chairOf h_tired h_hosted h_owed h_paid v_sitting v_taken v_served v_hidden v_round v_over v_host v_paidInAll v_lot, aI cI h_coins 7 v_coins, aI cI h_owed 7 v_owed, aI cI h_paid 7 v_paid] → ∀ (ls : Array Slot), lv_has ls 5 [(0, .ref h_this), (1, .int x1), (2, .int x2)] → W p l e R s m args below meth c H locs 0 0 (MQ below (PQv dC dI cI cJ cB cZ cF cG A [oX1 h_this h_hall h_coins h_chairOf h_tired h_hosted h_owed h_paid v_sitting v_taken v_served v_hidden v_round v_over v_host o_paidInAll v_lot, aI cI h_coins 7 o_coins, aI cI h_owed 7 o_owed, aI cI h_paid 7 o_paid]) args s 0 0 A) (F0 m 20 ls [.int y0]) := by
  obtain ⟨hx, hb, hrt, hml, hown, hts, hlocks⟩ := id C0
  intro v_paidInAll v_coins v_owed v_paid x1 x2 y0 hr H locs hW ls hl
  obtain ⟨hK, hP, hD, hS⟩ := hW
  have hr : (gI x1 7 (nmv (((v_owed (Int32.toNatClampNeg x1)) + x2) - y0) (fun w1 => gI x1 7 (nmv ((v_coins (Int32.toNatClampNeg x1)) - y0) (fun w2 => gI x1 7 (nmv (upd v_coins (Int32.toNatClampNeg x1) w2) (fun w3 => gI x1 7 (nmv ((v_paid (Int32.toNatClampNeg x1)) + y0) (fun w4 => gI x1 7 (nmv (upd v_paid (Int32.toNatClampNeg x1) w4) (fun w5 => nmv (v_paidInAll + y0) (fun w6 => if 99999 ≤ w1 then gI x1 7 (nmv (upd v_owed (Int32.toNatClampNeg x1) 99999) (fun w7 => some (w6, w3, w7, w5))) else gI x1 7 (nmv (upd v_owed (Int32.toNatClampNeg x1) w1) (fun w8 => some (w6, w3, w8, w5)))))))))))))) : Option (Int32 × (Nat → Int32) × (Nat → Int32) × (Nat → Int32))) = some (o_paidInAll, o_coins, o_owed, o_paid) := hr
  refine lv_istore_n (lv' := [(3, .int y0), (0, .ref h_this), (1, .int x1), (2, .int x2)]) hx hb dX1_settle_20 rfl hl (by decide) rfl (fun ls hl => ?_)
  refine lv_aload_n hx hb dX1_settle_21 rfl (lv_at hl 1 rfl) ?_
  refine va_get (D := (dC, dI)) (ci := 1) (v := .ref h_owed) (C := RX1) (T := TX1) (N := 16) hx hb hts (fun w h => List.mem_cons_of_mem _ (inU_1 w h)) hown hK hP 0 rfl rfl 5 (by decide) (hts _ (List.mem_cons_of_mem _ U_148)) (fun _ h9 => h9) rfl dX1_settle_22 ?_
  refine lv_iload_n hx hb dX1_settle_25 rfl (lv_at hl 2 rfl) ?_
  obtain ⟨hg, hr⟩ := gI_s hr
  refine z_iald hx hb hK hP 2 0 rfl rfl hg rfl dX1_settle_26 ?_
  refine z_pc (pc' := 27) rfl ?_
  refine lv_iload_n hx hb dX1_settle_27 rfl (lv_at hl 3 rfl) ?_
  refine lv_iadd hx hb dX1_settle_28 ?_
  refine lv_iload_n hx hb dX1_settle_29 rfl (lv_at hl 0 rfl) ?_
  refine lv_isub hx hb dX1_settle_30 ?_
  obtain ⟨w1, hw1, hr⟩ := nm_s hr
  refine z_topi hw1 ?_
  refine lv_istore (lv' := [(4, .int w1), (3, .int y0), (0, .ref h_this), (1, .int x1), (2, .int x2)]) hx hb dX1_settle_31 hl (by decide) rfl (fun ls hl => ?_)
  refine lv_aload_n hx hb dX1_settle_33 rfl (lv_at hl 2 rfl) ?_
  refine z_pc (pc' := 34) rfl ?_
  refine va_get (D := (dC, dI)) (ci := 1) (v := .ref h_coins) (C := RX1) (T := TX1) (N := 16) hx hb hts (fun w h => List.mem_cons_of_mem _ (inU_1 w h)) hown hK hP 0 rfl rfl 1 (by decide) (hts _ (List.mem_cons_of_mem _ U_144)) (fun _ h9 => h9) rfl dX1_settle_34 ?_
  refine lv_iload_n hx hb dX1_settle_37 rfl (lv_at hl 3 rfl) ?_
  refine lv_dup2_11 hx hb dX1_settle_38 rfl rfl ?_
  obtain ⟨hg, hr⟩ := gI_s hr
  refine z_iald hx hb hK hP 1 0 rfl rfl hg rfl dX1_settle_39 ?_
  refine lv_iload_n hx hb dX1_settle_40 rfl (lv_at hl 1 rfl) ?_
  refine lv_isub hx hb dX1_settle_41 ?_
  refine z_pc (pc' := 42) rfl ?_
  obtain ⟨w2, hw2, hr⟩ := nm_s hr
  refine z_topi hw2 ?_
  obtain ⟨hg, hr⟩ := gI_s hr
  obtain ⟨w3, hw3, hr⟩ := nm_s hr
  refine z_iast hx hb hK hP hD hS 1 0 rfl rfl hg rfl hw3 dX1_settle_42 (fun H locs hP hD hS => ?_)
  have hP : va_P (dC, dI) vwCl [oX1 h_this h_hall h_coins h_chairOf h_tired h_hosted h_owed h_paid v_sitting v_taken v_served v_hidden v_round v_over v_host v_paidInAll v_lot, aI cI h_coins 7 w3, aI cI h_owed 7 v_owed, aI cI h_paid 7 v_paid] H := hP
  have hD : va_D A [oX1 h_this h_hall h_coins h_chairOf h_tired h_hosted h_owed h_paid v_sitting v_taken v_served v_hidden v_round v_over v_host v_paidInAll v_lot, aI cI h_coins 7 w3, aI cI h_owed 7 v_owed, aI cI h_paid 7 v_paid] := hD
  refine lv_aload_n hx hb dX1_settle_43 rfl (lv_at hl 2 rfl) ?_
  refine va_get (D := (dC, dI)) (ci := 1) (v := .ref h_paid) (C := RX1) (T := TX1) (N := 16) hx hb hts (fun w h => List.mem_cons_of_mem _ (inU_1 w h)) hown hK hP 0 rfl rfl 6 (by decide) (hts _ (List.mem_cons_of_mem _ U_149)) (fun _ h9 => h9) rfl dX1_settle_44 ?_
  refine lv_iload_n hx hb dX1_settle_47 rfl (lv_at hl 3 rfl) ?_
  refine lv_dup2_11 hx hb dX1_settle_48 rfl rfl ?_
  obtain ⟨hg, hr⟩ := gI_s hr
  refine z_iald hx hb hK hP 3 0 rfl rfl hg rfl dX1_settle_49 ?_
  refine z_pc (pc' := 50) rfl ?_
  refine lv_iload_n hx hb dX1_settle_50 rfl (lv_at hl 1 rfl) ?_
  refine lv_iadd hx hb dX1_settle_51 ?_
  obtain ⟨w4, hw4, hr⟩ := nm_s hr
  refine z_topi hw4 ?_
  obtain ⟨hg, hr⟩ := gI_s hr
  obtain ⟨w5, hw5, hr⟩ := nm_s hr
  refine z_iast hx hb hK hP hD hS 3 0 rfl rfl hg rfl hw5 dX1_settle_52 (fun H locs hP hD hS => ?_)
  have hP : va_P (dC, dI) vwCl [oX1 h_this h_hall h_coins h_chairOf h_tired h_hosted h_owed h_paid v_sitting v_taken v_served v_hidden v_round v_over v_host v_paidInAll v_lot, aI cI h_coins 7 w3, aI cI h_owed 7 v_owed, aI cI h_paid 7 w5] H := hP
  have hD : va_D A [oX1 h_this h_hall h_coins h_chairOf h_tired h_hosted h_owed h_paid v_sitting v_taken v_served v_hidden v_round v_over v_host v_paidInAll v_lot, aI cI h_coins 7 w3, aI cI h_owed 7 v_owed, aI cI h_paid 7 w5] := hD
  refine lv_aload_n hx hb dX1_settle_53 rfl (lv_at hl 2 rfl) ?_
  refine lv_dup hx hb dX1_settle_54 rfl ?_
  refine va_get (D := (dC, dI)) (ci := 1) (v := .int v_paidInAll) (C := RX1) (T := TX1) (N := 16) hx hb hts (fun w h => List.mem_cons_of_mem _ (inU_1 w h)) hown hK hP 0 rfl rfl 14 (by decide) (hts _ (List.mem_cons_of_mem _ U_447)) (fun _ h9 => h9) rfl dX1_settle_55 ?_
  refine z_pc (pc' := 58) rfl ?_
  refine lv_iload_n hx hb dX1_settle_58 rfl (lv_at hl 1 rfl) ?_
  refine lv_iadd hx hb dX1_settle_59 ?_
  obtain ⟨w6, hw6, hr⟩ := nm_s hr
  refine z_topi hw6 ?_
  refine va_put (D := (dC, dI)) (ci := 1) (v := .int w6) (ty := .int) (C := RX1) (T := TX1) (N := 16) hx hb hts (fun w h => List.mem_cons_of_mem _ (inU_1 w h)) tyX1 tyX1_ok nmX1 hown hK hP hD hS 0 rfl rfl 14 (by decide) (hts _ (List.mem_cons_of_mem _ U_447)) (fun _ h9 => h9) rfl (by decide +kernel) rfl rfl (Nat.le_of_ble_eq_true rfl) dX1_settle_60 (fun H locs hP hD hS => ?_)
  have hP : va_P (dC, dI) vwCl [oX1 h_this h_hall h_coins h_chairOf h_tired h_hosted h_owed h_paid v_sitting v_taken v_served v_hidden v_round v_over v_host w6 v_lot, aI cI h_coins 7 w3, aI cI h_owed 7 v_owed, aI cI h_paid 7 w5] H := hP
  have hD : va_D A [oX1 h_this h_hall h_coins h_chairOf h_tired h_hosted h_owed h_paid v_sitting v_taken v_served v_hidden v_round v_over v_host w6 v_lot, aI cI h_coins 7 w3, aI cI h_owed 7 v_owed, aI cI h_paid 7 w5] := hD
  refine lv_aload_n hx hb dX1_settle_63 rfl (lv_at hl 2 rfl) ?_
  refine va_get (D := (dC, dI)) (ci := 1) (v := .ref h_owed) (C := RX1) (T := TX1) (N := 16) hx hb hts (fun w h => List.mem_cons_of_mem _ (inU_1 w h)) hown hK hP 0 rfl rfl 5 (by decide) (hts _ (List.mem_cons_of_mem _ U_148)) (fun _ h9 => h9) rfl dX1_settle_64 ?_
  refine lv_iload_n hx hb dX1_settle_67 rfl (lv_at hl 3 rfl) ?_
  refine z_pc (pc' := 68) rfl ?_
  refine lv_iload hx hb dX1_settle_68 (lv_at hl 0 rfl) ?_
  refine lv_ldc (v := 99999) hx hb hown (hts _ (List.mem_cons_of_mem _ U_718)) dX1_settle_70 ?_
  refine lv_icmp_ge (tgt := 80) hx hb dX1_settle_72 (by decide) (fun hc => ?_) (fun hc => ?_)
  · have hr := iteP hc hr
    refine lv_ldc (v := 99999) hx hb hown (hts _ (List.mem_cons_of_mem _ U_718)) dX1_settle_80 ?_
    obtain ⟨hg, hr⟩ := gI_s hr
    obtain ⟨w7, hw7, hr⟩ := nm_s hr
    refine z_iast hx hb hK hP hD hS 2 0 rfl rfl hg rfl hw7 dX1_settle_82 (fun H locs hP hD hS => ?_)
    have hP : va_P (dC, dI) vwCl [oX1 h_this h_hall h_coins h_chairOf h_tired h_hosted h_owed h_paid v_sitting v_taken v_served v_hidden v_round v_over v_host w6 v_lot, aI cI h_coins 7 w3, aI cI h_owed 7 w7, aI cI h_paid 7 w5] H := hP
    have hD : va_D A [oX1 h_this h_hall h_coins h_chairOf h_tired h_hosted h_owed h_paid v_sitting v_taken v_served v_hidden v_round v_over v_host w6 v_lot, aI cI h_coins 7 w3, aI cI h_owed 7 w7, aI cI h_paid 7 w5] := hD
    have q0 := Option.some.inj hr
    obtain ⟨e0, q1⟩ := Prod.mk.inj q0
    obtain ⟨e1, q2⟩ := Prod.mk.inj q1
    obtain ⟨e2, q3⟩ := Prod.mk.inj q2
    subst e0; subst e1; subst e2; subst q3
    exact W.vret hx hb hrt (fun t ht hW => ⟨⟨(), rfl, trivial, by rw [ht]; exact hP, va_K.moved hW.alike hK, hD⟩, hS.F ht⟩) hS.2.2 dX1_settle_83 hlocks
  · have hr := iteN hc hr
    refine lv_iload hx hb dX1_settle_75 (lv_at hl 0 rfl) ?_
    refine lv_goto (tgt := 82) hx hb dX1_settle_77 (by decide) ?_
    obtain ⟨hg, hr⟩ := gI_s hr
    obtain ⟨w8, hw8, hr⟩ := nm_s hr
    refine z_iast hx hb hK hP hD hS 2 0 rfl rfl hg rfl hw8 dX1_settle_82 (fun H locs hP hD hS => ?_)
    have hP : va_P (dC, dI) vwCl [oX1 h_this h_hall h_coins h_chairOf h_tired h_hosted h_owed h_paid v_sitting v_taken v_served v_hidden v_round v_over v_host w6 v_lot, aI cI h_coins 7 w3, aI cI h_owed 7 w8, aI cI h_paid 7 w5] H := hP
    have hD : va_D A [oX1 h_this h_hall h_coins h_chairOf h_tired h_hosted h_owed h_paid v_sitting v_taken v_served v_hidden v_round v_over v_host w6 v_lot, aI cI h_coins 7 w3, aI cI h_owed 7 w8, aI cI h_paid 7 w5] := hD
    have q0 := Option.some.inj hr
    obtain ⟨e0, q1⟩ := Prod.mk.inj q0
    obtain ⟨e1, q2⟩ := Prod.mk.inj q1
    obtain ⟨e2, q3⟩ := Prod.mk.inj q2
    subst e0; subst e1; subst e2; subst q3
    exact W.vret hx hb hrt (fun t ht hW => ⟨⟨(), rfl, trivial, by rw [ht]; exact hP, va_K.moved hW.alike hK, hD⟩, hS.F ht⟩) hS.2.2 dX1_settle_83 hlocks
set_option maxHeartbeats 4000000 in
set_option maxRecDepth 100000 in
theorem tX1_settle {p : Program} {l : Launch} {e : Env} {R : Room} {s : State} {m : MethodId} {args : Array Value} {below : List Frame} {meth : Method} {c : Code} {dC : Nat → ClassId} {dI : Nat → Nat → Nat} {cI cJ cB cZ cF cG : ClassId} {A : Nat → Prop} (hA : ∀ q : Nat, s.heap.size ≤ q → A q) (C0 : Cx p s m meth c args cX1_settle 5 none RX1 uX1_settle) (hR : 0 ≤ R.frames ∧ 0 ≤ R.locals) (h_this : Nat) (h_coins : Nat) (h_owed : Nat) (h_paid : Nat) (h_hall : Nat) (h_chairOf : Nat) (h_tired : Nat) (h_hosted : Nat) (v_sitting : Int32) (v_taken : Int32) (v_served : Int32) (v_hidden : Int32) (v_round : Int32) (v_over : Int32) (v_host : Int32) (v_lot : Int32) (o_paidInAll : Int32) (o_coins : Nat → Int32) (o_owed : Nat → Int32) (o_paid : Nat → Int32) :
    ∀ (v_paidInAll : Int32) (v_coins : Nat → Int32) (v_owed : Nat → Int32) (v_paid : Nat → Int32) (x1 : Int32) (x2 : Int32), fX1_settle v_paidInAll v_coins v_owed v_paid x1 x2 = some (o_paidInAll, o_coins, o_owed, o_paid) → ∀ (H : Heap) (locs : List Loc), Wd dC dI cI cJ cB cZ cF cG A s H locs [oX1 h_this h_hall h_coins h_chairOf h_tired h_hosted h_owed h_paid v_sitting v_taken v_served v_hidden v_round v_over v_host v_paidInAll v_lot, aI cI h_coins 7 v_coins, aI cI h_owed 7 v_owed, aI cI h_paid 7 v_paid] → ∀ (ls : Array Slot), lv_has ls 5 [(0, .ref h_this), (1, .int x1), (2, .int x2)] → W p l e R s m args below meth c H locs 0 0 (MQ below (PQv dC dI cI cJ cB cZ cF cG A [oX1 h_this h_hall h_coins h_chairOf h_tired h_hosted h_owed h_paid v_sitting v_taken v_served v_hidden v_round v_over v_host o_paidInAll v_lot, aI cI h_coins 7 o_coins, aI cI h_owed 7 o_owed, aI cI h_paid 7 o_paid]) args s 0 0 A) (F0 m 0 ls []) := by
  obtain ⟨hx, hb, hrt, hml, hown, hts, hlocks⟩ := id C0
  intro v_paidInAll v_coins v_owed v_paid x1 x2 hr H locs hW ls hl
  obtain ⟨hK, hP, hD, hS⟩ := hW
  have hr : (gI x1 7 (if (v_coins (Int32.toNatClampNeg x1)) ≤ x2 then gI x1 7 (bX1_settle_20 v_paidInAll v_coins v_owed v_paid x1 x2 (v_coins (Int32.toNatClampNeg x1))) else bX1_settle_20 v_paidInAll v_coins v_owed v_paid x1 x2 x2) : Option (Int32 × (Nat → Int32) × (Nat → Int32) × (Nat → Int32))) = some (o_paidInAll, o_coins, o_owed, o_paid) := hr
  refine lv_iload_n hx hb dX1_settle_0 rfl (lv_at hl 2 rfl) ?_
  refine lv_aload_n hx hb dX1_settle_1 rfl (lv_at hl 0 rfl) ?_
  refine va_get (D := (dC, dI)) (ci := 1) (v := .ref h_coins) (C := RX1) (T := TX1) (N := 16) hx hb hts (fun w h => List.mem_cons_of_mem _ (inU_1 w h)) hown hK hP 0 rfl rfl 1 (by decide) (hts _ (List.mem_cons_of_mem _ U_144)) (fun _ h9 => h9) rfl dX1_settle_2 ?_
  refine lv_iload_n hx hb dX1_settle_5 rfl (lv_at hl 1 rfl) ?_
  obtain ⟨hg, hr⟩ := gI_s hr
  refine z_iald hx hb hK hP 1 0 rfl rfl hg rfl dX1_settle_6 ?_
  refine z_pc (pc' := 7) rfl ?_
  refine lv_icmp_ge (tgt := 14) hx hb dX1_settle_7 (by decide) (fun hc => ?_) (fun hc => ?_)
  · have hr := iteP hc hr
    refine lv_aload_n hx hb dX1_settle_14 rfl (lv_at hl 0 rfl) ?_
    refine va_get (D := (dC, dI)) (ci := 1) (v := .ref h_coins) (C := RX1) (T := TX1) (N := 16) hx hb hts (fun w h => List.mem_cons_of_mem _ (inU_1 w h)) hown hK hP 0 rfl rfl 1 (by decide) (hts _ (List.mem_cons_of_mem _ U_144)) (fun _ h9 => h9) rfl dX1_settle_15 ?_
    refine lv_iload_n hx hb dX1_settle_18 rfl (lv_at hl 1 rfl) ?_
    obtain ⟨hg, hr⟩ := gI_s hr
    refine z_iald hx hb hK hP 1 0 rfl rfl hg rfl dX1_settle_19 ?_
    exact tX1_settle_20 hA C0 hR h_this h_coins h_owed h_paid h_hall h_chairOf h_tired h_hosted v_sitting v_taken v_served v_hidden v_round v_over v_host v_lot o_paidInAll o_coins o_owed o_paid v_paidInAll v_coins v_owed v_paid x1 x2 (v_coins (Int32.toNatClampNeg x1)) hr _ _ ⟨hK, hP, hD, hS⟩ ls (lv_sub hl [0, 1, 2] rfl)
  · have hr := iteN hc hr
    refine lv_iload_n hx hb dX1_settle_10 rfl (lv_at hl 2 rfl) ?_
    refine lv_goto (tgt := 20) hx hb dX1_settle_11 (by decide) ?_
    exact tX1_settle_20 hA C0 hR h_this h_coins h_owed h_paid h_hall h_chairOf h_tired h_hosted v_sitting v_taken v_served v_hidden v_round v_over v_host v_lot o_paidInAll o_coins o_owed o_paid v_paidInAll v_coins v_owed v_paid x1 x2 x2 hr _ _ ⟨hK, hP, hD, hS⟩ ls (lv_sub hl [0, 1, 2] rfl)
set_option maxHeartbeats 4000000 in
set_option maxRecDepth 100000 in
theorem mX1_settle (l : Launch) (dC : Nat → ClassId) (dI : Nat → Nat → Nat) (cI cJ cB cZ cF cG : ClassId) (h_this : Nat) (h_coins : Nat) (h_owed : Nat) (h_paid : Nat) (h_hall : Nat) (h_chairOf : Nat) (h_tired : Nat) (h_hosted : Nat) (sz : Nat) (v_sitting : Int32) (v_taken : Int32) (v_served : Int32) (v_hidden : Int32) (v_round : Int32) (v_over : Int32) (v_host : Int32) (v_paidInAll : Int32) (v_lot : Int32) (v_coins : Nat → Int32) (v_owed : Nat → Int32) (v_paid : Nat → Int32) (x1 : Int32) (x2 : Int32) (o_paidInAll : Int32) (o_coins : Nat → Int32) (o_owed : Nat → Int32) (o_paid : Nat → Int32) (hf : fX1_settle v_paidInAll v_coins v_owed v_paid x1 x2 = some (o_paidInAll, o_coins, o_owed, o_paid)) : Met l yX1_settle uX1_settle ({ frames := 0, cells := 0, slots := 0, locals := 0 }) (va_Pc [.ref h_this, .int x1, .int x2] (fun U => U.heap.size = sz ∧ va_P (dC, dI) vwCl [oX1 h_this h_hall h_coins h_chairOf h_tired h_hosted h_owed h_paid v_sitting v_taken v_served v_hidden v_round v_over v_host v_paidInAll v_lot, aI cI h_coins 7 v_coins, aI cI h_owed 7 v_owed, aI cI h_paid 7 v_paid] U.heap ∧ va_K (dC, dI) vwCl (TYS cI cJ cB cZ cF cG) U ∧ va_D (fun _ => True) [oX1 h_this h_hall h_coins h_chairOf h_tired h_hosted h_owed h_paid v_sitting v_taken v_served v_hidden v_round v_over v_host v_paidInAll v_lot, aI cI h_coins 7 v_coins, aI cI h_owed 7 v_owed, aI cI h_paid 7 v_paid])) (PQv dC dI cI cJ cB cZ cF cG (va_A [oX1 h_this h_hall h_coins h_chairOf h_tired h_hosted h_owed h_paid v_sitting v_taken v_served v_hidden v_round v_over v_host v_paidInAll v_lot, aI cI h_coins 7 v_coins, aI cI h_owed 7 v_owed, aI cI h_paid 7 v_paid] sz) [oX1 h_this h_hall h_coins h_chairOf h_tired h_hosted h_owed h_paid v_sitting v_taken v_served v_hidden v_round v_over v_host o_paidInAll v_lot, aI cI h_coins 7 o_coins, aI cI h_owed 7 o_owed, aI cI h_paid 7 o_paid]) 0 0 (va_A [oX1 h_this h_hall h_coins h_chairOf h_tired h_hosted h_owed h_paid v_sitting v_taken v_served v_hidden v_round v_over v_host v_paidInAll v_lot, aI cI h_coins 7 v_coins, aI cI h_owed 7 v_owed, aI cI h_paid 7 v_paid] sz) := by
  refine Met.ofW (cc := cX1_settle) (maxL := 5) (ret := none) (by decide) rfl ?_
  intro p e s m args below meth c s₁ B hml hv
  obtain ⟨rfl, hsz, hP, hK, hD0⟩ := hv
  have hx := B.exec
  have hb := B.bytes
  have hr := B.returns
  have hts := atoms_spec (ws := uX1_settle) B.pre
  have hown : s.vm.findClass RX1 = some m.cls := findClass_of_methodNamed B.named
  have hlocks := B.notSynchronized
  subst hsz
  have hD := hD0.self (sz := s.heap.size)
  generalize hAe : va_A [oX1 h_this h_hall h_coins h_chairOf h_tired h_hosted h_owed h_paid v_sitting v_taken v_served v_hidden v_round v_over v_host v_paidInAll v_lot, aI cI h_coins 7 v_coins, aI cI h_owed 7 v_owed, aI cI h_paid 7 v_paid] s.heap.size = A at hD ⊢
  have hA : ∀ q : Nat, s.heap.size ≤ q → A q := fun q h => by rw [← hAe]; exact Or.inr h
  have hS : va_S A s.heap s.heap [] := va_S.rf
  have hl := lv_entry ([.ref h_this, .int x1, .int x2]) (n := 5) (Nat.le_of_ble_eq_true rfl)
  rw [lg_entry_eq]
  generalize (lg_sl ([.ref h_this, .int x1, .int x2]) ++ List.replicate (5 - (lg_sl ([.ref h_this, .int x1, .int x2])).length) Slot.unset).toArray = ls at hl ⊢
  have hl : lv_has ls 5 [(0, .ref h_this), (1, .int x1), (2, .int x2)] := hl
  exact tX1_settle hA ⟨hx, hb, hr, hml, hown, hts, hlocks⟩ ⟨Nat.le_refl _, Nat.le_refl _⟩ h_this h_coins h_owed h_paid h_hall h_chairOf h_tired h_hosted v_sitting v_taken v_served v_hidden v_round v_over v_host v_lot o_paidInAll o_coins o_owed o_paid v_paidInAll v_coins v_owed v_paid x1 x2 hf _ _ ⟨hK, hP, hD, hS⟩ ls hl
-- LastSeat$Feast.endFeast()V
def uX1_endFeast : List Cond := .code yX1_endFeast cX1_endFeast 3 none :: wsU
set_option maxHeartbeats 4000000 in
set_option maxRecDepth 100000 in
theorem tX1_endFeast_14 {p : Program} {l : Launch} {e : Env} {R : Room} {s : State} {m : MethodId} {args : Array Value} {below : List Frame} {meth : Method} {c : Code} {dC : Nat → ClassId} {dI : Nat → Nat → Nat} {cI cJ cB cZ cF cG : ClassId} {A : Nat → Prop} (hA : ∀ q : Nat, s.heap.size ≤ q → A q) (C0 : Cx p s m meth c args cX1_endFeast 3 none RX1 uX1_endFeast) (hR : 1 ≤ R.frames ∧ 24 ≤ R.locals) (h_this : Nat) (h_hall : Nat) (h_hall_payer : Nat) (h_hall_cost : Nat) (h_coins : Nat) (h_tired : Nat) (h_hosted : Nat) (h_owed : Nat) (h_paid : Nat) (h_chairOf : Nat) (h_hall_guestName : Nat) (h_hall_coins : Nat) (h_hall_pride : Nat) (h_hall_speed : Nat) (h_hall_place : Nat) (h_hall_dishName : Nat) (v_hidden : Int32) (v_round : Int32) (v_lot : Int32) (v_hall_chairs : Int32) (v_hall_guests : Int32) (v_hall_dishes : Int32) (v_hall_payer : Nat → Int32) (v_hall_cost : Nat → Int32) (o_sitting : Int32) (o_taken : Int32) (o_served : Int32) (o_over : Int32) (o_host : Int32) (o_paidInAll : Int32) (o_coins : Nat → Int32) (o_tired : Nat → Int32) (o_hosted : Nat → Int32) (o_owed : Nat → Int32) (o_paid : Nat → Int32) :
    ∀ n : Nat, ∀ (v_sitting : Int32) (v_taken : Int32) (v_served : Int32) (v_over : Int32) (v_host : Int32) (v_paidInAll : Int32) (v_coins : Nat → Int32) (v_tired : Nat → Int32) (v_hosted : Nat → Int32) (v_owed : Nat → Int32) (v_paid : Nat → Int32) (x1 : Int32) (x2 : Int32), lX1_endFeast_14 v_hall_guests v_hall_dishes v_hall_payer v_hall_cost n v_sitting v_taken v_served v_over v_host v_paidInAll v_coins v_tired v_hosted v_owed v_paid x1 x2 = some (o_sitting, o_taken, o_served, o_over, o_host, o_paidInAll, o_coins, o_tired, o_hosted, o_owed, o_paid) → ∀ (H : Heap) (locs : List Loc), Wd dC dI cI cJ cB cZ cF cG A s H locs [oX1 h_this h_hall h_coins h_chairOf h_tired h_hosted h_owed h_paid v_sitting v_taken v_served v_hidden v_round v_over v_host v_paidInAll v_lot, oX2 h_hall h_hall_guestName h_hall_coins h_hall_pride h_hall_speed h_hall_place h_hall_payer h_hall_dishName h_hall_cost v_hall_chairs v_hall_guests v_hall_dishes, aI cI h_hall_payer 7 v_hall_payer, aI cI h_hall_cost 6 v_hall_cost, aI cI h_coins 7 v_coins, aI cI h_tired 7 v_tired, aI cI h_hosted 7 v_hosted, aI cI h_owed 7 v_owed, aI cI h_paid 7 v_paid] → ∀ (ls : Array Slot), lv_has ls 3 [(0, .ref h_this), (1, .int x1), (2, .int x2)] → W p l e R s m args below meth c H locs 0 0 (MQ below (PQv dC dI cI cJ cB cZ cF cG A [oX1 h_this h_hall h_coins h_chairOf h_tired h_hosted h_owed h_paid o_sitting o_taken o_served v_hidden v_round o_over o_host o_paidInAll v_lot, oX2 h_hall h_hall_guestName h_hall_coins h_hall_pride h_hall_speed h_hall_place h_hall_payer h_hall_dishName h_hall_cost v_hall_chairs v_hall_guests v_hall_dishes, aI cI h_hall_payer 7 v_hall_payer, aI cI h_hall_cost 6 v_hall_cost, aI cI h_coins 7 o_coins, aI cI h_tired 7 o_tired, aI cI h_hosted 7 o_hosted, aI cI h_owed 7 o_owed, aI cI h_paid 7 o_paid]) args s 0 0 A) (F0 m 14 ls []) := by
  obtain ⟨hx, hb, hrt, hml, hown, hts, hlocks⟩ := id C0
  intro n
  induction n with
  | zero =>
    intro v_sitting v_taken v_served v_over v_host v_paidInAll v_coins v_tired v_hosted v_owed v_paid x1 x2 hr
    exact nomatch (show (none : Option (Int32 × Int32 × Int32 × Int32 × Int32 × Int32 × (Nat → Int32) × (Nat → Int32) × (Nat → Int32) × (Nat → Int32) × (Nat → Int32))) = some _ from hr)
  | succ n ih =>
    intro v_sitting v_taken v_served v_over v_host v_paidInAll v_coins v_tired v_hosted v_owed v_paid x1 x2 hr H locs hW ls hl
    obtain ⟨hK, hP, hD, hS⟩ := hW
    have hr : (if v_hall_guests ≤ x2 then some (0, 0, 0, (v_over + 1), v_host, v_paidInAll, v_coins, v_tired, v_hosted, v_owed, v_paid) else (fX1_isSeated v_sitting x2).bind (fun r_1 => if r_1 = 0 then gI x2 7 (nmv ((v_hosted (Int32.toNatClampNeg x2)) + 1) (fun w2 => gI x2 7 (nmv (upd v_hosted (Int32.toNatClampNeg x2) w2) (fun w3 => gI x2 7 ((fX1_settle v_paidInAll v_coins v_owed v_paid (v_hall_payer (Int32.toNatClampNeg x2)) x1).bind (fun (u2_paidInAll, u2_coins, u2_owed, u2_paid) => gI x2 7 (nmv (upd v_tired (Int32.toNatClampNeg x2) 0) (fun w4 => lX1_endFeast_14 v_hall_guests v_hall_dishes v_hall_payer v_hall_cost n v_sitting v_taken v_served v_over x2 u2_paidInAll u2_coins w4 w3 u2_owed u2_paid x1 (x2 + 1))))))))) else gI x2 7 (nmv (upd v_tired (Int32.toNatClampNeg x2) 0) (fun w1 => lX1_endFeast_14 v_hall_guests v_hall_dishes v_hall_payer v_hall_cost n v_sitting v_taken v_served v_over v_host v_paidInAll v_coins w1 v_hosted v_owed v_paid x1 (x2 + 1)))) : Option (Int32 × Int32 × Int32 × Int32 × Int32 × Int32 × (Nat → Int32) × (Nat → Int32) × (Nat → Int32) × (Nat → Int32) × (Nat → Int32))) = some (o_sitting, o_taken, o_served, o_over, o_host, o_paidInAll, o_coins, o_tired, o_hosted, o_owed, o_paid) := hr
    refine lv_iload_n hx hb dX1_endFeast_14 rfl (lv_at hl 2 rfl) ?_
    refine lv_aload_n hx hb dX1_endFeast_15 rfl (lv_at hl 0 rfl) ?_
    refine va_get (D := (dC, dI)) (ci := 1) (v := .ref h_hall) (C := RX1) (T := TX1) (N := 16) hx hb hts (fun w h => List.mem_cons_of_mem _ (inU_1 w h)) hown hK hP 0 rfl rfl 0 (by decide) (hts _ (List.mem_cons_of_mem _ U_143)) (fun _ h9 => h9) rfl dX1_endFeast_16 ?_
    refine va_get (D := (dC, dI)) (ci := 2) (v := .int v_hall_guests) (C := RX2) (T := TX2) (N := 11) hx hb hts (fun w h => List.mem_cons_of_mem _ (inU_2 w h)) hown hK hP 1 rfl rfl 9 (by decide) (hts _ (List.mem_cons_of_mem _ U_626)) (fun _ h9 => h9) rfl dX1_endFeast_19 ?_
    refine lv_icmp_ge (tgt := 75) hx hb dX1_endFeast_22 (by decide) (fun hc => ?_) (fun hc => ?_)
    · have hr := iteP hc hr
      refine lv_aload_n hx hb dX1_endFeast_75 rfl (lv_at hl 0 rfl) ?_
      refine lv_iconst (v := 0) hx hb dX1_endFeast_76 (by decide) ?_
      refine va_put (D := (dC, dI)) (ci := 1) (v := .int 0) (ty := .int) (C := RX1) (T := TX1) (N := 16) hx hb hts (fun w h => List.mem_cons_of_mem _ (inU_1 w h)) tyX1 tyX1_ok nmX1 hown hK hP hD hS 0 rfl rfl 7 (by decide) (hts _ (List.mem_cons_of_mem _ U_441)) (fun _ h9 => h9) rfl (by decide +kernel) rfl rfl (Nat.le_of_ble_eq_true rfl) dX1_endFeast_77 (fun H locs hP hD hS => ?_)
      have hP : va_P (dC, dI) vwCl [oX1 h_this h_hall h_coins h_chairOf h_tired h_hosted h_owed h_paid 0 v_taken v_served v_hidden v_round v_over v_host v_paidInAll v_lot, oX2 h_hall h_hall_guestName h_hall_coins h_hall_pride h_hall_speed h_hall_place h_hall_payer h_hall_dishName h_hall_cost v_hall_chairs v_hall_guests v_hall_dishes, aI cI h_hall_payer 7 v_hall_payer, aI cI h_hall_cost 6 v_hall_cost, aI cI h_coins 7 v_coins, aI cI h_tired 7 v_tired, aI cI h_hosted 7 v_hosted, aI cI h_owed 7 v_owed, aI cI h_paid 7 v_paid] H := hP
      have hD : va_D A [oX1 h_this h_hall h_coins h_chairOf h_tired h_hosted h_owed h_paid 0 v_taken v_served v_hidden v_round v_over v_host v_paidInAll v_lot, oX2 h_hall h_hall_guestName h_hall_coins h_hall_pride h_hall_speed h_hall_place h_hall_payer h_hall_dishName h_hall_cost v_hall_chairs v_hall_guests v_hall_dishes, aI cI h_hall_payer 7 v_hall_payer, aI cI h_hall_cost 6 v_hall_cost, aI cI h_coins 7 v_coins, aI cI h_tired 7 v_tired, aI cI h_hosted 7 v_hosted, aI cI h_owed 7 v_owed, aI cI h_paid 7 v_paid] := hD
      refine lv_aload_n hx hb dX1_endFeast_80 rfl (lv_at hl 0 rfl) ?_
      refine lv_iconst (v := 0) hx hb dX1_endFeast_81 (by decide) ?_
      refine z_pc (pc' := 82) rfl ?_
      refine va_put (D := (dC, dI)) (ci := 1) (v := .int 0) (ty := .int) (C := RX1) (T := TX1) (N := 16) hx hb hts (fun w h => List.mem_cons_of_mem _ (inU_1 w h)) tyX1 tyX1_ok nmX1 hown hK hP hD hS 0 rfl rfl 8 (by decide) (hts _ (List.mem_cons_of_mem _ U_442)) (fun _ h9 => h9) rfl (by decide +kernel) rfl rfl (Nat.le_of_ble_eq_true rfl) dX1_endFeast_82 (fun H locs hP hD hS => ?_)
      have hP : va_P (dC, dI) vwCl [oX1 h_this h_hall h_coins h_chairOf h_tired h_hosted h_owed h_paid 0 0 v_served v_hidden v_round v_over v_host v_paidInAll v_lot, oX2 h_hall h_hall_guestName h_hall_coins h_hall_pride h_hall_speed h_hall_place h_hall_payer h_hall_dishName h_hall_cost v_hall_chairs v_hall_guests v_hall_dishes, aI cI h_hall_payer 7 v_hall_payer, aI cI h_hall_cost 6 v_hall_cost, aI cI h_coins 7 v_coins, aI cI h_tired 7 v_tired, aI cI h_hosted 7 v_hosted, aI cI h_owed 7 v_owed, aI cI h_paid 7 v_paid] H := hP
      have hD : va_D A [oX1 h_this h_hall h_coins h_chairOf h_tired h_hosted h_owed h_paid 0 0 v_served v_hidden v_round v_over v_host v_paidInAll v_lot, oX2 h_hall h_hall_guestName h_hall_coins h_hall_pride h_hall_speed h_hall_place h_hall_payer h_hall_dishName h_hall_cost v_hall_chairs v_hall_guests v_hall_dishes, aI cI h_hall_payer 7 v_hall_payer, aI cI h_hall_cost 6 v_hall_cost, aI cI h_coins 7 v_coins, aI cI h_tired 7 v_tired, aI cI h_hosted 7 v_hosted, aI cI h_owed 7 v_owed, aI cI h_paid 7 v_paid] := hD
      refine lv_aload_n hx hb dX1_endFeast_85 rfl (lv_at hl 0 rfl) ?_
      refine lv_iconst (v := 0) hx hb dX1_endFeast_86 (by decide) ?_
      refine va_put (D := (dC, dI)) (ci := 1) (v := .int 0) (ty := .int) (C := RX1) (T := TX1) (N := 16) hx hb hts (fun w h => List.mem_cons_of_mem _ (inU_1 w h)) tyX1 tyX1_ok nmX1 hown hK hP hD hS 0 rfl rfl 9 (by decide) (hts _ (List.mem_cons_of_mem _ U_443)) (fun _ h9 => h9) rfl (by decide +kernel) rfl rfl (Nat.le_of_ble_eq_true rfl) dX1_endFeast_87 (fun H locs hP hD hS => ?_)
      have hP : va_P (dC, dI) vwCl [oX1 h_this h_hall h_coins h_chairOf h_tired h_hosted h_owed h_paid 0 0 0 v_hidden v_round v_over v_host v_paidInAll v_lot, oX2 h_hall h_hall_guestName h_hall_coins h_hall_pride h_hall_speed h_hall_place h_hall_payer h_hall_dishName h_hall_cost v_hall_chairs v_hall_guests v_hall_dishes, aI cI h_hall_payer 7 v_hall_payer, aI cI h_hall_cost 6 v_hall_cost, aI cI h_coins 7 v_coins, aI cI h_tired 7 v_tired, aI cI h_hosted 7 v_hosted, aI cI h_owed 7 v_owed, aI cI h_paid 7 v_paid] H := hP
      have hD : va_D A [oX1 h_this h_hall h_coins h_chairOf h_tired h_hosted h_owed h_paid 0 0 0 v_hidden v_round v_over v_host v_paidInAll v_lot, oX2 h_hall h_hall_guestName h_hall_coins h_hall_pride h_hall_speed h_hall_place h_hall_payer h_hall_dishName h_hall_cost v_hall_chairs v_hall_guests v_hall_dishes, aI cI h_hall_payer 7 v_hall_payer, aI cI h_hall_cost 6 v_hall_cost, aI cI h_coins 7 v_coins, aI cI h_tired 7 v_tired, aI cI h_hosted 7 v_hosted, aI cI h_owed 7 v_owed, aI cI h_paid 7 v_paid] := hD
      refine lv_aload_n hx hb dX1_endFeast_90 rfl (lv_at hl 0 rfl) ?_
      refine lv_dup hx hb dX1_endFeast_91 rfl ?_
      refine z_pc (pc' := 92) rfl ?_
      refine va_get (D := (dC, dI)) (ci := 1) (v := .int v_over) (C := RX1) (T := TX1) (N := 16) hx hb hts (fun w h => List.mem_cons_of_mem _ (inU_1 w h)) hown hK hP 0 rfl rfl 12 (by decide) (hts _ (List.mem_cons_of_mem _ U_446)) (fun _ h9 => h9) rfl dX1_endFeast_92 ?_
      refine lv_iconst (v := 1) hx hb dX1_endFeast_95 (by decide) ?_
      refine lv_iadd hx hb dX1_endFeast_96 ?_
      refine va_put (D := (dC, dI)) (ci := 1) (v := .int (v_over + 1)) (ty := .int) (C := RX1) (T := TX1) (N := 16) hx hb hts (fun w h => List.mem_cons_of_mem _ (inU_1 w h)) tyX1 tyX1_ok nmX1 hown hK hP hD hS 0 rfl rfl 12 (by decide) (hts _ (List.mem_cons_of_mem _ U_446)) (fun _ h9 => h9) rfl (by decide +kernel) rfl rfl (Nat.le_of_ble_eq_true rfl) dX1_endFeast_97 (fun H locs hP hD hS => ?_)
      have hP : va_P (dC, dI) vwCl [oX1 h_this h_hall h_coins h_chairOf h_tired h_hosted h_owed h_paid 0 0 0 v_hidden v_round (v_over + 1) v_host v_paidInAll v_lot, oX2 h_hall h_hall_guestName h_hall_coins h_hall_pride h_hall_speed h_hall_place h_hall_payer h_hall_dishName h_hall_cost v_hall_chairs v_hall_guests v_hall_dishes, aI cI h_hall_payer 7 v_hall_payer, aI cI h_hall_cost 6 v_hall_cost, aI cI h_coins 7 v_coins, aI cI h_tired 7 v_tired, aI cI h_hosted 7 v_hosted, aI cI h_owed 7 v_owed, aI cI h_paid 7 v_paid] H := hP
      have hD : va_D A [oX1 h_this h_hall h_coins h_chairOf h_tired h_hosted h_owed h_paid 0 0 0 v_hidden v_round (v_over + 1) v_host v_paidInAll v_lot, oX2 h_hall h_hall_guestName h_hall_coins h_hall_pride h_hall_speed h_hall_place h_hall_payer h_hall_dishName h_hall_cost v_hall_chairs v_hall_guests v_hall_dishes, aI cI h_hall_payer 7 v_hall_payer, aI cI h_hall_cost 6 v_hall_cost, aI cI h_coins 7 v_coins, aI cI h_tired 7 v_tired, aI cI h_hosted 7 v_hosted, aI cI h_owed 7 v_owed, aI cI h_paid 7 v_paid] := hD
      have q0 := Option.some.inj hr
      obtain ⟨e0, q1⟩ := Prod.mk.inj q0
      obtain ⟨e1, q2⟩ := Prod.mk.inj q1
      obtain ⟨e2, q3⟩ := Prod.mk.inj q2
      obtain ⟨e3, q4⟩ := Prod.mk.inj q3
      obtain ⟨e4, q5⟩ := Prod.mk.inj q4
      obtain ⟨e5, q6⟩ := Prod.mk.inj q5
      obtain ⟨e6, q7⟩ := Prod.mk.inj q6
      obtain ⟨e7, q8⟩ := Prod.mk.inj q7
      obtain ⟨e8, q9⟩ := Prod.mk.inj q8
      obtain ⟨e9, q10⟩ := Prod.mk.inj q9
      subst e0; subst e1; subst e2; subst e3; subst e4; subst e5; subst e6; subst e7; subst e8; subst e9; subst q10
      exact W.vret hx hb hrt (fun t ht hW => ⟨⟨(), rfl, trivial, by rw [ht]; exact hP, va_K.moved hW.alike hK, hD⟩, hS.F ht⟩) hS.2.2 dX1_endFeast_100 hlocks
    · have hr := iteN hc hr
      refine lv_aload_n hx hb dX1_endFeast_25 rfl (lv_at hl 0 rfl) ?_
      refine lv_iload_n hx hb dX1_endFeast_26 rfl (lv_at hl 2 rfl) ?_
      obtain ⟨r_1, ho, hr⟩ := bind_s hr
      have hPc := hP.sub (ws' := [oX1 h_this h_hall h_coins h_chairOf h_tired h_hosted h_owed h_paid v_sitting v_taken v_served v_hidden v_round v_over v_host v_paidInAll v_lot]) [0] rfl
      have hDc := hD.sub (ws' := [oX1 h_this h_hall h_coins h_chairOf h_tired h_hosted h_owed h_paid v_sitting v_taken v_served v_hidden v_round v_over v_host v_paidInAll v_lot]) [0] (by decide) rfl
      have hFc := va_free (wc := [oX1 h_this h_hall h_coins h_chairOf h_tired h_hosted h_owed h_paid v_sitting v_taken v_served v_hidden v_round v_over v_host v_paidInAll v_lot]) hD hS hA [0] rfl
      refine va_calli (va_runV (As := [.int x2]) (rest := []) ⟨hx, hb, hml, hown, hts⟩ (mX1_isSeated l dC dI cI cJ cB cZ cF cG h_this h_hall h_coins h_chairOf h_tired h_hosted h_owed h_paid H.size v_sitting v_taken v_served v_hidden v_round v_over v_host v_paidInAll v_lot x2 r_1 ho) (cwV 1 hts (goodV U_627 U_590 U_591 U_27 U_592) rfl rfl rfl (by decide +kernel) ⟨Nat.le_trans (by decide) hR.1, Nat.le_trans (Nat.le_of_ble_eq_true rfl) hR.2⟩) ⟨fun a U g mk q => by obtain ⟨q0, q1, qP, qK, qD⟩ := q; exact ⟨q0, q1, qP, va_K.moved (u := U) (U := U.calling g mk a) (Vm.Alike.refl U.vm) qK, qD⟩, va_recv hK hPc (ci := 1) (q0 := 0) rfl rfl, fun U hU hW => ⟨rfl, by rw [hU], by rw [hU]; exact hPc, va_K.moved hW.alike hK, hDc.weaken (fun _ _ _ _ => trivial)⟩⟩ rfl rfl hl.1 rfl (lv_room (Nat.le_of_ble_eq_true rfl)) dX1_endFeast_27 ⟨Nat.zero_le _, Nat.zero_le _⟩) hS (fun q _ h => hFc q h) hFc (fun rz u t H1 locs ht hvm hw hB hz1 hk1 hS => ?_)
      obtain ⟨hP1, hK1, hD1⟩ := hB
      obtain ⟨hw, hz_1⟩ := hw
      have hw := hw.symm; subst hw
      rw [ht] at hP1
      obtain ⟨hP, hD⟩ := va_join (wr := [oX2 h_hall h_hall_guestName h_hall_coins h_hall_pride h_hall_speed h_hall_place h_hall_payer h_hall_dishName h_hall_cost v_hall_chairs v_hall_guests v_hall_dishes, aI cI h_hall_payer 7 v_hall_payer, aI cI h_hall_cost 6 v_hall_cost, aI cI h_coins 7 v_coins, aI cI h_tired 7 v_tired, aI cI h_hosted 7 v_hosted, aI cI h_owed 7 v_owed, aI cI h_paid 7 v_paid]) (w1 := [oX1 h_this h_hall h_coins h_chairOf h_tired h_hosted h_owed h_paid v_sitting v_taken v_served v_hidden v_round v_over v_host v_paidInAll v_lot]) hP hD [0] [1, 2, 3, 4, 5, 6, 7, 8] rfl rfl (by decide) (by decide) hk1 hFc hP1 hD1
      generalize H1 = H at hP hS ⊢
      have hP := hP.sub (ws' := [oX1 h_this h_hall h_coins h_chairOf h_tired h_hosted h_owed h_paid v_sitting v_taken v_served v_hidden v_round v_over v_host v_paidInAll v_lot, oX2 h_hall h_hall_guestName h_hall_coins h_hall_pride h_hall_speed h_hall_place h_hall_payer h_hall_dishName h_hall_cost v_hall_chairs v_hall_guests v_hall_dishes, aI cI h_hall_payer 7 v_hall_payer, aI cI h_hall_cost 6 v_hall_cost, aI cI h_coins 7 v_coins, aI cI h_tired 7 v_tired, aI cI h_hosted 7 v_hosted, aI cI h_owed 7 v_owed, aI cI h_paid 7 v_paid]) [8, 0, 1, 2, 3, 4, 5, 6, 7] rfl
      have hD := hD.sub (ws' := [oX1 h_this h_hall h_coins h_chairOf h_tired h_hosted h_owed h_paid v_sitting v_taken v_served v_hidden v_round v_over v_host v_paidInAll v_lot, oX2 h_hall h_hall_guestName h_hall_coins h_hall_pride h_hall_speed h_hall_place h_hall_payer h_hall_dishName h_hall_cost v_hall_chairs v_hall_guests v_hall_dishes, aI cI h_hall_payer 7 v_hall_payer, aI cI h_hall_cost 6 v_hall_cost, aI cI h_coins 7 v_coins, aI cI h_tired 7 v_tired, aI cI h_hosted 7 v_hosted, aI cI h_owed 7 v_owed, aI cI h_paid 7 v_paid]) [8, 0, 1, 2, 3, 4, 5, 6, 7] (by decide) rfl
      refine lv_if_ne (tgt := 62) hx hb dX1_endFeast_30 (by decide) (fun hc => ?_) (fun hc => ?_)
      · have hr := iteN hc hr
        refine lv_aload_n hx hb dX1_endFeast_62 rfl (lv_at hl 0 rfl) ?_
        refine va_get (D := (dC, dI)) (ci := 1) (v := .ref h_tired) (C := RX1) (T := TX1) (N := 16) hx hb hts (fun w h => List.mem_cons_of_mem _ (inU_1 w h)) hown hK hP 0 rfl rfl 3 (by decide) (hts _ (List.mem_cons_of_mem _ U_146)) (fun _ h9 => h9) rfl dX1_endFeast_63 ?_
        refine lv_iload_n hx hb dX1_endFeast_66 rfl (lv_at hl 2 rfl) ?_
        refine lv_iconst (v := 0) hx hb dX1_endFeast_67 (by decide) ?_
        obtain ⟨hg, hr⟩ := gI_s hr
        obtain ⟨w1, hw1, hr⟩ := nm_s hr
        refine z_iast hx hb hK hP hD hS 5 0 rfl rfl hg rfl hw1 dX1_endFeast_68 (fun H locs hP hD hS => ?_)
        have hP : va_P (dC, dI) vwCl [oX1 h_this h_hall h_coins h_chairOf h_tired h_hosted h_owed h_paid v_sitting v_taken v_served v_hidden v_round v_over v_host v_paidInAll v_lot, oX2 h_hall h_hall_guestName h_hall_coins h_hall_pride h_hall_speed h_hall_place h_hall_payer h_hall_dishName h_hall_cost v_hall_chairs v_hall_guests v_hall_dishes, aI cI h_hall_payer 7 v_hall_payer, aI cI h_hall_cost 6 v_hall_cost, aI cI h_coins 7 v_coins, aI cI h_tired 7 w1, aI cI h_hosted 7 v_hosted, aI cI h_owed 7 v_owed, aI cI h_paid 7 v_paid] H := hP
        have hD : va_D A [oX1 h_this h_hall h_coins h_chairOf h_tired h_hosted h_owed h_paid v_sitting v_taken v_served v_hidden v_round v_over v_host v_paidInAll v_lot, oX2 h_hall h_hall_guestName h_hall_coins h_hall_pride h_hall_speed h_hall_place h_hall_payer h_hall_dishName h_hall_cost v_hall_chairs v_hall_guests v_hall_dishes, aI cI h_hall_payer 7 v_hall_payer, aI cI h_hall_cost 6 v_hall_cost, aI cI h_coins 7 v_coins, aI cI h_tired 7 w1, aI cI h_hosted 7 v_hosted, aI cI h_owed 7 v_owed, aI cI h_paid 7 v_paid] := hD
        refine z_pc (pc' := 69) rfl ?_
        refine lv_iinc (v := (x2 + 1)) (lv' := [(2, .int (x2 + 1)), (0, .ref h_this), (1, .int x1)]) hx hb dX1_endFeast_69 hl (k := 2) rfl rfl (by decide) rfl (fun ls hl => ?_)
        refine lv_goto (tgt := 14) hx hb dX1_endFeast_72 (by decide) ?_
        exact ih v_sitting v_taken v_served v_over v_host v_paidInAll v_coins w1 v_hosted v_owed v_paid x1 (x2 + 1) hr _ _ ⟨hK, hP, hD, hS⟩ ls (lv_sub hl [1, 2, 0] rfl)
      · have hr := iteP hc hr
        refine lv_aload_n hx hb dX1_endFeast_33 rfl (lv_at hl 0 rfl) ?_
        refine lv_iload_n hx hb dX1_endFeast_34 rfl (lv_at hl 2 rfl) ?_
        refine va_put (D := (dC, dI)) (ci := 1) (v := .int x2) (ty := .int) (C := RX1) (T := TX1) (N := 16) hx hb hts (fun w h => List.mem_cons_of_mem _ (inU_1 w h)) tyX1 tyX1_ok nmX1 hown hK hP hD hS 0 rfl rfl 13 (by decide) (hts _ (List.mem_cons_of_mem _ U_150)) (fun _ h9 => h9) rfl (by decide +kernel) rfl rfl (Nat.le_of_ble_eq_true rfl) dX1_endFeast_35 (fun H locs hP hD hS => ?_)
        have hP : va_P (dC, dI) vwCl [oX1 h_this h_hall h_coins h_chairOf h_tired h_hosted h_owed h_paid v_sitting v_taken v_served v_hidden v_round v_over x2 v_paidInAll v_lot, oX2 h_hall h_hall_guestName h_hall_coins h_hall_pride h_hall_speed h_hall_place h_hall_payer h_hall_dishName h_hall_cost v_hall_chairs v_hall_guests v_hall_dishes, aI cI h_hall_payer 7 v_hall_payer, aI cI h_hall_cost 6 v_hall_cost, aI cI h_coins 7 v_coins, aI cI h_tired 7 v_tired, aI cI h_hosted 7 v_hosted, aI cI h_owed 7 v_owed, aI cI h_paid 7 v_paid] H := hP
        have hD : va_D A [oX1 h_this h_hall h_coins h_chairOf h_tired h_hosted h_owed h_paid v_sitting v_taken v_served v_hidden v_round v_over x2 v_paidInAll v_lot, oX2 h_hall h_hall_guestName h_hall_coins h_hall_pride h_hall_speed h_hall_place h_hall_payer h_hall_dishName h_hall_cost v_hall_chairs v_hall_guests v_hall_dishes, aI cI h_hall_payer 7 v_hall_payer, aI cI h_hall_cost 6 v_hall_cost, aI cI h_coins 7 v_coins, aI cI h_tired 7 v_tired, aI cI h_hosted 7 v_hosted, aI cI h_owed 7 v_owed, aI cI h_paid 7 v_paid] := hD
        refine lv_aload_n hx hb dX1_endFeast_38 rfl (lv_at hl 0 rfl) ?_
        refine va_get (D := (dC, dI)) (ci := 1) (v := .ref h_hosted) (C := RX1) (T := TX1) (N := 16) hx hb hts (fun w h => List.mem_cons_of_mem _ (inU_1 w h)) hown hK hP 0 rfl rfl 4 (by decide) (hts _ (List.mem_cons_of_mem _ U_147)) (fun _ h9 => h9) rfl dX1_endFeast_39 ?_
        refine z_pc (pc' := 42) rfl ?_
        refine lv_iload_n hx hb dX1_endFeast_42 rfl (lv_at hl 2 rfl) ?_
        refine lv_dup2_11 hx hb dX1_endFeast_43 rfl rfl ?_
        obtain ⟨hg, hr⟩ := gI_s hr
        refine z_iald hx hb hK hP 6 0 rfl rfl hg rfl dX1_endFeast_44 ?_
        refine lv_iconst (v := 1) hx hb dX1_endFeast_45 (by decide) ?_
        refine lv_iadd hx hb dX1_endFeast_46 ?_
        obtain ⟨w2, hw2, hr⟩ := nm_s hr
        refine z_topi hw2 ?_
        obtain ⟨hg, hr⟩ := gI_s hr
        obtain ⟨w3, hw3, hr⟩ := nm_s hr
        refine z_iast hx hb hK hP hD hS 6 0 rfl rfl hg rfl hw3 dX1_endFeast_47 (fun H locs hP hD hS => ?_)
        have hP : va_P (dC, dI) vwCl [oX1 h_this h_hall h_coins h_chairOf h_tired h_hosted h_owed h_paid v_sitting v_taken v_served v_hidden v_round v_over x2 v_paidInAll v_lot, oX2 h_hall h_hall_guestName h_hall_coins h_hall_pride h_hall_speed h_hall_place h_hall_payer h_hall_dishName h_hall_cost v_hall_chairs v_hall_guests v_hall_dishes, aI cI h_hall_payer 7 v_hall_payer, aI cI h_hall_cost 6 v_hall_cost, aI cI h_coins 7 v_coins, aI cI h_tired 7 v_tired, aI cI h_hosted 7 w3, aI cI h_owed 7 v_owed, aI cI h_paid 7 v_paid] H := hP
        have hD : va_D A [oX1 h_this h_hall h_coins h_chairOf h_tired h_hosted h_owed h_paid v_sitting v_taken v_served v_hidden v_round v_over x2 v_paidInAll v_lot, oX2 h_hall h_hall_guestName h_hall_coins h_hall_pride h_hall_speed h_hall_place h_hall_payer h_hall_dishName h_hall_cost v_hall_chairs v_hall_guests v_hall_dishes, aI cI h_hall_payer 7 v_hall_payer, aI cI h_hall_cost 6 v_hall_cost, aI cI h_coins 7 v_coins, aI cI h_tired 7 v_tired, aI cI h_hosted 7 w3, aI cI h_owed 7 v_owed, aI cI h_paid 7 v_paid] := hD
        refine z_pc (pc' := 48) rfl ?_
        refine lv_aload_n hx hb dX1_endFeast_48 rfl (lv_at hl 0 rfl) ?_
        refine lv_aload_n hx hb dX1_endFeast_49 rfl (lv_at hl 0 rfl) ?_
        refine va_get (D := (dC, dI)) (ci := 1) (v := .ref h_hall) (C := RX1) (T := TX1) (N := 16) hx hb hts (fun w h => List.mem_cons_of_mem _ (inU_1 w h)) hown hK hP 0 rfl rfl 0 (by decide) (hts _ (List.mem_cons_of_mem _ U_143)) (fun _ h9 => h9) rfl dX1_endFeast_50 ?_
        refine va_get (D := (dC, dI)) (ci := 2) (v := .ref h_hall_payer) (C := RX2) (T := TX2) (N := 11) hx hb hts (fun w h => List.mem_cons_of_mem _ (inU_2 w h)) hown hK hP 1 rfl rfl 5 (by decide) (hts _ (List.mem_cons_of_mem _ U_712)) (fun _ h9 => h9) rfl dX1_endFeast_53 ?_
        refine lv_iload_n hx hb dX1_endFeast_56 rfl (lv_at hl 2 rfl) ?_
        obtain ⟨hg, hr⟩ := gI_s hr
        refine z_iald hx hb hK hP 2 0 rfl rfl hg rfl dX1_endFeast_57 ?_
        refine z_pc (pc' := 58) rfl ?_
        refine lv_iload_n hx hb dX1_endFeast_58 rfl (lv_at hl 1 rfl) ?_
        obtain ⟨⟨u2_paidInAll, u2_coins, u2_owed, u2_paid⟩, ho, hr⟩ := bind_s hr
        dsimp only at hr
        have hPc := hP.sub (ws' := [oX1 h_this h_hall h_coins h_chairOf h_tired h_hosted h_owed h_paid v_sitting v_taken v_served v_hidden v_round v_over x2 v_paidInAll v_lot, aI cI h_coins 7 v_coins, aI cI h_owed 7 v_owed, aI cI h_paid 7 v_paid]) [0, 4, 7, 8] rfl
        have hDc := hD.sub (ws' := [oX1 h_this h_hall h_coins h_chairOf h_tired h_hosted h_owed h_paid v_sitting v_taken v_served v_hidden v_round v_over x2 v_paidInAll v_lot, aI cI h_coins 7 v_coins, aI cI h_owed 7 v_owed, aI cI h_paid 7 v_paid]) [0, 4, 7, 8] (by decide) rfl
        have hFc := va_free (wc := [oX1 h_this h_hall h_coins h_chairOf h_tired h_hosted h_owed h_paid v_sitting v_taken v_served v_hidden v_round v_over x2 v_paidInAll v_lot, aI cI h_coins 7 v_coins, aI cI h_owed 7 v_owed, aI cI h_paid 7 v_paid]) hD hS hA [0, 4, 7, 8] rfl
        refine va_callv (va_runV (As := [.int (v_hall_payer (Int32.toNatClampNeg x2)), .int x1]) (rest := []) ⟨hx, hb, hml, hown, hts⟩ (mX1_settle l dC dI cI cJ cB cZ cF cG h_this h_coins h_owed h_paid h_hall h_chairOf h_tired h_hosted H.size v_sitting v_taken v_served v_hidden v_round v_over x2 v_paidInAll v_lot v_coins v_owed v_paid (v_hall_payer (Int32.toNatClampNeg x2)) x1 u2_paidInAll u2_coins u2_owed u2_paid ho) (cwV 2 hts (goodV U_714 U_715 U_716 U_27 U_717) rfl rfl rfl (by decide +kernel) ⟨Nat.le_trans (by decide) hR.1, Nat.le_trans (Nat.le_of_ble_eq_true rfl) hR.2⟩) ⟨fun a U g mk q => by obtain ⟨q0, q1, qP, qK, qD⟩ := q; exact ⟨q0, q1, qP, va_K.moved (u := U) (U := U.calling g mk a) (Vm.Alike.refl U.vm) qK, qD⟩, va_recv hK hPc (ci := 1) (q0 := 0) rfl rfl, fun U hU hW => ⟨rfl, by rw [hU], by rw [hU]; exact hPc, va_K.moved hW.alike hK, hDc.weaken (fun _ _ _ _ => trivial)⟩⟩ rfl rfl hl.1 rfl (lv_room (Nat.le_of_ble_eq_true rfl)) dX1_endFeast_59 ⟨Nat.zero_le _, Nat.zero_le _⟩) hS (fun q _ h => hFc q h) hFc (fun u t H1 locs ht hvm hw hB hz1 hk1 hS => ?_)
        obtain ⟨hP1, hK1, hD1⟩ := hB
        rw [ht] at hP1
        obtain ⟨hP, hD⟩ := va_join (wr := [oX2 h_hall h_hall_guestName h_hall_coins h_hall_pride h_hall_speed h_hall_place h_hall_payer h_hall_dishName h_hall_cost v_hall_chairs v_hall_guests v_hall_dishes, aI cI h_hall_payer 7 v_hall_payer, aI cI h_hall_cost 6 v_hall_cost, aI cI h_tired 7 v_tired, aI cI h_hosted 7 w3]) (w1 := [oX1 h_this h_hall h_coins h_chairOf h_tired h_hosted h_owed h_paid v_sitting v_taken v_served v_hidden v_round v_over x2 u2_paidInAll v_lot, aI cI h_coins 7 u2_coins, aI cI h_owed 7 u2_owed, aI cI h_paid 7 u2_paid]) hP hD [0, 4, 7, 8] [1, 2, 3, 5, 6] rfl rfl (by decide) (by decide) hk1 hFc hP1 hD1
        generalize H1 = H at hP hS ⊢
        have hP := hP.sub (ws' := [oX1 h_this h_hall h_coins h_chairOf h_tired h_hosted h_owed h_paid v_sitting v_taken v_served v_hidden v_round v_over x2 u2_paidInAll v_lot, oX2 h_hall h_hall_guestName h_hall_coins h_hall_pride h_hall_speed h_hall_place h_hall_payer h_hall_dishName h_hall_cost v_hall_chairs v_hall_guests v_hall_dishes, aI cI h_hall_payer 7 v_hall_payer, aI cI h_hall_cost 6 v_hall_cost, aI cI h_coins 7 u2_coins, aI cI h_tired 7 v_tired, aI cI h_hosted 7 w3, aI cI h_owed 7 u2_owed, aI cI h_paid 7 u2_paid]) [5, 0, 1, 2, 6, 3, 4, 7, 8] rfl
        have hD := hD.sub (ws' := [oX1 h_this h_hall h_coins h_chairOf h_tired h_hosted h_owed h_paid v_sitting v_taken v_served v_hidden v_round v_over x2 u2_paidInAll v_lot, oX2 h_hall h_hall_guestName h_hall_coins h_hall_pride h_hall_speed h_hall_place h_hall_payer h_hall_dishName h_hall_cost v_hall_chairs v_hall_guests v_hall_dishes, aI cI h_hall_payer 7 v_hall_payer, aI cI h_hall_cost 6 v_hall_cost, aI cI h_coins 7 u2_coins, aI cI h_tired 7 v_tired, aI cI h_hosted 7 w3, aI cI h_owed 7 u2_owed, aI cI h_paid 7 u2_paid]) [5, 0, 1, 2, 6, 3, 4, 7, 8] (by decide) rfl
        refine lv_aload_n hx hb dX1_endFeast_62 rfl (lv_at hl 0 rfl) ?_
        refine va_get (D := (dC, dI)) (ci := 1) (v := .ref h_tired) (C := RX1) (T := TX1) (N := 16) hx hb hts (fun w h => List.mem_cons_of_mem _ (inU_1 w h)) hown hK hP 0 rfl rfl 3 (by decide) (hts _ (List.mem_cons_of_mem _ U_146)) (fun _ h9 => h9) rfl dX1_endFeast_63 ?_
        refine lv_iload_n hx hb dX1_endFeast_66 rfl (lv_at hl 2 rfl) ?_
        refine lv_iconst (v := 0) hx hb dX1_endFeast_67 (by decide) ?_
        refine z_pc (pc' := 68) rfl ?_
        obtain ⟨hg, hr⟩ := gI_s hr
        obtain ⟨w4, hw4, hr⟩ := nm_s hr
        refine z_iast hx hb hK hP hD hS 5 0 rfl rfl hg rfl hw4 dX1_endFeast_68 (fun H locs hP hD hS => ?_)
        have hP : va_P (dC, dI) vwCl [oX1 h_this h_hall h_coins h_chairOf h_tired h_hosted h_owed h_paid v_sitting v_taken v_served v_hidden v_round v_over x2 u2_paidInAll v_lot, oX2 h_hall h_hall_guestName h_hall_coins h_hall_pride h_hall_speed h_hall_place h_hall_payer h_hall_dishName h_hall_cost v_hall_chairs v_hall_guests v_hall_dishes, aI cI h_hall_payer 7 v_hall_payer, aI cI h_hall_cost 6 v_hall_cost, aI cI h_coins 7 u2_coins, aI cI h_tired 7 w4, aI cI h_hosted 7 w3, aI cI h_owed 7 u2_owed, aI cI h_paid 7 u2_paid] H := hP
        have hD : va_D A [oX1 h_this h_hall h_coins h_chairOf h_tired h_hosted h_owed h_paid v_sitting v_taken v_served v_hidden v_round v_over x2 u2_paidInAll v_lot, oX2 h_hall h_hall_guestName h_hall_coins h_hall_pride h_hall_speed h_hall_place h_hall_payer h_hall_dishName h_hall_cost v_hall_chairs v_hall_guests v_hall_dishes, aI cI h_hall_payer 7 v_hall_payer, aI cI h_hall_cost 6 v_hall_cost, aI cI h_coins 7 u2_coins, aI cI h_tired 7 w4, aI cI h_hosted 7 w3, aI cI h_owed 7 u2_owed, aI cI h_paid 7 u2_paid] := hD
        refine lv_iinc (v := (x2 + 1)) (lv' := [(2, .int (x2 + 1)), (0, .ref h_this), (1, .int x1)]) hx hb dX1_endFeast_69 hl (k := 2) rfl rfl (by decide) rfl (fun ls hl => ?_)
        refine lv_goto (tgt := 14) hx hb dX1_endFeast_72 (by decide) ?_
        exact ih v_sitting v_taken v_served v_over x2 u2_paidInAll u2_coins w4 w3 u2_owed u2_paid x1 (x2 + 1) hr _ _ ⟨hK, hP, hD, hS⟩ ls (lv_sub hl [1, 2, 0] rfl)
set_option maxHeartbeats 4000000 in
set_option maxRecDepth 100000 in
theorem tX1_endFeast {p : Program} {l : Launch} {e : Env} {R : Room} {s : State} {m : MethodId} {args : Array Value} {below : List Frame} {meth : Method} {c : Code} {dC : Nat → ClassId} {dI : Nat → Nat → Nat} {cI cJ cB cZ cF cG : ClassId} {A : Nat → Prop} (hA : ∀ q : Nat, s.heap.size ≤ q → A q) (C0 : Cx p s m meth c args cX1_endFeast 3 none RX1 uX1_endFeast) (hR : 1 ≤ R.frames ∧ 24 ≤ R.locals) (h_this : Nat) (h_hall : Nat) (h_hall_payer : Nat) (h_hall_cost : Nat) (h_coins : Nat) (h_tired : Nat) (h_hosted : Nat) (h_owed : Nat) (h_paid : Nat) (h_chairOf : Nat) (h_hall_guestName : Nat) (h_hall_coins : Nat) (h_hall_pride : Nat) (h_hall_speed : Nat) (h_hall_place : Nat) (h_hall_dishName : Nat) (v_hidden : Int32) (v_round : Int32) (v_lot : Int32) (v_hall_chairs : Int32) (v_hall_guests : Int32) (v_hall_dishes : Int32) (v_hall_payer : Nat → Int32) (v_hall_cost : Nat → Int32) (o_sitting : Int32) (o_taken : Int32) (o_served : Int32) (o_over : Int32) (o_host : Int32) (o_paidInAll : Int32) (o_coins : Nat → Int32) (o_tired : Nat → Int32) (o_hosted : Nat → Int32) (o_owed : Nat → Int32) (o_paid : Nat → Int32) :
    ∀ (v_sitting : Int32) (v_taken : Int32) (v_served : Int32) (v_over : Int32) (v_host : Int32) (v_paidInAll : Int32) (v_coins : Nat → Int32) (v_tired : Nat → Int32) (v_hosted : Nat → Int32) (v_owed : Nat → Int32) (v_paid : Nat → Int32), fX1_endFeast v_hall_guests v_hall_dishes v_hall_payer v_hall_cost v_sitting v_taken v_served v_over v_host v_paidInAll v_coins v_tired v_hosted v_owed v_paid = some (o_sitting, o_taken, o_served, o_over, o_host, o_paidInAll, o_coins, o_tired, o_hosted, o_owed, o_paid) → ∀ (H : Heap) (locs : List Loc), Wd dC dI cI cJ cB cZ cF cG A s H locs [oX1 h_this h_hall h_coins h_chairOf h_tired h_hosted h_owed h_paid v_sitting v_taken v_served v_hidden v_round v_over v_host v_paidInAll v_lot, oX2 h_hall h_hall_guestName h_hall_coins h_hall_pride h_hall_speed h_hall_place h_hall_payer h_hall_dishName h_hall_cost v_hall_chairs v_hall_guests v_hall_dishes, aI cI h_hall_payer 7 v_hall_payer, aI cI h_hall_cost 6 v_hall_cost, aI cI h_coins 7 v_coins, aI cI h_tired 7 v_tired, aI cI h_hosted 7 v_hosted, aI cI h_owed 7 v_owed, aI cI h_paid 7 v_paid] → ∀ (ls : Array Slot), lv_has ls 3 [(0, .ref h_this)] → W p l e R s m args below meth c H locs 0 0 (MQ below (PQv dC dI cI cJ cB cZ cF cG A [oX1 h_this h_hall h_coins h_chairOf h_tired h_hosted h_owed h_paid o_sitting o_taken o_served v_hidden v_round o_over o_host o_paidInAll v_lot, oX2 h_hall h_hall_guestName h_hall_coins h_hall_pride h_hall_speed h_hall_place h_hall_payer h_hall_dishName h_hall_cost v_hall_chairs v_hall_guests v_hall_dishes, aI cI h_hall_payer 7 v_hall_payer, aI cI h_hall_cost 6 v_hall_cost, aI cI h_coins 7 o_coins, aI cI h_tired 7 o_tired, aI cI h_hosted 7 o_hosted, aI cI h_owed 7 o_owed, aI cI h_paid 7 o_paid]) args s 0 0 A) (F0 m 0 ls []) := by
  obtain ⟨hx, hb, hrt, hml, hown, hts, hlocks⟩ := id C0
  intro v_sitting v_taken v_served v_over v_host v_paidInAll v_coins v_tired v_hosted v_owed v_paid hr H locs hW ls hl
  obtain ⟨hK, hP, hD, hS⟩ := hW
  have hr : ((fX2_costOf v_hall_dishes v_hall_cost v_served).bind (fun r_3 => lX1_endFeast_14 v_hall_guests v_hall_dishes v_hall_payer v_hall_cost 5000 v_sitting v_taken v_served v_over v_host v_paidInAll v_coins v_tired v_hosted v_owed v_paid r_3 0) : Option (Int32 × Int32 × Int32 × Int32 × Int32 × Int32 × (Nat → Int32) × (Nat → Int32) × (Nat → Int32) × (Nat → Int32) × (Nat → Int32))) = some (o_sitting, o_taken, o_served, o_over, o_host, o_paidInAll, o_coins, o_tired, o_hosted, o_owed, o_paid) := hr
  refine lv_aload_n hx hb dX1_endFeast_0 rfl (lv_at hl 0 rfl) ?_
  refine va_get (D := (dC, dI)) (ci := 1) (v := .ref h_hall) (C := RX1) (T := TX1) (N := 16) hx hb hts (fun w h => List.mem_cons_of_mem _ (inU_1 w h)) hown hK hP 0 rfl rfl 0 (by decide) (hts _ (List.mem_cons_of_mem _ U_143)) (fun _ h9 => h9) rfl dX1_endFeast_1 ?_
  refine lv_aload_n hx hb dX1_endFeast_4 rfl (lv_at hl 0 rfl) ?_
  refine va_get (D := (dC, dI)) (ci := 1) (v := .int v_served) (C := RX1) (T := TX1) (N := 16) hx hb hts (fun w h => List.mem_cons_of_mem _ (inU_1 w h)) hown hK hP 0 rfl rfl 9 (by decide) (hts _ (List.mem_cons_of_mem _ U_443)) (fun _ h9 => h9) rfl dX1_endFeast_5 ?_
  obtain ⟨r_3, ho, hr⟩ := bind_s hr
  have hPc := hP.sub (ws' := [oX2 h_hall h_hall_guestName h_hall_coins h_hall_pride h_hall_speed h_hall_place h_hall_payer h_hall_dishName h_hall_cost v_hall_chairs v_hall_guests v_hall_dishes, aI cI h_hall_cost 6 v_hall_cost]) [1, 3] rfl
  have hDc := hD.sub (ws' := [oX2 h_hall h_hall_guestName h_hall_coins h_hall_pride h_hall_speed h_hall_place h_hall_payer h_hall_dishName h_hall_cost v_hall_chairs v_hall_guests v_hall_dishes, aI cI h_hall_cost 6 v_hall_cost]) [1, 3] (by decide) rfl
  have hFc := va_free (wc := [oX2 h_hall h_hall_guestName h_hall_coins h_hall_pride h_hall_speed h_hall_place h_hall_payer h_hall_dishName h_hall_cost v_hall_chairs v_hall_guests v_hall_dishes, aI cI h_hall_cost 6 v_hall_cost]) hD hS hA [1, 3] rfl
  refine va_calli (va_runV (As := [.int v_served]) (rest := []) ⟨hx, hb, hml, hown, hts⟩ (mX2_costOf l dC dI cI cJ cB cZ cF cG h_hall h_hall_cost h_hall_guestName h_hall_coins h_hall_pride h_hall_speed h_hall_place h_hall_payer h_hall_dishName H.size v_hall_chairs v_hall_guests v_hall_dishes v_hall_cost v_served r_3 ho) (cwV 1 hts (goodV U_713 U_662 U_663 U_23 U_664) rfl rfl rfl (by decide +kernel) ⟨Nat.le_trans (by decide) hR.1, Nat.le_trans (Nat.le_of_ble_eq_true rfl) hR.2⟩) ⟨fun a U g mk q => by obtain ⟨q0, q1, qP, qK, qD⟩ := q; exact ⟨q0, q1, qP, va_K.moved (u := U) (U := U.calling g mk a) (Vm.Alike.refl U.vm) qK, qD⟩, va_recv hK hPc (ci := 2) (q0 := 0) rfl rfl, fun U hU hW => ⟨rfl, by rw [hU], by rw [hU]; exact hPc, va_K.moved hW.alike hK, hDc.weaken (fun _ _ _ _ => trivial)⟩⟩ rfl rfl hl.1 rfl (lv_room (Nat.le_of_ble_eq_true rfl)) dX1_endFeast_8 ⟨Nat.zero_le _, Nat.zero_le _⟩) hS (fun q _ h => hFc q h) hFc (fun rz u t H1 locs ht hvm hw hB hz1 hk1 hS => ?_)
  obtain ⟨hP1, hK1, hD1⟩ := hB
  have hw := hw.symm; subst hw
  rw [ht] at hP1
  obtain ⟨hP, hD⟩ := va_join (wr := [oX1 h_this h_hall h_coins h_chairOf h_tired h_hosted h_owed h_paid v_sitting v_taken v_served v_hidden v_round v_over v_host v_paidInAll v_lot, aI cI h_hall_payer 7 v_hall_payer, aI cI h_coins 7 v_coins, aI cI h_tired 7 v_tired, aI cI h_hosted 7 v_hosted, aI cI h_owed 7 v_owed, aI cI h_paid 7 v_paid]) (w1 := [oX2 h_hall h_hall_guestName h_hall_coins h_hall_pride h_hall_speed h_hall_place h_hall_payer h_hall_dishName h_hall_cost v_hall_chairs v_hall_guests v_hall_dishes, aI cI h_hall_cost 6 v_hall_cost]) hP hD [1, 3] [0, 2, 4, 5, 6, 7, 8] rfl rfl (by decide) (by decide) hk1 hFc hP1 hD1
  generalize H1 = H at hP hS ⊢
  have hP := hP.sub (ws' := [oX1 h_this h_hall h_coins h_chairOf h_tired h_hosted h_owed h_paid v_sitting v_taken v_served v_hidden v_round v_over v_host v_paidInAll v_lot, oX2 h_hall h_hall_guestName h_hall_coins h_hall_pride h_hall_speed h_hall_place h_hall_payer h_hall_dishName h_hall_cost v_hall_chairs v_hall_guests v_hall_dishes, aI cI h_hall_payer 7 v_hall_payer, aI cI h_hall_cost 6 v_hall_cost, aI cI h_coins 7 v_coins, aI cI h_tired 7 v_tired, aI cI h_hosted 7 v_hosted, aI cI h_owed 7 v_owed, aI cI h_paid 7 v_paid]) [0, 7, 1, 8, 2, 3, 4, 5, 6] rfl
  have hD := hD.sub (ws' := [oX1 h_this h_hall h_coins h_chairOf h_tired h_hosted h_owed h_paid v_sitting v_taken v_served v_hidden v_round v_over v_host v_paidInAll v_lot, oX2 h_hall h_hall_guestName h_hall_coins h_hall_pride h_hall_speed h_hall_place h_hall_payer h_hall_dishName h_hall_cost v_hall_chairs v_hall_guests v_hall_dishes, aI cI h_hall_payer 7 v_hall_payer, aI cI h_hall_cost 6 v_hall_cost, aI cI h_coins 7 v_coins, aI cI h_tired 7 v_tired, aI cI h_hosted 7 v_hosted, aI cI h_owed 7 v_owed, aI cI h_paid 7 v_paid]) [0, 7, 1, 8, 2, 3, 4, 5, 6] (by decide) rfl
  refine z_pc (pc' := 11) rfl ?_
  refine lv_istore_n (lv' := [(1, .int r_3), (0, .ref h_this)]) hx hb dX1_endFeast_11 rfl hl (by decide) rfl (fun ls hl => ?_)
  refine lv_iconst (v := 0) hx hb dX1_endFeast_12 (by decide) ?_
  refine lv_istore_n (lv' := [(2, .int 0), (1, .int r_3), (0, .ref h_this)]) hx hb dX1_endFeast_13 rfl hl (by decide) rfl (fun ls hl => ?_)
  exact tX1_endFeast_14 hA C0 hR h_this h_hall h_hall_payer h_hall_cost h_coins h_tired h_hosted h_owed h_paid h_chairOf h_hall_guestName h_hall_coins h_hall_pride h_hall_speed h_hall_place h_hall_dishName v_hidden v_round v_lot v_hall_chairs v_hall_guests v_hall_dishes v_hall_payer v_hall_cost o_sitting o_taken o_served o_over o_host o_paidInAll o_coins o_tired o_hosted o_owed o_paid 5000 v_sitting v_taken v_served v_over v_host v_paidInAll v_coins v_tired v_hosted v_owed v_paid r_3 0 hr _ _ ⟨hK, hP, hD, hS⟩ ls (lv_sub hl [2, 1, 0] rfl)
set_option maxHeartbeats 4000000 in
set_option maxRecDepth 100000 in
theorem mX1_endFeast (l : Launch) (dC : Nat → ClassId) (dI : Nat → Nat → Nat) (cI cJ cB cZ cF cG : ClassId) (h_this : Nat) (h_hall : Nat) (h_hall_payer : Nat) (h_hall_cost : Nat) (h_coins : Nat) (h_tired : Nat) (h_hosted : Nat) (h_owed : Nat) (h_paid : Nat) (h_chairOf : Nat) (h_hall_guestName : Nat) (h_hall_coins : Nat) (h_hall_pride : Nat) (h_hall_speed : Nat) (h_hall_place : Nat) (h_hall_dishName : Nat) (sz : Nat) (v_sitting : Int32) (v_taken : Int32) (v_served : Int32) (v_hidden : Int32) (v_round : Int32) (v_over : Int32) (v_host : Int32) (v_paidInAll : Int32) (v_lot : Int32) (v_hall_chairs : Int32) (v_hall_guests : Int32) (v_hall_dishes : Int32) (v_hall_payer : Nat → Int32) (v_hall_cost : Nat → Int32) (v_coins : Nat → Int32) (v_tired : Nat → Int32) (v_hosted : Nat → Int32) (v_owed : Nat → Int32) (v_paid : Nat → Int32) (o_sitting : Int32) (o_taken : Int32) (o_served : Int32) (o_over : Int32) (o_host : Int32) (o_paidInAll : Int32) (o_coins : Nat → Int32) (o_tired : Nat → Int32) (o_hosted : Nat → Int32) (o_owed : Nat → Int32) (o_paid : Nat → Int32) (hf : fX1_endFeast v_hall_guests v_hall_dishes v_hall_payer v_hall_cost v_sitting v_taken v_served v_over v_host v_paidInAll v_coins v_tired v_hosted v_owed v_paid = some (o_sitting, o_taken, o_served, o_over, o_host, o_paidInAll, o_coins, o_tired, o_hosted, o_owed, o_paid)) : Met l yX1_endFeast uX1_endFeast ({ frames := 1, cells := 0, slots := 0, locals := 24 }) (va_Pc [.ref h_this] (fun U => U.heap.size = sz ∧ va_P (dC, dI) vwCl [oX1 h_this h_hall h_coins h_chairOf h_tired h_hosted h_owed h_paid v_sitting v_taken v_served v_hidden v_round v_over v_host v_paidInAll v_lot, oX2 h_hall h_hall_guestName h_hall_coins h_hall_pride h_hall_speed h_hall_place h_hall_payer h_hall_dishName h_hall_cost v_hall_chairs v_hall_guests v_hall_dishes, aI cI h_hall_payer 7 v_hall_payer, aI cI h_hall_cost 6 v_hall_cost, aI cI h_coins 7 v_coins, aI cI h_tired 7 v_tired, aI cI h_hosted 7 v_hosted, aI cI h_owed 7 v_owed, aI cI h_paid 7 v_paid] U.heap ∧ va_K (dC, dI) vwCl (TYS cI cJ cB cZ cF cG) U ∧ va_D (fun _ => True) [oX1 h_this h_hall h_coins h_chairOf h_tired h_hosted h_owed h_paid v_sitting v_taken v_served v_hidden v_round v_over v_host v_paidInAll v_lot, oX2 h_hall h_hall_guestName h_hall_coins h_hall_pride h_hall_speed h_hall_place h_hall_payer h_hall_dishName h_hall_cost v_hall_chairs v_hall_guests v_hall_dishes, aI cI h_hall_payer 7 v_hall_payer, aI cI h_hall_cost 6 v_hall_cost, aI cI h_coins 7 v_coins, aI cI h_tired 7 v_tired, aI cI h_hosted 7 v_hosted, aI cI h_owed 7 v_owed, aI cI h_paid 7 v_paid])) (PQv dC dI cI cJ cB cZ cF cG (va_A [oX1 h_this h_hall h_coins h_chairOf h_tired h_hosted h_owed h_paid v_sitting v_taken v_served v_hidden v_round v_over v_host v_paidInAll v_lot, oX2 h_hall h_hall_guestName h_hall_coins h_hall_pride h_hall_speed h_hall_place h_hall_payer h_hall_dishName h_hall_cost v_hall_chairs v_hall_guests v_hall_dishes, aI cI h_hall_payer 7 v_hall_payer, aI cI h_hall_cost 6 v_hall_cost, aI cI h_coins 7 v_coins, aI cI h_tired 7 v_tired, aI cI h_hosted 7 v_hosted, aI cI h_owed 7 v_owed, aI cI h_paid 7 v_paid] sz) [oX1 h_this h_hall h_coins h_chairOf h_tired h_hosted h_owed h_paid o_sitting o_taken o_served v_hidden v_round o_over o_host o_paidInAll v_lot, oX2 h_hall h_hall_guestName h_hall_coins h_hall_pride h_hall_speed h_hall_place h_hall_payer h_hall_dishName h_hall_cost v_hall_chairs v_hall_guests v_hall_dishes, aI cI h_hall_payer 7 v_hall_payer, aI cI h_hall_cost 6 v_hall_cost, aI cI h_coins 7 o_coins, aI cI h_tired 7 o_tired, aI cI h_hosted 7 o_hosted, aI cI h_owed 7 o_owed, aI cI h_paid 7 o_paid]) 0 0 (va_A [oX1 h_this h_hall h_coins h_chairOf h_tired h_hosted h_owed h_paid v_sitting v_taken v_served v_hidden v_round v_over v_host v_paidInAll v_lot, oX2 h_hall h_hall_guestName h_hall_coins h_hall_pride h_hall_speed h_hall_place h_hall_payer h_hall_dishName h_hall_cost v_hall_chairs v_hall_guests v_hall_dishes, aI cI h_hall_payer 7 v_hall_payer, aI cI h_hall_cost 6 v_hall_cost, aI cI h_coins 7 v_coins, aI cI h_tired 7 v_tired, aI cI h_hosted 7 v_hosted, aI cI h_owed 7 v_owed, aI cI h_paid 7 v_paid] sz) := by
  refine Met.ofW (cc := cX1_endFeast) (maxL := 3) (ret := none) (by decide) rfl ?_
  intro p e s m args below meth c s₁ B hml hv
  obtain ⟨rfl, hsz, hP, hK, hD0⟩ := hv
  have hx := B.exec
  have hb := B.bytes
  have hr := B.returns
  have hts := atoms_spec (ws := uX1_endFeast) B.pre
  have hown : s.vm.findClass RX1 = some m.cls := findClass_of_methodNamed B.named
  have hlocks := B.notSynchronized
  subst hsz
  have hD := hD0.self (sz := s.heap.size)
  generalize hAe : va_A [oX1 h_this h_hall h_coins h_chairOf h_tired h_hosted h_owed h_paid v_sitting v_taken v_served v_hidden v_round v_over v_host v_paidInAll v_lot, oX2 h_hall h_hall_guestName h_hall_coins h_hall_pride h_hall_speed h_hall_place h_hall_payer h_hall_dishName h_hall_cost v_hall_chairs v_hall_guests v_hall_dishes, aI cI h_hall_payer 7 v_hall_payer, aI cI h_hall_cost 6 v_hall_cost, aI cI h_coins 7 v_coins, aI cI h_tired 7 v_tired, aI cI h_hosted 7 v_hosted, aI cI h_owed 7 v_owed, aI cI h_paid 7 v_paid] s.heap.size = A at hD ⊢
  have hA : ∀ q : Nat, s.heap.size ≤ q → A q := fun q h => by rw [← hAe]; exact Or.inr h
  have hS : va_S A s.heap s.heap [] := va_S.rf
  have hl := lv_entry ([.ref h_this]) (n := 3) (Nat.le_of_ble_eq_true rfl)
  rw [lg_entry_eq]
  generalize (lg_sl ([.ref h_this]) ++ List.replicate (3 - (lg_sl ([.ref h_this])).length) Slot.unset).toArray = ls at hl ⊢
  have hl : lv_has ls 3 [(0, .ref h_this)] := hl
  exact tX1_endFeast hA ⟨hx, hb, hr, hml, hown, hts, hlocks⟩ ⟨Nat.le_refl _, Nat.le_refl _⟩ h_this h_hall h_hall_payer h_hall_cost h_coins h_tired h_hosted h_owed h_paid h_chairOf h_hall_guestName h_hall_coins h_hall_pride h_hall_speed h_hall_place h_hall_dishName v_hidden v_round v_lot v_hall_chairs v_hall_guests v_hall_dishes v_hall_payer v_hall_cost o_sitting o_taken o_served o_over o_host o_paidInAll o_coins o_tired o_hosted o_owed o_paid v_sitting v_taken v_served v_over v_host v_paidInAll v_coins v_tired v_hosted v_owed v_paid hf _ _ ⟨hK, hP, hD, hS⟩ ls hl
-- LastSeat$Feast.sitDown(I)V
def uX1_sitDown : List Cond := .code yX1_sitDown cX1_sitDown 2 none :: wsU
set_option maxHeartbeats 4000000 in
set_option maxRecDepth 100000 in
theorem tX1_sitDown {p : Program} {l : Launch} {e : Env} {R : Room} {s : State} {m : MethodId} {args : Array Value} {below : List Frame} {meth : Method} {c : Code} {dC : Nat → ClassId} {dI : Nat → Nat → Nat} {cI cJ cB cZ cF cG : ClassId} {A : Nat → Prop} (hA : ∀ q : Nat, s.heap.size ≤ q → A q) (C0 : Cx p s m meth c args cX1_sitDown 2 none RX1 uX1_sitDown) (hR : 2 ≤ R.frames ∧ 46 ≤ R.locals) (h_this : Nat) (h_hall : Nat) (h_hall_payer : Nat) (h_hall_cost : Nat) (h_coins : Nat) (h_chairOf : Nat) (h_tired : Nat) (h_hosted : Nat) (h_owed : Nat) (h_paid : Nat) (h_hall_guestName : Nat) (h_hall_coins : Nat) (h_hall_pride : Nat) (h_hall_speed : Nat) (h_hall_place : Nat) (h_hall_dishName : Nat) (v_hidden : Int32) (v_round : Int32) (v_lot : Int32) (v_hall_chairs : Int32) (v_hall_guests : Int32) (v_hall_dishes : Int32) (v_hall_payer : Nat → Int32) (v_hall_cost : Nat → Int32) (v_chairOf : Nat → Int32) (o_sitting : Int32) (o_taken : Int32) (o_served : Int32) (o_over : Int32) (o_host : Int32) (o_paidInAll : Int32) (o_coins : Nat → Int32) (o_tired : Nat → Int32) (o_hosted : Nat → Int32) (o_owed : Nat → Int32) (o_paid : Nat → Int32) :
    ∀ (v_sitting : Int32) (v_taken : Int32) (v_served : Int32) (v_over : Int32) (v_host : Int32) (v_paidInAll : Int32) (v_coins : Nat → Int32) (v_tired : Nat → Int32) (v_hosted : Nat → Int32) (v_owed : Nat → Int32) (v_paid : Nat → Int32) (x1 : Int32), fX1_sitDown v_hall_guests v_hall_dishes v_hall_payer v_hall_cost v_chairOf v_sitting v_taken v_served v_over v_host v_paidInAll v_coins v_tired v_hosted v_owed v_paid x1 = some (o_sitting, o_taken, o_served, o_over, o_host, o_paidInAll, o_coins, o_tired, o_hosted, o_owed, o_paid) → ∀ (H : Heap) (locs : List Loc), Wd dC dI cI cJ cB cZ cF cG A s H locs [oX1 h_this h_hall h_coins h_chairOf h_tired h_hosted h_owed h_paid v_sitting v_taken v_served v_hidden v_round v_over v_host v_paidInAll v_lot, oX2 h_hall h_hall_guestName h_hall_coins h_hall_pride h_hall_speed h_hall_place h_hall_payer h_hall_dishName h_hall_cost v_hall_chairs v_hall_guests v_hall_dishes, aI cI h_hall_payer 7 v_hall_payer, aI cI h_hall_cost 6 v_hall_cost, aI cI h_coins 7 v_coins, aI cI h_chairOf 7 v_chairOf, aI cI h_tired 7 v_tired, aI cI h_hosted 7 v_hosted, aI cI h_owed 7 v_owed, aI cI h_paid 7 v_paid] → ∀ (ls : Array Slot), lv_has ls 2 [(0, .ref h_this), (1, .int x1)] → W p l e R s m args below meth c H locs 0 0 (MQ below (PQv dC dI cI cJ cB cZ cF cG A [oX1 h_this h_hall h_coins h_chairOf h_tired h_hosted h_owed h_paid o_sitting o_taken o_served v_hidden v_round o_over o_host o_paidInAll v_lot, oX2 h_hall h_hall_guestName h_hall_coins h_hall_pride h_hall_speed h_hall_place h_hall_payer h_hall_dishName h_hall_cost v_hall_chairs v_hall_guests v_hall_dishes, aI cI h_hall_payer 7 v_hall_payer, aI cI h_hall_cost 6 v_hall_cost, aI cI h_coins 7 o_coins, aI cI h_chairOf 7 v_chairOf, aI cI h_tired 7 o_tired, aI cI h_hosted 7 o_hosted, aI cI h_owed 7 o_owed, aI cI h_paid 7 o_paid]) args s 0 0 A) (F0 m 0 ls []) := by
  obtain ⟨hx, hb, hrt, hml, hown, hts, hlocks⟩ := id C0
  intro v_sitting v_taken v_served v_over v_host v_paidInAll v_coins v_tired v_hosted v_owed v_paid x1 hr H locs hW ls hl
  obtain ⟨hK, hP, hD, hS⟩ := hW
  have hr : (nmv (v_sitting ||| (1 <<< (x1 &&& 31))) (fun w1 => gI x1 7 (nmv (v_taken ||| (1 <<< ((v_chairOf (Int32.toNatClampNeg x1)) &&& 31))) (fun w2 => (fJ6_bitCount_0f7a4 w1).bind (fun r_1 => if (v_hall_guests - r_1) = 1 then (fX1_endFeast v_hall_guests v_hall_dishes v_hall_payer v_hall_cost w1 w2 v_served v_over v_host v_paidInAll v_coins v_tired v_hosted v_owed v_paid).bind (fun (u2_sitting, u2_taken, u2_served, u2_over, u2_host, u2_paidInAll, u2_coins, u2_tired, u2_hosted, u2_owed, u2_paid) => some (u2_sitting, u2_taken, u2_served, u2_over, u2_host, u2_paidInAll, u2_coins, u2_tired, u2_hosted, u2_owed, u2_paid)) else some (w1, w2, v_served, v_over, v_host, v_paidInAll, v_coins, v_tired, v_hosted, v_owed, v_paid))))) : Option (Int32 × Int32 × Int32 × Int32 × Int32 × Int32 × (Nat → Int32) × (Nat → Int32) × (Nat → Int32) × (Nat → Int32) × (Nat → Int32))) = some (o_sitting, o_taken, o_served, o_over, o_host, o_paidInAll, o_coins, o_tired, o_hosted, o_owed, o_paid) := hr
  refine lv_aload_n hx hb dX1_sitDown_0 rfl (lv_at hl 0 rfl) ?_
  refine lv_dup hx hb dX1_sitDown_1 rfl ?_
  refine va_get (D := (dC, dI)) (ci := 1) (v := .int v_sitting) (C := RX1) (T := TX1) (N := 16) hx hb hts (fun w h => List.mem_cons_of_mem _ (inU_1 w h)) hown hK hP 0 rfl rfl 7 (by decide) (hts _ (List.mem_cons_of_mem _ U_441)) (fun _ h9 => h9) rfl dX1_sitDown_2 ?_
  refine lv_iconst (v := 1) hx hb dX1_sitDown_5 (by decide) ?_
  refine lv_iload_n hx hb dX1_sitDown_6 rfl (lv_at hl 1 rfl) ?_
  refine z_pc (pc' := 7) rfl ?_
  refine lv_ishl hx hb dX1_sitDown_7 ?_
  refine lv_ior hx hb dX1_sitDown_8 ?_
  obtain ⟨w1, hw1, hr⟩ := nm_s hr
  refine z_topi hw1 ?_
  refine va_put (D := (dC, dI)) (ci := 1) (v := .int w1) (ty := .int) (C := RX1) (T := TX1) (N := 16) hx hb hts (fun w h => List.mem_cons_of_mem _ (inU_1 w h)) tyX1 tyX1_ok nmX1 hown hK hP hD hS 0 rfl rfl 7 (by decide) (hts _ (List.mem_cons_of_mem _ U_441)) (fun _ h9 => h9) rfl (by decide +kernel) rfl rfl (Nat.le_of_ble_eq_true rfl) dX1_sitDown_9 (fun H locs hP hD hS => ?_)
  have hP : va_P (dC, dI) vwCl [oX1 h_this h_hall h_coins h_chairOf h_tired h_hosted h_owed h_paid w1 v_taken v_served v_hidden v_round v_over v_host v_paidInAll v_lot, oX2 h_hall h_hall_guestName h_hall_coins h_hall_pride h_hall_speed h_hall_place h_hall_payer h_hall_dishName h_hall_cost v_hall_chairs v_hall_guests v_hall_dishes, aI cI h_hall_payer 7 v_hall_payer, aI cI h_hall_cost 6 v_hall_cost, aI cI h_coins 7 v_coins, aI cI h_chairOf 7 v_chairOf, aI cI h_tired 7 v_tired, aI cI h_hosted 7 v_hosted, aI cI h_owed 7 v_owed, aI cI h_paid 7 v_paid] H := hP
  have hD : va_D A [oX1 h_this h_hall h_coins h_chairOf h_tired h_hosted h_owed h_paid w1 v_taken v_served v_hidden v_round v_over v_host v_paidInAll v_lot, oX2 h_hall h_hall_guestName h_hall_coins h_hall_pride h_hall_speed h_hall_place h_hall_payer h_hall_dishName h_hall_cost v_hall_chairs v_hall_guests v_hall_dishes, aI cI h_hall_payer 7 v_hall_payer, aI cI h_hall_cost 6 v_hall_cost, aI cI h_coins 7 v_coins, aI cI h_chairOf 7 v_chairOf, aI cI h_tired 7 v_tired, aI cI h_hosted 7 v_hosted, aI cI h_owed 7 v_owed, aI cI h_paid 7 v_paid] := hD
  refine lv_aload_n hx hb dX1_sitDown_12 rfl (lv_at hl 0 rfl) ?_
  refine lv_dup hx hb dX1_sitDown_13 rfl ?_
  refine va_get (D := (dC, dI)) (ci := 1) (v := .int v_taken) (C := RX1) (T := TX1) (N := 16) hx hb hts (fun w h => List.mem_cons_of_mem _ (inU_1 w h)) hown hK hP 0 rfl rfl 8 (by decide) (hts _ (List.mem_cons_of_mem _ U_442)) (fun _ h9 => h9) rfl dX1_sitDown_14 ?_
  refine z_pc (pc' := 17) rfl ?_
  refine lv_iconst (v := 1) hx hb dX1_sitDown_17 (by decide) ?_
  refine lv_aload_n hx hb dX1_sitDown_18 rfl (lv_at hl 0 rfl) ?_
  refine va_get (D := (dC, dI)) (ci := 1) (v := .ref h_chairOf) (C := RX1) (T := TX1) (N := 16) hx hb hts (fun w h => List.mem_cons_of_mem _ (inU_1 w h)) hown hK hP 0 rfl rfl 2 (by decide) (hts _ (List.mem_cons_of_mem _ U_145)) (fun _ h9 => h9) rfl dX1_sitDown_19 ?_
  refine lv_iload_n hx hb dX1_sitDown_22 rfl (lv_at hl 1 rfl) ?_
  obtain ⟨hg, hr⟩ := gI_s hr
  refine z_iald hx hb hK hP 5 0 rfl rfl hg rfl dX1_sitDown_23 ?_
  refine lv_ishl hx hb dX1_sitDown_24 ?_
  refine z_pc (pc' := 25) rfl ?_
  refine lv_ior hx hb dX1_sitDown_25 ?_
  obtain ⟨w2, hw2, hr⟩ := nm_s hr
  refine z_topi hw2 ?_
  refine va_put (D := (dC, dI)) (ci := 1) (v := .int w2) (ty := .int) (C := RX1) (T := TX1) (N := 16) hx hb hts (fun w h => List.mem_cons_of_mem _ (inU_1 w h)) tyX1 tyX1_ok nmX1 hown hK hP hD hS 0 rfl rfl 8 (by decide) (hts _ (List.mem_cons_of_mem _ U_442)) (fun _ h9 => h9) rfl (by decide +kernel) rfl rfl (Nat.le_of_ble_eq_true rfl) dX1_sitDown_26 (fun H locs hP hD hS => ?_)
  have hP : va_P (dC, dI) vwCl [oX1 h_this h_hall h_coins h_chairOf h_tired h_hosted h_owed h_paid w1 w2 v_served v_hidden v_round v_over v_host v_paidInAll v_lot, oX2 h_hall h_hall_guestName h_hall_coins h_hall_pride h_hall_speed h_hall_place h_hall_payer h_hall_dishName h_hall_cost v_hall_chairs v_hall_guests v_hall_dishes, aI cI h_hall_payer 7 v_hall_payer, aI cI h_hall_cost 6 v_hall_cost, aI cI h_coins 7 v_coins, aI cI h_chairOf 7 v_chairOf, aI cI h_tired 7 v_tired, aI cI h_hosted 7 v_hosted, aI cI h_owed 7 v_owed, aI cI h_paid 7 v_paid] H := hP
  have hD : va_D A [oX1 h_this h_hall h_coins h_chairOf h_tired h_hosted h_owed h_paid w1 w2 v_served v_hidden v_round v_over v_host v_paidInAll v_lot, oX2 h_hall h_hall_guestName h_hall_coins h_hall_pride h_hall_speed h_hall_place h_hall_payer h_hall_dishName h_hall_cost v_hall_chairs v_hall_guests v_hall_dishes, aI cI h_hall_payer 7 v_hall_payer, aI cI h_hall_cost 6 v_hall_cost, aI cI h_coins 7 v_coins, aI cI h_chairOf 7 v_chairOf, aI cI h_tired 7 v_tired, aI cI h_hosted 7 v_hosted, aI cI h_owed 7 v_owed, aI cI h_paid 7 v_paid] := hD
  refine lv_aload_n hx hb dX1_sitDown_29 rfl (lv_at hl 0 rfl) ?_
  refine va_get (D := (dC, dI)) (ci := 1) (v := .ref h_hall) (C := RX1) (T := TX1) (N := 16) hx hb hts (fun w h => List.mem_cons_of_mem _ (inU_1 w h)) hown hK hP 0 rfl rfl 0 (by decide) (hts _ (List.mem_cons_of_mem _ U_143)) (fun _ h9 => h9) rfl dX1_sitDown_30 ?_
  refine va_get (D := (dC, dI)) (ci := 2) (v := .int v_hall_guests) (C := RX2) (T := TX2) (N := 11) hx hb hts (fun w h => List.mem_cons_of_mem _ (inU_2 w h)) hown hK hP 1 rfl rfl 9 (by decide) (hts _ (List.mem_cons_of_mem _ U_626)) (fun _ h9 => h9) rfl dX1_sitDown_33 ?_
  refine lv_aload_n hx hb dX1_sitDown_36 rfl (lv_at hl 0 rfl) ?_
  refine z_pc (pc' := 37) rfl ?_
  refine va_get (D := (dC, dI)) (ci := 1) (v := .int w1) (C := RX1) (T := TX1) (N := 16) hx hb hts (fun w h => List.mem_cons_of_mem _ (inU_1 w h)) hown hK hP 0 rfl rfl 7 (by decide) (hts _ (List.mem_cons_of_mem _ U_441)) (fun _ h9 => h9) rfl dX1_sitDown_37 ?_
  obtain ⟨r_1, ho, hr⟩ := bind_s hr
  have hPc := hP.sub (ws' := []) [] rfl
  have hDc := hD.sub (ws' := []) [] (by decide) rfl
  have hFc := va_free (wc := []) hD hS hA [] rfl
  refine va_calli (va_runS (As := [.int w1]) (rest := [.int v_hall_guests]) ⟨hx, hb, hml, hown, hts⟩ (mJ6_bitCount_0f7a4 l dC dI cI cJ cB cZ cF cG H.size w1 r_1 ho) (va_cwS 1 hts (goodS U_701 U_702 U_703 U_704) rfl rfl rfl (by decide +kernel) ⟨Nat.le_trans (by decide) hR.1, Nat.le_trans (Nat.le_of_ble_eq_true rfl) hR.2⟩) ⟨fun a U g mk q => by obtain ⟨q0, q1, qP, qK, qD⟩ := q; exact ⟨q0, q1, qP, va_K.moved (u := U) (U := U.calling g mk a) (Vm.Alike.refl U.vm) qK, qD⟩, fun U hU hW => ⟨rfl, by rw [hU], by rw [hU]; exact hPc, va_K.moved hW.alike hK, hDc.weaken (fun _ _ _ _ => trivial)⟩⟩ rfl rfl hl.1 rfl (lv_room (Nat.le_of_ble_eq_true rfl)) dX1_sitDown_40 ⟨Nat.zero_le _, Nat.zero_le _⟩) hS (fun q _ h => hFc q h) hFc (fun rz u t H1 locs ht hvm hw hB hz1 hk1 hS => ?_)
  obtain ⟨hP1, hK1, hD1⟩ := hB
  have hw := hw.symm; subst hw
  rw [ht] at hP1
  obtain ⟨hP, hD⟩ := va_join (wr := [oX1 h_this h_hall h_coins h_chairOf h_tired h_hosted h_owed h_paid w1 w2 v_served v_hidden v_round v_over v_host v_paidInAll v_lot, oX2 h_hall h_hall_guestName h_hall_coins h_hall_pride h_hall_speed h_hall_place h_hall_payer h_hall_dishName h_hall_cost v_hall_chairs v_hall_guests v_hall_dishes, aI cI h_hall_payer 7 v_hall_payer, aI cI h_hall_cost 6 v_hall_cost, aI cI h_coins 7 v_coins, aI cI h_chairOf 7 v_chairOf, aI cI h_tired 7 v_tired, aI cI h_hosted 7 v_hosted, aI cI h_owed 7 v_owed, aI cI h_paid 7 v_paid]) (w1 := []) hP hD [] [0, 1, 2, 3, 4, 5, 6, 7, 8, 9] rfl rfl (by decide) (by decide) hk1 hFc hP1 hD1
  generalize H1 = H at hP hS ⊢
  have hP : va_P (dC, dI) vwCl [oX1 h_this h_hall h_coins h_chairOf h_tired h_hosted h_owed h_paid w1 w2 v_served v_hidden v_round v_over v_host v_paidInAll v_lot, oX2 h_hall h_hall_guestName h_hall_coins h_hall_pride h_hall_speed h_hall_place h_hall_payer h_hall_dishName h_hall_cost v_hall_chairs v_hall_guests v_hall_dishes, aI cI h_hall_payer 7 v_hall_payer, aI cI h_hall_cost 6 v_hall_cost, aI cI h_coins 7 v_coins, aI cI h_chairOf 7 v_chairOf, aI cI h_tired 7 v_tired, aI cI h_hosted 7 v_hosted, aI cI h_owed 7 v_owed, aI cI h_paid 7 v_paid] H := hP
  have hD : va_D A [oX1 h_this h_hall h_coins h_chairOf h_tired h_hosted h_owed h_paid w1 w2 v_served v_hidden v_round v_over v_host v_paidInAll v_lot, oX2 h_hall h_hall_guestName h_hall_coins h_hall_pride h_hall_speed h_hall_place h_hall_payer h_hall_dishName h_hall_cost v_hall_chairs v_hall_guests v_hall_dishes, aI cI h_hall_payer 7 v_hall_payer, aI cI h_hall_cost 6 v_hall_cost, aI cI h_coins 7 v_coins, aI cI h_chairOf 7 v_chairOf, aI cI h_tired 7 v_tired, aI cI h_hosted 7 v_hosted, aI cI h_owed 7 v_owed, aI cI h_paid 7 v_paid] := hD
  refine lv_isub hx hb dX1_sitDown_43 ?_
  refine lv_iconst (v := 1) hx hb dX1_sitDown_44 (by decide) ?_
  refine lv_icmp_ne (tgt := 52) hx hb dX1_sitDown_45 (by decide) (fun hc => ?_) (fun hc => ?_)
  · have hr := iteN hc hr
    have q0 := Option.some.inj hr
    obtain ⟨e0, q1⟩ := Prod.mk.inj q0
    obtain ⟨e1, q2⟩ := Prod.mk.inj q1
    obtain ⟨e2, q3⟩ := Prod.mk.inj q2
    obtain ⟨e3, q4⟩ := Prod.mk.inj q3
    obtain ⟨e4, q5⟩ := Prod.mk.inj q4
    obtain ⟨e5, q6⟩ := Prod.mk.inj q5
    obtain ⟨e6, q7⟩ := Prod.mk.inj q6
    obtain ⟨e7, q8⟩ := Prod.mk.inj q7
    obtain ⟨e8, q9⟩ := Prod.mk.inj q8
    obtain ⟨e9, q10⟩ := Prod.mk.inj q9
    subst e0; subst e1; subst e2; subst e3; subst e4; subst e5; subst e6; subst e7; subst e8; subst e9; subst q10
    exact W.vret hx hb hrt (fun t ht hW => ⟨⟨(), rfl, trivial, by rw [ht]; exact hP, va_K.moved hW.alike hK, hD⟩, hS.F ht⟩) hS.2.2 dX1_sitDown_52 hlocks
  · have hr := iteP hc hr
    refine lv_aload_n hx hb dX1_sitDown_48 rfl (lv_at hl 0 rfl) ?_
    obtain ⟨⟨u2_sitting, u2_taken, u2_served, u2_over, u2_host, u2_paidInAll, u2_coins, u2_tired, u2_hosted, u2_owed, u2_paid⟩, ho, hr⟩ := bind_s hr
    dsimp only at hr
    have hPc := hP.sub (ws' := [oX1 h_this h_hall h_coins h_chairOf h_tired h_hosted h_owed h_paid w1 w2 v_served v_hidden v_round v_over v_host v_paidInAll v_lot, oX2 h_hall h_hall_guestName h_hall_coins h_hall_pride h_hall_speed h_hall_place h_hall_payer h_hall_dishName h_hall_cost v_hall_chairs v_hall_guests v_hall_dishes, aI cI h_hall_payer 7 v_hall_payer, aI cI h_hall_cost 6 v_hall_cost, aI cI h_coins 7 v_coins, aI cI h_tired 7 v_tired, aI cI h_hosted 7 v_hosted, aI cI h_owed 7 v_owed, aI cI h_paid 7 v_paid]) [0, 1, 2, 3, 4, 6, 7, 8, 9] rfl
    have hDc := hD.sub (ws' := [oX1 h_this h_hall h_coins h_chairOf h_tired h_hosted h_owed h_paid w1 w2 v_served v_hidden v_round v_over v_host v_paidInAll v_lot, oX2 h_hall h_hall_guestName h_hall_coins h_hall_pride h_hall_speed h_hall_place h_hall_payer h_hall_dishName h_hall_cost v_hall_chairs v_hall_guests v_hall_dishes, aI cI h_hall_payer 7 v_hall_payer, aI cI h_hall_cost 6 v_hall_cost, aI cI h_coins 7 v_coins, aI cI h_tired 7 v_tired, aI cI h_hosted 7 v_hosted, aI cI h_owed 7 v_owed, aI cI h_paid 7 v_paid]) [0, 1, 2, 3, 4, 6, 7, 8, 9] (by decide) rfl
    have hFc := va_free (wc := [oX1 h_this h_hall h_coins h_chairOf h_tired h_hosted h_owed h_paid w1 w2 v_served v_hidden v_round v_over v_host v_paidInAll v_lot, oX2 h_hall h_hall_guestName h_hall_coins h_hall_pride h_hall_speed h_hall_place h_hall_payer h_hall_dishName h_hall_cost v_hall_chairs v_hall_guests v_hall_dishes, aI cI h_hall_payer 7 v_hall_payer, aI cI h_hall_cost 6 v_hall_cost, aI cI h_coins 7 v_coins, aI cI h_tired 7 v_tired, aI cI h_hosted 7 v_hosted, aI cI h_owed 7 v_owed, aI cI h_paid 7 v_paid]) hD hS hA [0, 1, 2, 3, 4, 6, 7, 8, 9] rfl
    refine va_callv (va_runV (As := []) (rest := []) ⟨hx, hb, hml, hown, hts⟩ (mX1_endFeast l dC dI cI cJ cB cZ cF cG h_this h_hall h_hall_payer h_hall_cost h_coins h_tired h_hosted h_owed h_paid h_chairOf h_hall_guestName h_hall_coins h_hall_pride h_hall_speed h_hall_place h_hall_dishName H.size w1 w2 v_served v_hidden v_round v_over v_host v_paidInAll v_lot v_hall_chairs v_hall_guests v_hall_dishes v_hall_payer v_hall_cost v_coins v_tired v_hosted v_owed v_paid u2_sitting u2_taken u2_served u2_over u2_host u2_paidInAll u2_coins u2_tired u2_hosted u2_owed u2_paid ho) (cwV 0 hts (goodV U_708 U_709 U_710 U_27 U_711) rfl rfl rfl (by decide +kernel) ⟨Nat.le_trans (by decide) hR.1, Nat.le_trans (Nat.le_of_ble_eq_true rfl) hR.2⟩) ⟨fun a U g mk q => by obtain ⟨q0, q1, qP, qK, qD⟩ := q; exact ⟨q0, q1, qP, va_K.moved (u := U) (U := U.calling g mk a) (Vm.Alike.refl U.vm) qK, qD⟩, va_recv hK hPc (ci := 1) (q0 := 0) rfl rfl, fun U hU hW => ⟨rfl, by rw [hU], by rw [hU]; exact hPc, va_K.moved hW.alike hK, hDc.weaken (fun _ _ _ _ => trivial)⟩⟩ rfl rfl hl.1 rfl (lv_room (Nat.le_of_ble_eq_true rfl)) dX1_sitDown_49 ⟨Nat.zero_le _, Nat.zero_le _⟩) hS (fun q _ h => hFc q h) hFc (fun u t H1 locs ht hvm hw hB hz1 hk1 hS => ?_)
    obtain ⟨hP1, hK1, hD1⟩ := hB
    rw [ht] at hP1
    obtain ⟨hP, hD⟩ := va_join (wr := [aI cI h_chairOf 7 v_chairOf]) (w1 := [oX1 h_this h_hall h_coins h_chairOf h_tired h_hosted h_owed h_paid u2_sitting u2_taken u2_served v_hidden v_round u2_over u2_host u2_paidInAll v_lot, oX2 h_hall h_hall_guestName h_hall_coins h_hall_pride h_hall_speed h_hall_place h_hall_payer h_hall_dishName h_hall_cost v_hall_chairs v_hall_guests v_hall_dishes, aI cI h_hall_payer 7 v_hall_payer, aI cI h_hall_cost 6 v_hall_cost, aI cI h_coins 7 u2_coins, aI cI h_tired 7 u2_tired, aI cI h_hosted 7 u2_hosted, aI cI h_owed 7 u2_owed, aI cI h_paid 7 u2_paid]) hP hD [0, 1, 2, 3, 4, 6, 7, 8, 9] [5] rfl rfl (by decide) (by decide) hk1 hFc hP1 hD1
    generalize H1 = H at hP hS ⊢
    have hP := hP.sub (ws' := [oX1 h_this h_hall h_coins h_chairOf h_tired h_hosted h_owed h_paid u2_sitting u2_taken u2_served v_hidden v_round u2_over u2_host u2_paidInAll v_lot, oX2 h_hall h_hall_guestName h_hall_coins h_hall_pride h_hall_speed h_hall_place h_hall_payer h_hall_dishName h_hall_cost v_hall_chairs v_hall_guests v_hall_dishes, aI cI h_hall_payer 7 v_hall_payer, aI cI h_hall_cost 6 v_hall_cost, aI cI h_coins 7 u2_coins, aI cI h_chairOf 7 v_chairOf, aI cI h_tired 7 u2_tired, aI cI h_hosted 7 u2_hosted, aI cI h_owed 7 u2_owed, aI cI h_paid 7 u2_paid]) [1, 2, 3, 4, 5, 0, 6, 7, 8, 9] rfl
    have hD := hD.sub (ws' := [oX1 h_this h_hall h_coins h_chairOf h_tired h_hosted h_owed h_paid u2_sitting u2_taken u2_served v_hidden v_round u2_over u2_host u2_paidInAll v_lot, oX2 h_hall h_hall_guestName h_hall_coins h_hall_pride h_hall_speed h_hall_place h_hall_payer h_hall_dishName h_hall_cost v_hall_chairs v_hall_guests v_hall_dishes, aI cI h_hall_payer 7 v_hall_payer, aI cI h_hall_cost 6 v_hall_cost, aI cI h_coins 7 u2_coins, aI cI h_chairOf 7 v_chairOf, aI cI h_tired 7 u2_tired, aI cI h_hosted 7 u2_hosted, aI cI h_owed 7 u2_owed, aI cI h_paid 7 u2_paid]) [1, 2, 3, 4, 5, 0, 6, 7, 8, 9] (by decide) rfl
    have q0 := Option.some.inj hr
    obtain ⟨e0, q1⟩ := Prod.mk.inj q0
    obtain ⟨e1, q2⟩ := Prod.mk.inj q1
    obtain ⟨e2, q3⟩ := Prod.mk.inj q2
    obtain ⟨e3, q4⟩ := Prod.mk.inj q3
    obtain ⟨e4, q5⟩ := Prod.mk.inj q4
    obtain ⟨e5, q6⟩ := Prod.mk.inj q5
    obtain ⟨e6, q7⟩ := Prod.mk.inj q6
    obtain ⟨e7, q8⟩ := Prod.mk.inj q7
    obtain ⟨e8, q9⟩ := Prod.mk.inj q8
    obtain ⟨e9, q10⟩ := Prod.mk.inj q9
    subst e0; subst e1; subst e2; subst e3; subst e4; subst e5; subst e6; subst e7; subst e8; subst e9; subst q10
    exact W.vret hx hb hrt (fun t ht hW => ⟨⟨(), rfl, trivial, by rw [ht]; exact hP, va_K.moved hW.alike hK, hD⟩, hS.F ht⟩) hS.2.2 dX1_sitDown_52 hlocks
set_option maxHeartbeats 4000000 in
set_option maxRecDepth 100000 in
theorem mX1_sitDown (l : Launch) (dC : Nat → ClassId) (dI : Nat → Nat → Nat) (cI cJ cB cZ cF cG : ClassId) (h_this : Nat) (h_hall : Nat) (h_hall_payer : Nat) (h_hall_cost : Nat) (h_coins : Nat) (h_chairOf : Nat) (h_tired : Nat) (h_hosted : Nat) (h_owed : Nat) (h_paid : Nat) (h_hall_guestName : Nat) (h_hall_coins : Nat) (h_hall_pride : Nat) (h_hall_speed : Nat) (h_hall_place : Nat) (h_hall_dishName : Nat) (sz : Nat) (v_sitting : Int32) (v_taken : Int32) (v_served : Int32) (v_hidden : Int32) (v_round : Int32) (v_over : Int32) (v_host : Int32) (v_paidInAll : Int32) (v_lot : Int32) (v_hall_chairs : Int32) (v_hall_guests : Int32) (v_hall_dishes : Int32) (v_hall_payer : Nat → Int32) (v_hall_cost : Nat → Int32) (v_coins : Nat → Int32) (v_chairOf : Nat → Int32) (v_tired : Nat → Int32) (v_hosted : Nat → Int32) (v_owed : Nat → Int32) (v_paid : Nat → Int32) (x1 : Int32) (o_sitting : Int32) (o_taken : Int32) (o_served : Int32) (o_over : Int32) (o_host : Int32) (o_paidInAll : Int32) (o_coins : Nat → Int32) (o_tired : Nat → Int32) (o_hosted : Nat → Int32) (o_owed : Nat → Int32) (o_paid : Nat → Int32) (hf : fX1_sitDown v_hall_guests v_hall_dishes v_hall_payer v_hall_cost v_chairOf v_sitting v_taken v_served v_over v_host v_paidInAll v_coins v_tired v_hosted v_owed v_paid x1 = some (o_sitting, o_taken, o_served, o_over, o_host, o_paidInAll, o_coins, o_tired, o_hosted, o_owed, o_paid)) : Met l yX1_sitDown uX1_sitDown ({ frames := 2, cells := 0, slots := 0, locals := 46 }) (va_Pc [.ref h_this, .int x1] (fun U => U.heap.size = sz ∧ va_P (dC, dI) vwCl [oX1 h_this h_hall h_coins h_chairOf h_tired h_hosted h_owed h_paid v_sitting v_taken v_served v_hidden v_round v_over v_host v_paidInAll v_lot, oX2 h_hall h_hall_guestName h_hall_coins h_hall_pride h_hall_speed h_hall_place h_hall_payer h_hall_dishName h_hall_cost v_hall_chairs v_hall_guests v_hall_dishes, aI cI h_hall_payer 7 v_hall_payer, aI cI h_hall_cost 6 v_hall_cost, aI cI h_coins 7 v_coins, aI cI h_chairOf 7 v_chairOf, aI cI h_tired 7 v_tired, aI cI h_hosted 7 v_hosted, aI cI h_owed 7 v_owed, aI cI h_paid 7 v_paid] U.heap ∧ va_K (dC, dI) vwCl (TYS cI cJ cB cZ cF cG) U ∧ va_D (fun _ => True) [oX1 h_this h_hall h_coins h_chairOf h_tired h_hosted h_owed h_paid v_sitting v_taken v_served v_hidden v_round v_over v_host v_paidInAll v_lot, oX2 h_hall h_hall_guestName h_hall_coins h_hall_pride h_hall_speed h_hall_place h_hall_payer h_hall_dishName h_hall_cost v_hall_chairs v_hall_guests v_hall_dishes, aI cI h_hall_payer 7 v_hall_payer, aI cI h_hall_cost 6 v_hall_cost, aI cI h_coins 7 v_coins, aI cI h_chairOf 7 v_chairOf, aI cI h_tired 7 v_tired, aI cI h_hosted 7 v_hosted, aI cI h_owed 7 v_owed, aI cI h_paid 7 v_paid])) (PQv dC dI cI cJ cB cZ cF cG (va_A [oX1 h_this h_hall h_coins h_chairOf h_tired h_hosted h_owed h_paid v_sitting v_taken v_served v_hidden v_round v_over v_host v_paidInAll v_lot, oX2 h_hall h_hall_guestName h_hall_coins h_hall_pride h_hall_speed h_hall_place h_hall_payer h_hall_dishName h_hall_cost v_hall_chairs v_hall_guests v_hall_dishes, aI cI h_hall_payer 7 v_hall_payer, aI cI h_hall_cost 6 v_hall_cost, aI cI h_coins 7 v_coins, aI cI h_chairOf 7 v_chairOf, aI cI h_tired 7 v_tired, aI cI h_hosted 7 v_hosted, aI cI h_owed 7 v_owed, aI cI h_paid 7 v_paid] sz) [oX1 h_this h_hall h_coins h_chairOf h_tired h_hosted h_owed h_paid o_sitting o_taken o_served v_hidden v_round o_over o_host o_paidInAll v_lot, oX2 h_hall h_hall_guestName h_hall_coins h_hall_pride h_hall_speed h_hall_place h_hall_payer h_hall_dishName h_hall_cost v_hall_chairs v_hall_guests v_hall_dishes, aI cI h_hall_payer 7 v_hall_payer, aI cI h_hall_cost 6 v_hall_cost, aI cI h_coins 7 o_coins, aI cI h_chairOf 7 v_chairOf, aI cI h_tired 7 o_tired, aI cI h_hosted 7 o_hosted, aI cI h_owed 7 o_owed, aI cI h_paid 7 o_paid]) 0 0 (va_A [oX1 h_this h_hall h_coins h_chairOf h_tired h_hosted h_owed h_paid v_sitting v_taken v_served v_hidden v_round v_over v_host v_paidInAll v_lot, oX2 h_hall h_hall_guestName h_hall_coins h_hall_pride h_hall_speed h_hall_place h_hall_payer h_hall_dishName h_hall_cost v_hall_chairs v_hall_guests v_hall_dishes, aI cI h_hall_payer 7 v_hall_payer, aI cI h_hall_cost 6 v_hall_cost, aI cI h_coins 7 v_coins, aI cI h_chairOf 7 v_chairOf, aI cI h_tired 7 v_tired, aI cI h_hosted 7 v_hosted, aI cI h_owed 7 v_owed, aI cI h_paid 7 v_paid] sz) := by
  refine Met.ofW (cc := cX1_sitDown) (maxL := 2) (ret := none) (by decide) rfl ?_
  intro p e s m args below meth c s₁ B hml hv
  obtain ⟨rfl, hsz, hP, hK, hD0⟩ := hv
  have hx := B.exec
  have hb := B.bytes
  have hr := B.returns
  have hts := atoms_spec (ws := uX1_sitDown) B.pre
  have hown : s.vm.findClass RX1 = some m.cls := findClass_of_methodNamed B.named
  have hlocks := B.notSynchronized
  subst hsz
  have hD := hD0.self (sz := s.heap.size)
  generalize hAe : va_A [oX1 h_this h_hall h_coins h_chairOf h_tired h_hosted h_owed h_paid v_sitting v_taken v_served v_hidden v_round v_over v_host v_paidInAll v_lot, oX2 h_hall h_hall_guestName h_hall_coins h_hall_pride h_hall_speed h_hall_place h_hall_payer h_hall_dishName h_hall_cost v_hall_chairs v_hall_guests v_hall_dishes, aI cI h_hall_payer 7 v_hall_payer, aI cI h_hall_cost 6 v_hall_cost, aI cI h_coins 7 v_coins, aI cI h_chairOf 7 v_chairOf, aI cI h_tired 7 v_tired, aI cI h_hosted 7 v_hosted, aI cI h_owed 7 v_owed, aI cI h_paid 7 v_paid] s.heap.size = A at hD ⊢
  have hA : ∀ q : Nat, s.heap.size ≤ q → A q := fun q h => by rw [← hAe]; exact Or.inr h
  have hS : va_S A s.heap s.heap [] := va_S.rf
  have hl := lv_entry ([.ref h_this, .int x1]) (n := 2) (Nat.le_of_ble_eq_true rfl)
  rw [lg_entry_eq]
  generalize (lg_sl ([.ref h_this, .int x1]) ++ List.replicate (2 - (lg_sl ([.ref h_this, .int x1])).length) Slot.unset).toArray = ls at hl ⊢
  have hl : lv_has ls 2 [(0, .ref h_this), (1, .int x1)] := hl
  exact tX1_sitDown hA ⟨hx, hb, hr, hml, hown, hts, hlocks⟩ ⟨Nat.le_refl _, Nat.le_refl _⟩ h_this h_hall h_hall_payer h_hall_cost h_coins h_chairOf h_tired h_hosted h_owed h_paid h_hall_guestName h_hall_coins h_hall_pride h_hall_speed h_hall_place h_hall_dishName v_hidden v_round v_lot v_hall_chairs v_hall_guests v_hall_dishes v_hall_payer v_hall_cost v_chairOf o_sitting o_taken o_served o_over o_host o_paidInAll o_coins o_tired o_hosted o_owed o_paid v_sitting v_taken v_served v_over v_host v_paidInAll v_coins v_tired v_hosted v_owed v_paid x1 hf _ _ ⟨hK, hP, hD, hS⟩ ls hl
-- LastSeat$Feast.standUp(I)V
def uX1_standUp : List Cond := .code yX1_standUp cX1_standUp 2 none :: wsU
set_option maxHeartbeats 4000000 in
set_option maxRecDepth 100000 in
theorem tX1_standUp {p : Program} {l : Launch} {e : Env} {R : Room} {s : State} {m : MethodId} {args : Array Value} {below : List Frame} {meth : Method} {c : Code} {dC : Nat → ClassId} {dI : Nat → Nat → Nat} {cI cJ cB cZ cF cG : ClassId} {A : Nat → Prop} (hA : ∀ q : Nat, s.heap.size ≤ q → A q) (C0 : Cx p s m meth c args cX1_standUp 2 none RX1 uX1_standUp) (hR : 0 ≤ R.frames ∧ 0 ≤ R.locals) (h_this : Nat) (h_chairOf : Nat) (h_hall : Nat) (h_coins : Nat) (h_tired : Nat) (h_hosted : Nat) (h_owed : Nat) (h_paid : Nat) (v_served : Int32) (v_hidden : Int32) (v_round : Int32) (v_over : Int32) (v_host : Int32) (v_paidInAll : Int32) (v_lot : Int32) (v_chairOf : Nat → Int32) (o_sitting : Int32) (o_taken : Int32) :
    ∀ (v_sitting : Int32) (v_taken : Int32) (x1 : Int32), fX1_standUp v_chairOf v_sitting v_taken x1 = some (o_sitting, o_taken) → ∀ (H : Heap) (locs : List Loc), Wd dC dI cI cJ cB cZ cF cG A s H locs [oX1 h_this h_hall h_coins h_chairOf h_tired h_hosted h_owed h_paid v_sitting v_taken v_served v_hidden v_round v_over v_host v_paidInAll v_lot, aI cI h_chairOf 7 v_chairOf] → ∀ (ls : Array Slot), lv_has ls 2 [(0, .ref h_this), (1, .int x1)] → W p l e R s m args below meth c H locs 0 0 (MQ below (PQv dC dI cI cJ cB cZ cF cG A [oX1 h_this h_hall h_coins h_chairOf h_tired h_hosted h_owed h_paid o_sitting o_taken v_served v_hidden v_round v_over v_host v_paidInAll v_lot, aI cI h_chairOf 7 v_chairOf]) args s 0 0 A) (F0 m 0 ls []) := by
  obtain ⟨hx, hb, hrt, hml, hown, hts, hlocks⟩ := id C0
  intro v_sitting v_taken x1 hr H locs hW ls hl
  obtain ⟨hK, hP, hD, hS⟩ := hW
  have hr : (nmv (v_sitting &&& ((1 <<< (x1 &&& 31)) ^^^ (-1))) (fun w1 => gI x1 7 (nmv (v_taken &&& ((1 <<< ((v_chairOf (Int32.toNatClampNeg x1)) &&& 31)) ^^^ (-1))) (fun w2 => some (w1, w2)))) : Option (Int32 × Int32)) = some (o_sitting, o_taken) := hr
  refine lv_aload_n hx hb dX1_standUp_0 rfl (lv_at hl 0 rfl) ?_
  refine lv_dup hx hb dX1_standUp_1 rfl ?_
  refine va_get (D := (dC, dI)) (ci := 1) (v := .int v_sitting) (C := RX1) (T := TX1) (N := 16) hx hb hts (fun w h => List.mem_cons_of_mem _ (inU_1 w h)) hown hK hP 0 rfl rfl 7 (by decide) (hts _ (List.mem_cons_of_mem _ U_441)) (fun _ h9 => h9) rfl dX1_standUp_2 ?_
  refine lv_iconst (v := 1) hx hb dX1_standUp_5 (by decide) ?_
  refine lv_iload_n hx hb dX1_standUp_6 rfl (lv_at hl 1 rfl) ?_
  refine z_pc (pc' := 7) rfl ?_
  refine lv_ishl hx hb dX1_standUp_7 ?_
  refine lv_iconst (v := (-1)) hx hb dX1_standUp_8 (by decide) ?_
  refine lv_ixor hx hb dX1_standUp_9 ?_
  refine lv_iand hx hb dX1_standUp_10 ?_
  obtain ⟨w1, hw1, hr⟩ := nm_s hr
  refine z_topi hw1 ?_
  refine va_put (D := (dC, dI)) (ci := 1) (v := .int w1) (ty := .int) (C := RX1) (T := TX1) (N := 16) hx hb hts (fun w h => List.mem_cons_of_mem _ (inU_1 w h)) tyX1 tyX1_ok nmX1 hown hK hP hD hS 0 rfl rfl 7 (by decide) (hts _ (List.mem_cons_of_mem _ U_441)) (fun _ h9 => h9) rfl (by decide +kernel) rfl rfl (Nat.le_of_ble_eq_true rfl) dX1_standUp_11 (fun H locs hP hD hS => ?_)
  have hP : va_P (dC, dI) vwCl [oX1 h_this h_hall h_coins h_chairOf h_tired h_hosted h_owed h_paid w1 v_taken v_served v_hidden v_round v_over v_host v_paidInAll v_lot, aI cI h_chairOf 7 v_chairOf] H := hP
  have hD : va_D A [oX1 h_this h_hall h_coins h_chairOf h_tired h_hosted h_owed h_paid w1 v_taken v_served v_hidden v_round v_over v_host v_paidInAll v_lot, aI cI h_chairOf 7 v_chairOf] := hD
  refine lv_aload_n hx hb dX1_standUp_14 rfl (lv_at hl 0 rfl) ?_
  refine z_pc (pc' := 15) rfl ?_
  refine lv_dup hx hb dX1_standUp_15 rfl ?_
  refine va_get (D := (dC, dI)) (ci := 1) (v := .int v_taken) (C := RX1) (T := TX1) (N := 16) hx hb hts (fun w h => List.mem_cons_of_mem _ (inU_1 w h)) hown hK hP 0 rfl rfl 8 (by decide) (hts _ (List.mem_cons_of_mem _ U_442)) (fun _ h9 => h9) rfl dX1_standUp_16 ?_
  refine lv_iconst (v := 1) hx hb dX1_standUp_19 (by decide) ?_
  refine lv_aload_n hx hb dX1_standUp_20 rfl (lv_at hl 0 rfl) ?_
  refine va_get (D := (dC, dI)) (ci := 1) (v := .ref h_chairOf) (C := RX1) (T := TX1) (N := 16) hx hb hts (fun w h => List.mem_cons_of_mem _ (inU_1 w h)) hown hK hP 0 rfl rfl 2 (by decide) (hts _ (List.mem_cons_of_mem _ U_145)) (fun _ h9 => h9) rfl dX1_standUp_21 ?_
  refine lv_iload_n hx hb dX1_standUp_24 rfl (lv_at hl 1 rfl) ?_
  refine z_pc (pc' := 25) rfl ?_
  obtain ⟨hg, hr⟩ := gI_s hr
  refine z_iald hx hb hK hP 1 0 rfl rfl hg rfl dX1_standUp_25 ?_
  refine lv_ishl hx hb dX1_standUp_26 ?_
  refine lv_iconst (v := (-1)) hx hb dX1_standUp_27 (by decide) ?_
  refine lv_ixor hx hb dX1_standUp_28 ?_
  refine lv_iand hx hb dX1_standUp_29 ?_
  obtain ⟨w2, hw2, hr⟩ := nm_s hr
  refine z_topi hw2 ?_
  refine va_put (D := (dC, dI)) (ci := 1) (v := .int w2) (ty := .int) (C := RX1) (T := TX1) (N := 16) hx hb hts (fun w h => List.mem_cons_of_mem _ (inU_1 w h)) tyX1 tyX1_ok nmX1 hown hK hP hD hS 0 rfl rfl 8 (by decide) (hts _ (List.mem_cons_of_mem _ U_442)) (fun _ h9 => h9) rfl (by decide +kernel) rfl rfl (Nat.le_of_ble_eq_true rfl) dX1_standUp_30 (fun H locs hP hD hS => ?_)
  have hP : va_P (dC, dI) vwCl [oX1 h_this h_hall h_coins h_chairOf h_tired h_hosted h_owed h_paid w1 w2 v_served v_hidden v_round v_over v_host v_paidInAll v_lot, aI cI h_chairOf 7 v_chairOf] H := hP
  have hD : va_D A [oX1 h_this h_hall h_coins h_chairOf h_tired h_hosted h_owed h_paid w1 w2 v_served v_hidden v_round v_over v_host v_paidInAll v_lot, aI cI h_chairOf 7 v_chairOf] := hD
  refine z_pc (pc' := 33) rfl ?_
  have q0 := Option.some.inj hr
  obtain ⟨e0, q1⟩ := Prod.mk.inj q0
  subst e0; subst q1
  exact W.vret hx hb hrt (fun t ht hW => ⟨⟨(), rfl, trivial, by rw [ht]; exact hP, va_K.moved hW.alike hK, hD⟩, hS.F ht⟩) hS.2.2 dX1_standUp_33 hlocks
set_option maxHeartbeats 4000000 in
set_option maxRecDepth 100000 in
theorem mX1_standUp (l : Launch) (dC : Nat → ClassId) (dI : Nat → Nat → Nat) (cI cJ cB cZ cF cG : ClassId) (h_this : Nat) (h_chairOf : Nat) (h_hall : Nat) (h_coins : Nat) (h_tired : Nat) (h_hosted : Nat) (h_owed : Nat) (h_paid : Nat) (sz : Nat) (v_sitting : Int32) (v_taken : Int32) (v_served : Int32) (v_hidden : Int32) (v_round : Int32) (v_over : Int32) (v_host : Int32) (v_paidInAll : Int32) (v_lot : Int32) (v_chairOf : Nat → Int32) (x1 : Int32) (o_sitting : Int32) (o_taken : Int32) (hf : fX1_standUp v_chairOf v_sitting v_taken x1 = some (o_sitting, o_taken)) : Met l yX1_standUp uX1_standUp ({ frames := 0, cells := 0, slots := 0, locals := 0 }) (va_Pc [.ref h_this, .int x1] (fun U => U.heap.size = sz ∧ va_P (dC, dI) vwCl [oX1 h_this h_hall h_coins h_chairOf h_tired h_hosted h_owed h_paid v_sitting v_taken v_served v_hidden v_round v_over v_host v_paidInAll v_lot, aI cI h_chairOf 7 v_chairOf] U.heap ∧ va_K (dC, dI) vwCl (TYS cI cJ cB cZ cF cG) U ∧ va_D (fun _ => True) [oX1 h_this h_hall h_coins h_chairOf h_tired h_hosted h_owed h_paid v_sitting v_taken v_served v_hidden v_round v_over v_host v_paidInAll v_lot, aI cI h_chairOf 7 v_chairOf])) (PQv dC dI cI cJ cB cZ cF cG (va_A [oX1 h_this h_hall h_coins h_chairOf h_tired h_hosted h_owed h_paid v_sitting v_taken v_served v_hidden v_round v_over v_host v_paidInAll v_lot, aI cI h_chairOf 7 v_chairOf] sz) [oX1 h_this h_hall h_coins h_chairOf h_tired h_hosted h_owed h_paid o_sitting o_taken v_served v_hidden v_round v_over v_host v_paidInAll v_lot, aI cI h_chairOf 7 v_chairOf]) 0 0 (va_A [oX1 h_this h_hall h_coins h_chairOf h_tired h_hosted h_owed h_paid v_sitting v_taken v_served v_hidden v_round v_over v_host v_paidInAll v_lot, aI cI h_chairOf 7 v_chairOf] sz) := by
  refine Met.ofW (cc := cX1_standUp) (maxL := 2) (ret := none) (by decide) rfl ?_
  intro p e s m args below meth c s₁ B hml hv
  obtain ⟨rfl, hsz, hP, hK, hD0⟩ := hv
  have hx := B.exec
  have hb := B.bytes
  have hr := B.returns
  have hts := atoms_spec (ws := uX1_standUp) B.pre
  have hown : s.vm.findClass RX1 = some m.cls := findClass_of_methodNamed B.named
  have hlocks := B.notSynchronized
  subst hsz
  have hD := hD0.self (sz := s.heap.size)
  generalize hAe : va_A [oX1 h_this h_hall h_coins h_chairOf h_tired h_hosted h_owed h_paid v_sitting v_taken v_served v_hidden v_round v_over v_host v_paidInAll v_lot, aI cI h_chairOf 7 v_chairOf] s.heap.size = A at hD ⊢
  have hA : ∀ q : Nat, s.heap.size ≤ q → A q := fun q h => by rw [← hAe]; exact Or.inr h
  have hS : va_S A s.heap s.heap [] := va_S.rf
  have hl := lv_entry ([.ref h_this, .int x1]) (n := 2) (Nat.le_of_ble_eq_true rfl)
  rw [lg_entry_eq]
  generalize (lg_sl ([.ref h_this, .int x1]) ++ List.replicate (2 - (lg_sl ([.ref h_this, .int x1])).length) Slot.unset).toArray = ls at hl ⊢
  have hl : lv_has ls 2 [(0, .ref h_this), (1, .int x1)] := hl
  exact tX1_standUp hA ⟨hx, hb, hr, hml, hown, hts, hlocks⟩ ⟨Nat.le_refl _, Nat.le_refl _⟩ h_this h_chairOf h_hall h_coins h_tired h_hosted h_owed h_paid v_served v_hidden v_round v_over v_host v_paidInAll v_lot v_chairOf o_sitting o_taken v_sitting v_taken x1 hf _ _ ⟨hK, hP, hD, hS⟩ ls hl
-- LastSeat$Feast.bring(I)V
def uX1_bring : List Cond := .code yX1_bring cX1_bring 2 none :: wsU
set_option maxHeartbeats 4000000 in
set_option maxRecDepth 100000 in
theorem tX1_bring {p : Program} {l : Launch} {e : Env} {R : Room} {s : State} {m : MethodId} {args : Array Value} {below : List Frame} {meth : Method} {c : Code} {dC : Nat → ClassId} {dI : Nat → Nat → Nat} {cI cJ cB cZ cF cG : ClassId} {A : Nat → Prop} (hA : ∀ q : Nat, s.heap.size ≤ q → A q) (C0 : Cx p s m meth c args cX1_bring 2 none RX1 uX1_bring) (hR : 0 ≤ R.frames ∧ 0 ≤ R.locals) (h_this : Nat) (h_hall : Nat) (h_coins : Nat) (h_chairOf : Nat) (h_tired : Nat) (h_hosted : Nat) (h_owed : Nat) (h_paid : Nat) (v_sitting : Int32) (v_taken : Int32) (v_hidden : Int32) (v_round : Int32) (v_over : Int32) (v_host : Int32) (v_paidInAll : Int32) (v_lot : Int32) (o_served : Int32) :
    ∀ (v_served : Int32) (x1 : Int32), fX1_bring v_served x1 = some o_served → ∀ (H : Heap) (locs : List Loc), Wd dC dI cI cJ cB cZ cF cG A s H locs [oX1 h_this h_hall h_coins h_chairOf h_tired h_hosted h_owed h_paid v_sitting v_taken v_served v_hidden v_round v_over v_host v_paidInAll v_lot] → ∀ (ls : Array Slot), lv_has ls 2 [(0, .ref h_this), (1, .int x1)] → W p l e R s m args below meth c H locs 0 0 (MQ below (PQv dC dI cI cJ cB cZ cF cG A [oX1 h_this h_hall h_coins h_chairOf h_tired h_hosted h_owed h_paid v_sitting v_taken o_served v_hidden v_round v_over v_host v_paidInAll v_lot]) args s 0 0 A) (F0 m 0 ls []) := by
  obtain ⟨hx, hb, hrt, hml, hown, hts, hlocks⟩ := id C0
  intro v_served x1 hr H locs hW ls hl
  obtain ⟨hK, hP, hD, hS⟩ := hW
  have hr : (nmv (v_served ||| (1 <<< (x1 &&& 31))) (fun w1 => some w1) : Option (Int32)) = some o_served := hr
  refine lv_aload_n hx hb dX1_bring_0 rfl (lv_at hl 0 rfl) ?_
  refine lv_dup hx hb dX1_bring_1 rfl ?_
  refine va_get (D := (dC, dI)) (ci := 1) (v := .int v_served) (C := RX1) (T := TX1) (N := 16) hx hb hts (fun w h => List.mem_cons_of_mem _ (inU_1 w h)) hown hK hP 0 rfl rfl 9 (by decide) (hts _ (List.mem_cons_of_mem _ U_443)) (fun _ h9 => h9) rfl dX1_bring_2 ?_
  refine lv_iconst (v := 1) hx hb dX1_bring_5 (by decide) ?_
  refine lv_iload_n hx hb dX1_bring_6 rfl (lv_at hl 1 rfl) ?_
  refine z_pc (pc' := 7) rfl ?_
  refine lv_ishl hx hb dX1_bring_7 ?_
  refine lv_ior hx hb dX1_bring_8 ?_
  obtain ⟨w1, hw1, hr⟩ := nm_s hr
  refine z_topi hw1 ?_
  refine va_put (D := (dC, dI)) (ci := 1) (v := .int w1) (ty := .int) (C := RX1) (T := TX1) (N := 16) hx hb hts (fun w h => List.mem_cons_of_mem _ (inU_1 w h)) tyX1 tyX1_ok nmX1 hown hK hP hD hS 0 rfl rfl 9 (by decide) (hts _ (List.mem_cons_of_mem _ U_443)) (fun _ h9 => h9) rfl (by decide +kernel) rfl rfl (Nat.le_of_ble_eq_true rfl) dX1_bring_9 (fun H locs hP hD hS => ?_)
  have hP : va_P (dC, dI) vwCl [oX1 h_this h_hall h_coins h_chairOf h_tired h_hosted h_owed h_paid v_sitting v_taken w1 v_hidden v_round v_over v_host v_paidInAll v_lot] H := hP
  have hD : va_D A [oX1 h_this h_hall h_coins h_chairOf h_tired h_hosted h_owed h_paid v_sitting v_taken w1 v_hidden v_round v_over v_host v_paidInAll v_lot] := hD
  have q0 := Option.some.inj hr
  subst q0
  exact W.vret hx hb hrt (fun t ht hW => ⟨⟨(), rfl, trivial, by rw [ht]; exact hP, va_K.moved hW.alike hK, hD⟩, hS.F ht⟩) hS.2.2 dX1_bring_12 hlocks
set_option maxHeartbeats 4000000 in
set_option maxRecDepth 100000 in
theorem mX1_bring (l : Launch) (dC : Nat → ClassId) (dI : Nat → Nat → Nat) (cI cJ cB cZ cF cG : ClassId) (h_this : Nat) (h_hall : Nat) (h_coins : Nat) (h_chairOf : Nat) (h_tired : Nat) (h_hosted : Nat) (h_owed : Nat) (h_paid : Nat) (sz : Nat) (v_sitting : Int32) (v_taken : Int32) (v_served : Int32) (v_hidden : Int32) (v_round : Int32) (v_over : Int32) (v_host : Int32) (v_paidInAll : Int32) (v_lot : Int32) (x1 : Int32) (o_served : Int32) (hf : fX1_bring v_served x1 = some o_served) : Met l yX1_bring uX1_bring ({ frames := 0, cells := 0, slots := 0, locals := 0 }) (va_Pc [.ref h_this, .int x1] (fun U => U.heap.size = sz ∧ va_P (dC, dI) vwCl [oX1 h_this h_hall h_coins h_chairOf h_tired h_hosted h_owed h_paid v_sitting v_taken v_served v_hidden v_round v_over v_host v_paidInAll v_lot] U.heap ∧ va_K (dC, dI) vwCl (TYS cI cJ cB cZ cF cG) U ∧ va_D (fun _ => True) [oX1 h_this h_hall h_coins h_chairOf h_tired h_hosted h_owed h_paid v_sitting v_taken v_served v_hidden v_round v_over v_host v_paidInAll v_lot])) (PQv dC dI cI cJ cB cZ cF cG (va_A [oX1 h_this h_hall h_coins h_chairOf h_tired h_hosted h_owed h_paid v_sitting v_taken v_served v_hidden v_round v_over v_host v_paidInAll v_lot] sz) [oX1 h_this h_hall h_coins h_chairOf h_tired h_hosted h_owed h_paid v_sitting v_taken o_served v_hidden v_round v_over v_host v_paidInAll v_lot]) 0 0 (va_A [oX1 h_this h_hall h_coins h_chairOf h_tired h_hosted h_owed h_paid v_sitting v_taken v_served v_hidden v_round v_over v_host v_paidInAll v_lot] sz) := by
  refine Met.ofW (cc := cX1_bring) (maxL := 2) (ret := none) (by decide) rfl ?_
  intro p e s m args below meth c s₁ B hml hv
  obtain ⟨rfl, hsz, hP, hK, hD0⟩ := hv
  have hx := B.exec
  have hb := B.bytes
  have hr := B.returns
  have hts := atoms_spec (ws := uX1_bring) B.pre
  have hown : s.vm.findClass RX1 = some m.cls := findClass_of_methodNamed B.named
  have hlocks := B.notSynchronized
  subst hsz
  have hD := hD0.self (sz := s.heap.size)
  generalize hAe : va_A [oX1 h_this h_hall h_coins h_chairOf h_tired h_hosted h_owed h_paid v_sitting v_taken v_served v_hidden v_round v_over v_host v_paidInAll v_lot] s.heap.size = A at hD ⊢
  have hA : ∀ q : Nat, s.heap.size ≤ q → A q := fun q h => by rw [← hAe]; exact Or.inr h
  have hS : va_S A s.heap s.heap [] := va_S.rf
  have hl := lv_entry ([.ref h_this, .int x1]) (n := 2) (Nat.le_of_ble_eq_true rfl)
  rw [lg_entry_eq]
  generalize (lg_sl ([.ref h_this, .int x1]) ++ List.replicate (2 - (lg_sl ([.ref h_this, .int x1])).length) Slot.unset).toArray = ls at hl ⊢
  have hl : lv_has ls 2 [(0, .ref h_this), (1, .int x1)] := hl
  exact tX1_bring hA ⟨hx, hb, hr, hml, hown, hts, hlocks⟩ ⟨Nat.le_refl _, Nat.le_refl _⟩ h_this h_hall h_coins h_chairOf h_tired h_hosted h_owed h_paid v_sitting v_taken v_hidden v_round v_over v_host v_paidInAll v_lot o_served v_served x1 hf _ _ ⟨hK, hP, hD, hS⟩ ls hl
-- LastSeat$Feast.onFrom(II)I
def uX1_onFrom : List Cond := .code yX1_onFrom cX1_onFrom 4 (some .int) :: wsU
set_option maxHeartbeats 4000000 in
set_option maxRecDepth 100000 in
theorem tX1_onFrom {p : Program} {l : Launch} {e : Env} {R : Room} {s : State} {m : MethodId} {args : Array Value} {below : List Frame} {meth : Method} {c : Code} {dC : Nat → ClassId} {dI : Nat → Nat → Nat} {cI cJ cB cZ cF cG : ClassId} {A : Nat → Prop} (hA : ∀ q : Nat, s.heap.size ≤ q → A q) (C0 : Cx p s m meth c args cX1_onFrom 4 (some .int) RX1 uX1_onFrom) (hR : 0 ≤ R.frames ∧ 0 ≤ R.locals) (h_this : Nat) (h_hall : Nat) (h_hall_speed : Nat) (h_chairOf : Nat) (h_coins : Nat) (h_tired : Nat) (h_hosted : Nat) (h_owed : Nat) (h_paid : Nat) (h_hall_guestName : Nat) (h_hall_coins : Nat) (h_hall_pride : Nat) (h_hall_place : Nat) (h_hall_payer : Nat) (h_hall_dishName : Nat) (h_hall_cost : Nat) (v_sitting : Int32) (v_taken : Int32) (v_served : Int32) (v_hidden : Int32) (v_round : Int32) (v_over : Int32) (v_host : Int32) (v_paidInAll : Int32) (v_lot : Int32) (v_hall_chairs : Int32) (v_hall_guests : Int32) (v_hall_dishes : Int32) (v_hall_speed : Nat → Int32) (v_chairOf : Nat → Int32) (o_r : Int32) :
    ∀ (x1 : Int32) (x2 : Int32), fX1_onFrom v_hall_chairs v_hall_speed v_chairOf x1 x2 = some o_r → ∀ (H : Heap) (locs : List Loc), Wd dC dI cI cJ cB cZ cF cG A s H locs [oX1 h_this h_hall h_coins h_chairOf h_tired h_hosted h_owed h_paid v_sitting v_taken v_served v_hidden v_round v_over v_host v_paidInAll v_lot, oX2 h_hall h_hall_guestName h_hall_coins h_hall_pride h_hall_speed h_hall_place h_hall_payer h_hall_dishName h_hall_cost v_hall_chairs v_hall_guests v_hall_dishes, aI cI h_hall_speed 7 v_hall_speed, aI cI h_chairOf 7 v_chairOf] → ∀ (ls : Array Slot), lv_has ls 4 [(0, .ref h_this), (1, .int x1), (2, .int x2)] → W p l e R s m args below meth c H locs 0 0 (MQ below (PQi dC dI cI cJ cB cZ cF cG A o_r [oX1 h_this h_hall h_coins h_chairOf h_tired h_hosted h_owed h_paid v_sitting v_taken v_served v_hidden v_round v_over v_host v_paidInAll v_lot, oX2 h_hall h_hall_guestName h_hall_coins h_hall_pride h_hall_speed h_hall_place h_hall_payer h_hall_dishName h_hall_cost v_hall_chairs v_hall_guests v_hall_dishes, aI cI h_hall_speed 7 v_hall_speed, aI cI h_chairOf 7 v_chairOf]) args s 0 0 A) (F0 m 0 ls []) := by
  obtain ⟨hx, hb, hrt, hml, hown, hts, hlocks⟩ := id C0
  intro x1 x2 hr H locs hW ls hl
  obtain ⟨hK, hP, hD, hS⟩ := hW
  have hr : (if v_hall_chairs ≤ 0 then some 0 else gI x1 7 (gI x1 7 (gZ v_hall_chairs (some (((v_chairOf (Int32.toNatClampNeg x1)) + (x2 * (v_hall_speed (Int32.toNatClampNeg x1)))) - ((v_chairOf (Int32.toNatClampNeg x1)) + (x2 * (v_hall_speed (Int32.toNatClampNeg x1)))) / v_hall_chairs * v_hall_chairs)))) : Option (Int32)) = some o_r := hr
  refine lv_aload_n hx hb dX1_onFrom_0 rfl (lv_at hl 0 rfl) ?_
  refine va_get (D := (dC, dI)) (ci := 1) (v := .ref h_hall) (C := RX1) (T := TX1) (N := 16) hx hb hts (fun w h => List.mem_cons_of_mem _ (inU_1 w h)) hown hK hP 0 rfl rfl 0 (by decide) (hts _ (List.mem_cons_of_mem _ U_143)) (fun _ h9 => h9) rfl dX1_onFrom_1 ?_
  refine va_get (D := (dC, dI)) (ci := 2) (v := .int v_hall_chairs) (C := RX2) (T := TX2) (N := 11) hx hb hts (fun w h => List.mem_cons_of_mem _ (inU_2 w h)) hown hK hP 1 rfl rfl 8 (by decide) (hts _ (List.mem_cons_of_mem _ U_792)) (fun _ h9 => h9) rfl dX1_onFrom_4 ?_
  refine lv_istore_n (lv' := [(3, .int v_hall_chairs), (0, .ref h_this), (1, .int x1), (2, .int x2)]) hx hb dX1_onFrom_7 rfl hl (by decide) rfl (fun ls hl => ?_)
  refine lv_iload_n hx hb dX1_onFrom_8 rfl (lv_at hl 0 rfl) ?_
  refine z_pc (pc' := 9) rfl ?_
  refine lv_if_le (tgt := 35) hx hb dX1_onFrom_9 (by decide) (fun hc => ?_) (fun hc => ?_)
  · have hr := iteP hc hr
    refine lv_iconst (v := 0) hx hb dX1_onFrom_35 (by decide) ?_
    have q0 := Option.some.inj hr
    subst q0
    exact W.iret (v := 0) hx hb hrt (fun t ht hW => ⟨⟨0, (), rfl, rfl, by rw [ht]; exact hP, va_K.moved hW.alike hK, hD⟩, hS.F ht⟩) hS.2.2 dX1_onFrom_36 hlocks
  · have hr := iteN hc hr
    refine lv_aload_n hx hb dX1_onFrom_12 rfl (lv_at hl 1 rfl) ?_
    refine va_get (D := (dC, dI)) (ci := 1) (v := .ref h_chairOf) (C := RX1) (T := TX1) (N := 16) hx hb hts (fun w h => List.mem_cons_of_mem _ (inU_1 w h)) hown hK hP 0 rfl rfl 2 (by decide) (hts _ (List.mem_cons_of_mem _ U_145)) (fun _ h9 => h9) rfl dX1_onFrom_13 ?_
    refine lv_iload_n hx hb dX1_onFrom_16 rfl (lv_at hl 2 rfl) ?_
    obtain ⟨hg, hr⟩ := gI_s hr
    refine z_iald hx hb hK hP 3 0 rfl rfl hg rfl dX1_onFrom_17 ?_
    refine lv_iload_n hx hb dX1_onFrom_18 rfl (lv_at hl 3 rfl) ?_
    refine z_pc (pc' := 19) rfl ?_
    refine lv_aload_n hx hb dX1_onFrom_19 rfl (lv_at hl 1 rfl) ?_
    refine va_get (D := (dC, dI)) (ci := 1) (v := .ref h_hall) (C := RX1) (T := TX1) (N := 16) hx hb hts (fun w h => List.mem_cons_of_mem _ (inU_1 w h)) hown hK hP 0 rfl rfl 0 (by decide) (hts _ (List.mem_cons_of_mem _ U_143)) (fun _ h9 => h9) rfl dX1_onFrom_20 ?_
    refine va_get (D := (dC, dI)) (ci := 2) (v := .ref h_hall_speed) (C := RX2) (T := TX2) (N := 11) hx hb hts (fun w h => List.mem_cons_of_mem _ (inU_2 w h)) hown hK hP 1 rfl rfl 3 (by decide) (hts _ (List.mem_cons_of_mem _ U_836)) (fun _ h9 => h9) rfl dX1_onFrom_23 ?_
    refine lv_iload_n hx hb dX1_onFrom_26 rfl (lv_at hl 2 rfl) ?_
    obtain ⟨hg, hr⟩ := gI_s hr
    refine z_iald hx hb hK hP 2 0 rfl rfl hg rfl dX1_onFrom_27 ?_
    refine lv_imul hx hb dX1_onFrom_28 ?_
    refine z_pc (pc' := 29) rfl ?_
    refine lv_iadd hx hb dX1_onFrom_29 ?_
    refine lv_iload_n hx hb dX1_onFrom_30 rfl (lv_at hl 0 rfl) ?_
    obtain ⟨hz, hr⟩ := gZ_s hr
    refine lv_irem hx hb dX1_onFrom_31 hz ?_
    refine lv_goto (tgt := 36) hx hb dX1_onFrom_32 (by decide) ?_
    have q0 := Option.some.inj hr
    subst q0
    exact W.iret (v := (((v_chairOf (Int32.toNatClampNeg x1)) + (x2 * (v_hall_speed (Int32.toNatClampNeg x1)))) - ((v_chairOf (Int32.toNatClampNeg x1)) + (x2 * (v_hall_speed (Int32.toNatClampNeg x1)))) / v_hall_chairs * v_hall_chairs)) hx hb hrt (fun t ht hW => ⟨⟨(((v_chairOf (Int32.toNatClampNeg x1)) + (x2 * (v_hall_speed (Int32.toNatClampNeg x1)))) - ((v_chairOf (Int32.toNatClampNeg x1)) + (x2 * (v_hall_speed (Int32.toNatClampNeg x1)))) / v_hall_chairs * v_hall_chairs), (), rfl, rfl, by rw [ht]; exact hP, va_K.moved hW.alike hK, hD⟩, hS.F ht⟩) hS.2.2 dX1_onFrom_36 hlocks
set_option maxHeartbeats 4000000 in
set_option maxRecDepth 100000 in
theorem mX1_onFrom (l : Launch) (dC : Nat → ClassId) (dI : Nat → Nat → Nat) (cI cJ cB cZ cF cG : ClassId) (h_this : Nat) (h_hall : Nat) (h_hall_speed : Nat) (h_chairOf : Nat) (h_coins : Nat) (h_tired : Nat) (h_hosted : Nat) (h_owed : Nat) (h_paid : Nat) (h_hall_guestName : Nat) (h_hall_coins : Nat) (h_hall_pride : Nat) (h_hall_place : Nat) (h_hall_payer : Nat) (h_hall_dishName : Nat) (h_hall_cost : Nat) (sz : Nat) (v_sitting : Int32) (v_taken : Int32) (v_served : Int32) (v_hidden : Int32) (v_round : Int32) (v_over : Int32) (v_host : Int32) (v_paidInAll : Int32) (v_lot : Int32) (v_hall_chairs : Int32) (v_hall_guests : Int32) (v_hall_dishes : Int32) (v_hall_speed : Nat → Int32) (v_chairOf : Nat → Int32) (x1 : Int32) (x2 : Int32) (o_r : Int32) (hf : fX1_onFrom v_hall_chairs v_hall_speed v_chairOf x1 x2 = some o_r) : Met l yX1_onFrom uX1_onFrom ({ frames := 0, cells := 0, slots := 0, locals := 0 }) (va_Pc [.ref h_this, .int x1, .int x2] (fun U => U.heap.size = sz ∧ va_P (dC, dI) vwCl [oX1 h_this h_hall h_coins h_chairOf h_tired h_hosted h_owed h_paid v_sitting v_taken v_served v_hidden v_round v_over v_host v_paidInAll v_lot, oX2 h_hall h_hall_guestName h_hall_coins h_hall_pride h_hall_speed h_hall_place h_hall_payer h_hall_dishName h_hall_cost v_hall_chairs v_hall_guests v_hall_dishes, aI cI h_hall_speed 7 v_hall_speed, aI cI h_chairOf 7 v_chairOf] U.heap ∧ va_K (dC, dI) vwCl (TYS cI cJ cB cZ cF cG) U ∧ va_D (fun _ => True) [oX1 h_this h_hall h_coins h_chairOf h_tired h_hosted h_owed h_paid v_sitting v_taken v_served v_hidden v_round v_over v_host v_paidInAll v_lot, oX2 h_hall h_hall_guestName h_hall_coins h_hall_pride h_hall_speed h_hall_place h_hall_payer h_hall_dishName h_hall_cost v_hall_chairs v_hall_guests v_hall_dishes, aI cI h_hall_speed 7 v_hall_speed, aI cI h_chairOf 7 v_chairOf])) (PQi dC dI cI cJ cB cZ cF cG (va_A [oX1 h_this h_hall h_coins h_chairOf h_tired h_hosted h_owed h_paid v_sitting v_taken v_served v_hidden v_round v_over v_host v_paidInAll v_lot, oX2 h_hall h_hall_guestName h_hall_coins h_hall_pride h_hall_speed h_hall_place h_hall_payer h_hall_dishName h_hall_cost v_hall_chairs v_hall_guests v_hall_dishes, aI cI h_hall_speed 7 v_hall_speed, aI cI h_chairOf 7 v_chairOf] sz) o_r [oX1 h_this h_hall h_coins h_chairOf h_tired h_hosted h_owed h_paid v_sitting v_taken v_served v_hidden v_round v_over v_host v_paidInAll v_lot, oX2 h_hall h_hall_guestName h_hall_coins h_hall_pride h_hall_speed h_hall_place h_hall_payer h_hall_dishName h_hall_cost v_hall_chairs v_hall_guests v_hall_dishes, aI cI h_hall_speed 7 v_hall_speed, aI cI h_chairOf 7 v_chairOf]) 0 0 (va_A [oX1 h_this h_hall h_coins h_chairOf h_tired h_hosted h_owed h_paid v_sitting v_taken v_served v_hidden v_round v_over v_host v_paidInAll v_lot, oX2 h_hall h_hall_guestName h_hall_coins h_hall_pride h_hall_speed h_hall_place h_hall_payer h_hall_dishName h_hall_cost v_hall_chairs v_hall_guests v_hall_dishes, aI cI h_hall_speed 7 v_hall_speed, aI cI h_chairOf 7 v_chairOf] sz) := by
  refine Met.ofW (cc := cX1_onFrom) (maxL := 4) (ret := (some .int)) (by decide) rfl ?_
  intro p e s m args below meth c s₁ B hml hv
  obtain ⟨rfl, hsz, hP, hK, hD0⟩ := hv
  have hx := B.exec
  have hb := B.bytes
  have hr := B.returns
  have hts := atoms_spec (ws := uX1_onFrom) B.pre
  have hown : s.vm.findClass RX1 = some m.cls := findClass_of_methodNamed B.named
  have hlocks := B.notSynchronized
  subst hsz
  have hD := hD0.self (sz := s.heap.size)
  generalize hAe : va_A [oX1 h_this h_hall h_coins h_chairOf h_tired h_hosted h_owed h_paid v_sitting v_taken v_served v_hidden v_round v_over v_host v_paidInAll v_lot, oX2 h_hall h_hall_guestName h_hall_coins h_hall_pride h_hall_speed h_hall_place h_hall_payer h_hall_dishName h_hall_cost v_hall_chairs v_hall_guests v_hall_dishes, aI cI h_hall_speed 7 v_hall_speed, aI cI h_chairOf 7 v_chairOf] s.heap.size = A at hD ⊢
  have hA : ∀ q : Nat, s.heap.size ≤ q → A q := fun q h => by rw [← hAe]; exact Or.inr h
  have hS : va_S A s.heap s.heap [] := va_S.rf
  have hl := lv_entry ([.ref h_this, .int x1, .int x2]) (n := 4) (Nat.le_of_ble_eq_true rfl)
  rw [lg_entry_eq]
  generalize (lg_sl ([.ref h_this, .int x1, .int x2]) ++ List.replicate (4 - (lg_sl ([.ref h_this, .int x1, .int x2])).length) Slot.unset).toArray = ls at hl ⊢
  have hl : lv_has ls 4 [(0, .ref h_this), (1, .int x1), (2, .int x2)] := hl
  exact tX1_onFrom hA ⟨hx, hb, hr, hml, hown, hts, hlocks⟩ ⟨Nat.le_refl _, Nat.le_refl _⟩ h_this h_hall h_hall_speed h_chairOf h_coins h_tired h_hosted h_owed h_paid h_hall_guestName h_hall_coins h_hall_pride h_hall_place h_hall_payer h_hall_dishName h_hall_cost v_sitting v_taken v_served v_hidden v_round v_over v_host v_paidInAll v_lot v_hall_chairs v_hall_guests v_hall_dishes v_hall_speed v_chairOf o_r x1 x2 hf _ _ ⟨hK, hP, hD, hS⟩ ls hl
-- LastSeat$Feast.goRound(I)Z
def uX1_goRound : List Cond := .code yX1_goRound cX1_goRound 4 (some .boolean) :: wsU
set_option maxHeartbeats 4000000 in
set_option maxRecDepth 100000 in
theorem tX1_goRound_17 {p : Program} {l : Launch} {e : Env} {R : Room} {s : State} {m : MethodId} {args : Array Value} {below : List Frame} {meth : Method} {c : Code} {dC : Nat → ClassId} {dI : Nat → Nat → Nat} {cI cJ cB cZ cF cG : ClassId} {A : Nat → Prop} (hA : ∀ q : Nat, s.heap.size ≤ q → A q) (C0 : Cx p s m meth c args cX1_goRound 4 (some .boolean) RX1 uX1_goRound) (hR : 3 ≤ R.frames ∧ 67 ≤ R.locals) (h_this : Nat) (h_hall : Nat) (h_hall_pride : Nat) (h_hall_speed : Nat) (h_hall_payer : Nat) (h_hall_cost : Nat) (h_coins : Nat) (h_chairOf : Nat) (h_tired : Nat) (h_hosted : Nat) (h_owed : Nat) (h_paid : Nat) (h_hall_guestName : Nat) (h_hall_coins : Nat) (h_hall_place : Nat) (h_hall_dishName : Nat) (v_hidden : Int32) (v_lot : Int32) (v_hall_chairs : Int32) (v_hall_guests : Int32) (v_hall_dishes : Int32) (v_hall_pride : Nat → Int32) (v_hall_speed : Nat → Int32) (v_hall_payer : Nat → Int32) (v_hall_cost : Nat → Int32) (o_r : Int32) (o_sitting : Int32) (o_taken : Int32) (o_served : Int32) (o_round : Int32) (o_over : Int32) (o_host : Int32) (o_paidInAll : Int32) (o_coins : Nat → Int32) (o_chairOf : Nat → Int32) (o_tired : Nat → Int32) (o_hosted : Nat → Int32) (o_owed : Nat → Int32) (o_paid : Nat → Int32) :
    ∀ n : Nat, ∀ (v_sitting : Int32) (v_taken : Int32) (v_served : Int32) (v_round : Int32) (v_over : Int32) (v_host : Int32) (v_paidInAll : Int32) (v_coins : Nat → Int32) (v_chairOf : Nat → Int32) (v_tired : Nat → Int32) (v_hosted : Nat → Int32) (v_owed : Nat → Int32) (v_paid : Nat → Int32) (x1 : Int32) (x2 : Int32) (x3 : Int32), lX1_goRound_17 v_hidden v_hall_chairs v_hall_guests v_hall_dishes v_hall_pride v_hall_speed v_hall_payer v_hall_cost n v_sitting v_taken v_served v_round v_over v_host v_paidInAll v_coins v_chairOf v_tired v_hosted v_owed v_paid x1 x2 x3 = some (o_r, o_sitting, o_taken, o_served, o_round, o_over, o_host, o_paidInAll, o_coins, o_chairOf, o_tired, o_hosted, o_owed, o_paid) → ∀ (H : Heap) (locs : List Loc), Wd dC dI cI cJ cB cZ cF cG A s H locs [oX1 h_this h_hall h_coins h_chairOf h_tired h_hosted h_owed h_paid v_sitting v_taken v_served v_hidden v_round v_over v_host v_paidInAll v_lot, oX2 h_hall h_hall_guestName h_hall_coins h_hall_pride h_hall_speed h_hall_place h_hall_payer h_hall_dishName h_hall_cost v_hall_chairs v_hall_guests v_hall_dishes, aI cI h_hall_pride 7 v_hall_pride, aI cI h_hall_speed 7 v_hall_speed, aI cI h_hall_payer 7 v_hall_payer, aI cI h_hall_cost 6 v_hall_cost, aI cI h_coins 7 v_coins, aI cI h_chairOf 7 v_chairOf, aI cI h_tired 7 v_tired, aI cI h_hosted 7 v_hosted, aI cI h_owed 7 v_owed, aI cI h_paid 7 v_paid] → ∀ (ls : Array Slot), lv_has ls 4 [(0, .ref h_this), (1, .int x1), (2, .int x2), (3, .int x3)] → W p l e R s m args below meth c H locs 0 0 (MQ below (PQz dC dI cI cJ cB cZ cF cG A o_r [oX1 h_this h_hall h_coins h_chairOf h_tired h_hosted h_owed h_paid o_sitting o_taken o_served v_hidden o_round o_over o_host o_paidInAll v_lot, oX2 h_hall h_hall_guestName h_hall_coins h_hall_pride h_hall_speed h_hall_place h_hall_payer h_hall_dishName h_hall_cost v_hall_chairs v_hall_guests v_hall_dishes, aI cI h_hall_pride 7 v_hall_pride, aI cI h_hall_speed 7 v_hall_speed, aI cI h_hall_payer 7 v_hall_payer, aI cI h_hall_cost 6 v_hall_cost, aI cI h_coins 7 o_coins, aI cI h_chairOf 7 o_chairOf, aI cI h_tired 7 o_tired, aI cI h_hosted 7 o_hosted, aI cI h_owed 7 o_owed, aI cI h_paid 7 o_paid]) args s 0 0 A) (F0 m 17 ls []) := by
  obtain ⟨hx, hb, hrt, hml, hown, hts, hlocks⟩ := id C0
  intro n
  induction n with
  | zero =>
    intro v_sitting v_taken v_served v_round v_over v_host v_paidInAll v_coins v_chairOf v_tired v_hosted v_owed v_paid x1 x2 x3 hr
    exact nomatch (show (none : Option (Int32 × Int32 × Int32 × Int32 × Int32 × Int32 × Int32 × Int32 × (Nat → Int32) × (Nat → Int32) × (Nat → Int32) × (Nat → Int32) × (Nat → Int32) × (Nat → Int32))) = some _ from hr)
  | succ n ih =>
    intro v_sitting v_taken v_served v_round v_over v_host v_paidInAll v_coins v_chairOf v_tired v_hosted v_owed v_paid x1 x2 x3 hr H locs hW ls hl
    obtain ⟨hK, hP, hD, hS⟩ := hW
    have hr : (if v_hall_guests ≤ x3 then if v_over = x2 then some (0, v_sitting, v_taken, v_served, v_round, v_over, v_host, v_paidInAll, v_coins, v_chairOf, v_tired, v_hosted, v_owed, v_paid) else some (1, v_sitting, v_taken, v_served, v_round, v_over, v_host, v_paidInAll, v_coins, v_chairOf, v_tired, v_hosted, v_owed, v_paid) else if v_over = x2 then (fX1_isSeated v_sitting x3).bind (fun r_1 => if r_1 = 0 then (fX1_onFrom v_hall_chairs v_hall_speed v_chairOf x3 1).bind (fun r_2 => gI x3 7 (nmv (upd v_chairOf (Int32.toNatClampNeg x3) r_2) (fun w1 => gI x3 7 (nmv (if ((v_tired (Int32.toNatClampNeg x3)) + 1) < 99 then ((v_tired (Int32.toNatClampNeg x3)) + 1) else 99) (fun w2 => gI x3 7 (nmv (upd v_tired (Int32.toNatClampNeg x3) w2) (fun w3 => if x3 = x1 then lX1_goRound_17 v_hidden v_hall_chairs v_hall_guests v_hall_dishes v_hall_pride v_hall_speed v_hall_payer v_hall_cost n v_sitting v_taken v_served v_round v_over v_host v_paidInAll v_coins w1 w3 v_hosted v_owed v_paid x1 x2 (x3 + 1) else gI x3 7 (gI x3 7 (if (w3 (Int32.toNatClampNeg x3)) < (v_hall_pride (Int32.toNatClampNeg x3)) then lX1_goRound_17 v_hidden v_hall_chairs v_hall_guests v_hall_dishes v_hall_pride v_hall_speed v_hall_payer v_hall_cost n v_sitting v_taken v_served v_round v_over v_host v_paidInAll v_coins w1 w3 v_hosted v_owed v_paid x1 x2 (x3 + 1) else (fX1_whyNotSit v_sitting v_taken v_hidden w1 x3).bind (fun r_3 => if r_3 = 0 then (fX1_sitDown v_hall_guests v_hall_dishes v_hall_payer v_hall_cost w1 v_sitting v_taken v_served v_over v_host v_paidInAll v_coins w3 v_hosted v_owed v_paid x3).bind (fun (u4_sitting, u4_taken, u4_served, u4_over, u4_host, u4_paidInAll, u4_coins, u4_tired, u4_hosted, u4_owed, u4_paid) => lX1_goRound_17 v_hidden v_hall_chairs v_hall_guests v_hall_dishes v_hall_pride v_hall_speed v_hall_payer v_hall_cost n u4_sitting u4_taken u4_served v_round u4_over u4_host u4_paidInAll u4_coins w1 u4_tired u4_hosted u4_owed u4_paid x1 x2 (x3 + 1)) else lX1_goRound_17 v_hidden v_hall_chairs v_hall_guests v_hall_dishes v_hall_pride v_hall_speed v_hall_payer v_hall_cost n v_sitting v_taken v_served v_round v_over v_host v_paidInAll v_coins w1 w3 v_hosted v_owed v_paid x1 x2 (x3 + 1))))))))))) else lX1_goRound_17 v_hidden v_hall_chairs v_hall_guests v_hall_dishes v_hall_pride v_hall_speed v_hall_payer v_hall_cost n v_sitting v_taken v_served v_round v_over v_host v_paidInAll v_coins v_chairOf v_tired v_hosted v_owed v_paid x1 x2 (x3 + 1)) else if v_over = x2 then some (0, v_sitting, v_taken, v_served, v_round, v_over, v_host, v_paidInAll, v_coins, v_chairOf, v_tired, v_hosted, v_owed, v_paid) else some (1, v_sitting, v_taken, v_served, v_round, v_over, v_host, v_paidInAll, v_coins, v_chairOf, v_tired, v_hosted, v_owed, v_paid) : Option (Int32 × Int32 × Int32 × Int32 × Int32 × Int32 × Int32 × Int32 × (Nat → Int32) × (Nat → Int32) × (Nat → Int32) × (Nat → Int32) × (Nat → Int32) × (Nat → Int32))) = some (o_r, o_sitting, o_taken, o_served, o_round, o_over, o_host, o_paidInAll, o_coins, o_chairOf, o_tired, o_hosted, o_owed, o_paid) := hr
    refine lv_iload_n hx hb dX1_goRound_17 rfl (lv_at hl 3 rfl) ?_
    refine lv_aload_n hx hb dX1_goRound_18 rfl (lv_at hl 0 rfl) ?_
    refine va_get (D := (dC, dI)) (ci := 1) (v := .ref h_hall) (C := RX1) (T := TX1) (N := 16) hx hb hts (fun w h => List.mem_cons_of_mem _ (inU_1 w h)) hown hK hP 0 rfl rfl 0 (by decide) (hts _ (List.mem_cons_of_mem _ U_143)) (fun _ h9 => h9) rfl dX1_goRound_19 ?_
    refine va_get (D := (dC, dI)) (ci := 2) (v := .int v_hall_guests) (C := RX2) (T := TX2) (N := 11) hx hb hts (fun w h => List.mem_cons_of_mem _ (inU_2 w h)) hown hK hP 1 rfl rfl 9 (by decide) (hts _ (List.mem_cons_of_mem _ U_626)) (fun _ h9 => h9) rfl dX1_goRound_22 ?_
    refine lv_icmp_ge (tgt := 117) hx hb dX1_goRound_25 (by decide) (fun hc => ?_) (fun hc => ?_)
    · have hr := iteP hc hr
      refine lv_aload_n hx hb dX1_goRound_117 rfl (lv_at hl 0 rfl) ?_
      refine va_get (D := (dC, dI)) (ci := 1) (v := .int v_over) (C := RX1) (T := TX1) (N := 16) hx hb hts (fun w h => List.mem_cons_of_mem _ (inU_1 w h)) hown hK hP 0 rfl rfl 12 (by decide) (hts _ (List.mem_cons_of_mem _ U_446)) (fun _ h9 => h9) rfl dX1_goRound_118 ?_
      refine lv_iload_n hx hb dX1_goRound_121 rfl (lv_at hl 2 rfl) ?_
      refine lv_icmp_eq (tgt := 129) hx hb dX1_goRound_122 (by decide) (fun hc => ?_) (fun hc => ?_)
      · have hr := iteP hc hr
        refine lv_iconst (v := 0) hx hb dX1_goRound_129 (by decide) ?_
        have q0 := Option.some.inj hr
        obtain ⟨e0, q1⟩ := Prod.mk.inj q0
        obtain ⟨e1, q2⟩ := Prod.mk.inj q1
        obtain ⟨e2, q3⟩ := Prod.mk.inj q2
        obtain ⟨e3, q4⟩ := Prod.mk.inj q3
        obtain ⟨e4, q5⟩ := Prod.mk.inj q4
        obtain ⟨e5, q6⟩ := Prod.mk.inj q5
        obtain ⟨e6, q7⟩ := Prod.mk.inj q6
        obtain ⟨e7, q8⟩ := Prod.mk.inj q7
        obtain ⟨e8, q9⟩ := Prod.mk.inj q8
        obtain ⟨e9, q10⟩ := Prod.mk.inj q9
        obtain ⟨e10, q11⟩ := Prod.mk.inj q10
        obtain ⟨e11, q12⟩ := Prod.mk.inj q11
        obtain ⟨e12, q13⟩ := Prod.mk.inj q12
        subst e0; subst e1; subst e2; subst e3; subst e4; subst e5; subst e6; subst e7; subst e8; subst e9; subst e10; subst e11; subst e12; subst q13
        exact W.zret (v := 0) hx hb hrt rfl (fun t ht hW => ⟨⟨0, (), rfl, ⟨rfl, rfl⟩, by rw [ht]; exact hP, va_K.moved hW.alike hK, hD⟩, hS.F ht⟩) hS.2.2 dX1_goRound_130 hlocks
      · have hr := iteN hc hr
        refine lv_iconst (v := 1) hx hb dX1_goRound_125 (by decide) ?_
        refine lv_goto (tgt := 130) hx hb dX1_goRound_126 (by decide) ?_
        have q0 := Option.some.inj hr
        obtain ⟨e0, q1⟩ := Prod.mk.inj q0
        obtain ⟨e1, q2⟩ := Prod.mk.inj q1
        obtain ⟨e2, q3⟩ := Prod.mk.inj q2
        obtain ⟨e3, q4⟩ := Prod.mk.inj q3
        obtain ⟨e4, q5⟩ := Prod.mk.inj q4
        obtain ⟨e5, q6⟩ := Prod.mk.inj q5
        obtain ⟨e6, q7⟩ := Prod.mk.inj q6
        obtain ⟨e7, q8⟩ := Prod.mk.inj q7
        obtain ⟨e8, q9⟩ := Prod.mk.inj q8
        obtain ⟨e9, q10⟩ := Prod.mk.inj q9
        obtain ⟨e10, q11⟩ := Prod.mk.inj q10
        obtain ⟨e11, q12⟩ := Prod.mk.inj q11
        obtain ⟨e12, q13⟩ := Prod.mk.inj q12
        subst e0; subst e1; subst e2; subst e3; subst e4; subst e5; subst e6; subst e7; subst e8; subst e9; subst e10; subst e11; subst e12; subst q13
        exact W.zret (v := 1) hx hb hrt rfl (fun t ht hW => ⟨⟨1, (), rfl, ⟨rfl, rfl⟩, by rw [ht]; exact hP, va_K.moved hW.alike hK, hD⟩, hS.F ht⟩) hS.2.2 dX1_goRound_130 hlocks
    · have hr := iteN hc hr
      refine lv_aload_n hx hb dX1_goRound_28 rfl (lv_at hl 0 rfl) ?_
      refine va_get (D := (dC, dI)) (ci := 1) (v := .int v_over) (C := RX1) (T := TX1) (N := 16) hx hb hts (fun w h => List.mem_cons_of_mem _ (inU_1 w h)) hown hK hP 0 rfl rfl 12 (by decide) (hts _ (List.mem_cons_of_mem _ U_446)) (fun _ h9 => h9) rfl dX1_goRound_29 ?_
      refine lv_iload_n hx hb dX1_goRound_32 rfl (lv_at hl 2 rfl) ?_
      refine lv_icmp_ne (tgt := 117) hx hb dX1_goRound_33 (by decide) (fun hc => ?_) (fun hc => ?_)
      · have hr := iteN hc hr
        refine lv_aload_n hx hb dX1_goRound_117 rfl (lv_at hl 0 rfl) ?_
        refine va_get (D := (dC, dI)) (ci := 1) (v := .int v_over) (C := RX1) (T := TX1) (N := 16) hx hb hts (fun w h => List.mem_cons_of_mem _ (inU_1 w h)) hown hK hP 0 rfl rfl 12 (by decide) (hts _ (List.mem_cons_of_mem _ U_446)) (fun _ h9 => h9) rfl dX1_goRound_118 ?_
        refine lv_iload_n hx hb dX1_goRound_121 rfl (lv_at hl 2 rfl) ?_
        refine lv_icmp_eq (tgt := 129) hx hb dX1_goRound_122 (by decide) (fun hc => ?_) (fun hc => ?_)
        · have hr := iteP hc hr
          refine lv_iconst (v := 0) hx hb dX1_goRound_129 (by decide) ?_
          have q0 := Option.some.inj hr
          obtain ⟨e0, q1⟩ := Prod.mk.inj q0
          obtain ⟨e1, q2⟩ := Prod.mk.inj q1
          obtain ⟨e2, q3⟩ := Prod.mk.inj q2
          obtain ⟨e3, q4⟩ := Prod.mk.inj q3
          obtain ⟨e4, q5⟩ := Prod.mk.inj q4
          obtain ⟨e5, q6⟩ := Prod.mk.inj q5
          obtain ⟨e6, q7⟩ := Prod.mk.inj q6
          obtain ⟨e7, q8⟩ := Prod.mk.inj q7
          obtain ⟨e8, q9⟩ := Prod.mk.inj q8
          obtain ⟨e9, q10⟩ := Prod.mk.inj q9
          obtain ⟨e10, q11⟩ := Prod.mk.inj q10
          obtain ⟨e11, q12⟩ := Prod.mk.inj q11
          obtain ⟨e12, q13⟩ := Prod.mk.inj q12
          subst e0; subst e1; subst e2; subst e3; subst e4; subst e5; subst e6; subst e7; subst e8; subst e9; subst e10; subst e11; subst e12; subst q13
          exact W.zret (v := 0) hx hb hrt rfl (fun t ht hW => ⟨⟨0, (), rfl, ⟨rfl, rfl⟩, by rw [ht]; exact hP, va_K.moved hW.alike hK, hD⟩, hS.F ht⟩) hS.2.2 dX1_goRound_130 hlocks
        · have hr := iteN hc hr
          refine lv_iconst (v := 1) hx hb dX1_goRound_125 (by decide) ?_
          refine lv_goto (tgt := 130) hx hb dX1_goRound_126 (by decide) ?_
          have q0 := Option.some.inj hr
          obtain ⟨e0, q1⟩ := Prod.mk.inj q0
          obtain ⟨e1, q2⟩ := Prod.mk.inj q1
          obtain ⟨e2, q3⟩ := Prod.mk.inj q2
          obtain ⟨e3, q4⟩ := Prod.mk.inj q3
          obtain ⟨e4, q5⟩ := Prod.mk.inj q4
          obtain ⟨e5, q6⟩ := Prod.mk.inj q5
          obtain ⟨e6, q7⟩ := Prod.mk.inj q6
          obtain ⟨e7, q8⟩ := Prod.mk.inj q7
          obtain ⟨e8, q9⟩ := Prod.mk.inj q8
          obtain ⟨e9, q10⟩ := Prod.mk.inj q9
          obtain ⟨e10, q11⟩ := Prod.mk.inj q10
          obtain ⟨e11, q12⟩ := Prod.mk.inj q11
          obtain ⟨e12, q13⟩ := Prod.mk.inj q12
          subst e0; subst e1; subst e2; subst e3; subst e4; subst e5; subst e6; subst e7; subst e8; subst e9; subst e10; subst e11; subst e12; subst q13
          exact W.zret (v := 1) hx hb hrt rfl (fun t ht hW => ⟨⟨1, (), rfl, ⟨rfl, rfl⟩, by rw [ht]; exact hP, va_K.moved hW.alike hK, hD⟩, hS.F ht⟩) hS.2.2 dX1_goRound_130 hlocks
      · have hr := iteP hc hr
        refine lv_aload_n hx hb dX1_goRound_36 rfl (lv_at hl 0 rfl) ?_
        refine lv_iload_n hx hb dX1_goRound_37 rfl (lv_at hl 3 rfl) ?_
        obtain ⟨r_1, ho, hr⟩ := bind_s hr
        have hPc := hP.sub (ws' := [oX1 h_this h_hall h_coins h_chairOf h_tired h_hosted h_owed h_paid v_sitting v_taken v_served v_hidden v_round v_over v_host v_paidInAll v_lot]) [0] rfl
        have hDc := hD.sub (ws' := [oX1 h_this h_hall h_coins h_chairOf h_tired h_hosted h_owed h_paid v_sitting v_taken v_served v_hidden v_round v_over v_host v_paidInAll v_lot]) [0] (by decide) rfl
        have hFc := va_free (wc := [oX1 h_this h_hall h_coins h_chairOf h_tired h_hosted h_owed h_paid v_sitting v_taken v_served v_hidden v_round v_over v_host v_paidInAll v_lot]) hD hS hA [0] rfl
        refine va_calli (va_runV (As := [.int x3]) (rest := []) ⟨hx, hb, hml, hown, hts⟩ (mX1_isSeated l dC dI cI cJ cB cZ cF cG h_this h_hall h_coins h_chairOf h_tired h_hosted h_owed h_paid H.size v_sitting v_taken v_served v_hidden v_round v_over v_host v_paidInAll v_lot x3 r_1 ho) (cwV 1 hts (goodV U_627 U_590 U_591 U_27 U_592) rfl rfl rfl (by decide +kernel) ⟨Nat.le_trans (by decide) hR.1, Nat.le_trans (Nat.le_of_ble_eq_true rfl) hR.2⟩) ⟨fun a U g mk q => by obtain ⟨q0, q1, qP, qK, qD⟩ := q; exact ⟨q0, q1, qP, va_K.moved (u := U) (U := U.calling g mk a) (Vm.Alike.refl U.vm) qK, qD⟩, va_recv hK hPc (ci := 1) (q0 := 0) rfl rfl, fun U hU hW => ⟨rfl, by rw [hU], by rw [hU]; exact hPc, va_K.moved hW.alike hK, hDc.weaken (fun _ _ _ _ => trivial)⟩⟩ rfl rfl hl.1 rfl (lv_room (Nat.le_of_ble_eq_true rfl)) dX1_goRound_38 ⟨Nat.zero_le _, Nat.zero_le _⟩) hS (fun q _ h => hFc q h) hFc (fun rz u t H1 locs ht hvm hw hB hz1 hk1 hS => ?_)
        obtain ⟨hP1, hK1, hD1⟩ := hB
        obtain ⟨hw, hz_1⟩ := hw
        have hw := hw.symm; subst hw
        rw [ht] at hP1
        obtain ⟨hP, hD⟩ := va_join (wr := [oX2 h_hall h_hall_guestName h_hall_coins h_hall_pride h_hall_speed h_hall_place h_hall_payer h_hall_dishName h_hall_cost v_hall_chairs v_hall_guests v_hall_dishes, aI cI h_hall_pride 7 v_hall_pride, aI cI h_hall_speed 7 v_hall_speed, aI cI h_hall_payer 7 v_hall_payer, aI cI h_hall_cost 6 v_hall_cost, aI cI h_coins 7 v_coins, aI cI h_chairOf 7 v_chairOf, aI cI h_tired 7 v_tired, aI cI h_hosted 7 v_hosted, aI cI h_owed 7 v_owed, aI cI h_paid 7 v_paid]) (w1 := [oX1 h_this h_hall h_coins h_chairOf h_tired h_hosted h_owed h_paid v_sitting v_taken v_served v_hidden v_round v_over v_host v_paidInAll v_lot]) hP hD [0] [1, 2, 3, 4, 5, 6, 7, 8, 9, 10, 11] rfl rfl (by decide) (by decide) hk1 hFc hP1 hD1
        generalize H1 = H at hP hS ⊢
        have hP := hP.sub (ws' := [oX1 h_this h_hall h_coins h_chairOf h_tired h_hosted h_owed h_paid v_sitting v_taken v_served v_hidden v_round v_over v_host v_paidInAll v_lot, oX2 h_hall h_hall_guestName h_hall_coins h_hall_pride h_hall_speed h_hall_place h_hall_payer h_hall_dishName h_hall_cost v_hall_chairs v_hall_guests v_hall_dishes, aI cI h_hall_pride 7 v_hall_pride, aI cI h_hall_speed 7 v_hall_speed, aI cI h_hall_payer 7 v_hall_payer, aI cI h_hall_cost 6 v_hall_cost, aI cI h_coins 7 v_coins, aI cI h_chairOf 7 v_chairOf, aI cI h_tired 7 v_tired, aI cI h_hosted 7 v_hosted, aI cI h_owed 7 v_owed, aI cI h_paid 7 v_paid]) [11, 0, 1, 2, 3, 4, 5, 6, 7, 8, 9, 10] rfl
        have hD := hD.sub (ws' := [oX1 h_this h_hall h_coins h_chairOf h_tired h_hosted h_owed h_paid v_sitting v_taken v_served v_hidden v_round v_over v_host v_paidInAll v_lot, oX2 h_hall h_hall_guestName h_hall_coins h_hall_pride h_hall_speed h_hall_place h_hall_payer h_hall_dishName h_hall_cost v_hall_chairs v_hall_guests v_hall_dishes, aI cI h_hall_pride 7 v_hall_pride, aI cI h_hall_speed 7 v_hall_speed, aI cI h_hall_payer 7 v_hall_payer, aI cI h_hall_cost 6 v_hall_cost, aI cI h_coins 7 v_coins, aI cI h_chairOf 7 v_chairOf, aI cI h_tired 7 v_tired, aI cI h_hosted 7 v_hosted, aI cI h_owed 7 v_owed, aI cI h_paid 7 v_paid]) [11, 0, 1, 2, 3, 4, 5, 6, 7, 8, 9, 10] (by decide) rfl
        refine lv_if_ne (tgt := 111) hx hb dX1_goRound_41 (by decide) (fun hc => ?_) (fun hc => ?_)
        · have hr := iteN hc hr
          refine lv_iinc (v := (x3 + 1)) (lv' := [(3, .int (x3 + 1)), (0, .ref h_this), (1, .int x1), (2, .int x2)]) hx hb dX1_goRound_111 hl (k := 3) rfl rfl (by decide) rfl (fun ls hl => ?_)
          refine lv_goto (tgt := 17) hx hb dX1_goRound_114 (by decide) ?_
          exact ih v_sitting v_taken v_served v_round v_over v_host v_paidInAll v_coins v_chairOf v_tired v_hosted v_owed v_paid x1 x2 (x3 + 1) hr _ _ ⟨hK, hP, hD, hS⟩ ls (lv_sub hl [1, 2, 3, 0] rfl)
        · have hr := iteP hc hr
          refine lv_aload_n hx hb dX1_goRound_44 rfl (lv_at hl 0 rfl) ?_
          refine va_get (D := (dC, dI)) (ci := 1) (v := .ref h_chairOf) (C := RX1) (T := TX1) (N := 16) hx hb hts (fun w h => List.mem_cons_of_mem _ (inU_1 w h)) hown hK hP 0 rfl rfl 2 (by decide) (hts _ (List.mem_cons_of_mem _ U_145)) (fun _ h9 => h9) rfl dX1_goRound_45 ?_
          refine lv_iload_n hx hb dX1_goRound_48 rfl (lv_at hl 3 rfl) ?_
          refine lv_aload_n hx hb dX1_goRound_49 rfl (lv_at hl 0 rfl) ?_
          refine lv_iload_n hx hb dX1_goRound_50 rfl (lv_at hl 3 rfl) ?_
          refine z_pc (pc' := 51) rfl ?_
          refine lv_iconst (v := 1) hx hb dX1_goRound_51 (by decide) ?_
          obtain ⟨r_2, ho, hr⟩ := bind_s hr
          have hPc := hP.sub (ws' := [oX1 h_this h_hall h_coins h_chairOf h_tired h_hosted h_owed h_paid v_sitting v_taken v_served v_hidden v_round v_over v_host v_paidInAll v_lot, oX2 h_hall h_hall_guestName h_hall_coins h_hall_pride h_hall_speed h_hall_place h_hall_payer h_hall_dishName h_hall_cost v_hall_chairs v_hall_guests v_hall_dishes, aI cI h_hall_speed 7 v_hall_speed, aI cI h_chairOf 7 v_chairOf]) [0, 1, 3, 7] rfl
          have hDc := hD.sub (ws' := [oX1 h_this h_hall h_coins h_chairOf h_tired h_hosted h_owed h_paid v_sitting v_taken v_served v_hidden v_round v_over v_host v_paidInAll v_lot, oX2 h_hall h_hall_guestName h_hall_coins h_hall_pride h_hall_speed h_hall_place h_hall_payer h_hall_dishName h_hall_cost v_hall_chairs v_hall_guests v_hall_dishes, aI cI h_hall_speed 7 v_hall_speed, aI cI h_chairOf 7 v_chairOf]) [0, 1, 3, 7] (by decide) rfl
          have hFc := va_free (wc := [oX1 h_this h_hall h_coins h_chairOf h_tired h_hosted h_owed h_paid v_sitting v_taken v_served v_hidden v_round v_over v_host v_paidInAll v_lot, oX2 h_hall h_hall_guestName h_hall_coins h_hall_pride h_hall_speed h_hall_place h_hall_payer h_hall_dishName h_hall_cost v_hall_chairs v_hall_guests v_hall_dishes, aI cI h_hall_speed 7 v_hall_speed, aI cI h_chairOf 7 v_chairOf]) hD hS hA [0, 1, 3, 7] rfl
          refine va_calli (va_runV (As := [.int x3, .int 1]) (rest := [.int x3, .ref h_chairOf]) ⟨hx, hb, hml, hown, hts⟩ (mX1_onFrom l dC dI cI cJ cB cZ cF cG h_this h_hall h_hall_speed h_chairOf h_coins h_tired h_hosted h_owed h_paid h_hall_guestName h_hall_coins h_hall_pride h_hall_place h_hall_payer h_hall_dishName h_hall_cost H.size v_sitting v_taken v_served v_hidden v_round v_over v_host v_paidInAll v_lot v_hall_chairs v_hall_guests v_hall_dishes v_hall_speed v_chairOf x3 1 r_2 ho) (cwV 2 hts (goodV U_832 U_833 U_834 U_27 U_835) rfl rfl rfl (by decide +kernel) ⟨Nat.le_trans (by decide) hR.1, Nat.le_trans (Nat.le_of_ble_eq_true rfl) hR.2⟩) ⟨fun a U g mk q => by obtain ⟨q0, q1, qP, qK, qD⟩ := q; exact ⟨q0, q1, qP, va_K.moved (u := U) (U := U.calling g mk a) (Vm.Alike.refl U.vm) qK, qD⟩, va_recv hK hPc (ci := 1) (q0 := 0) rfl rfl, fun U hU hW => ⟨rfl, by rw [hU], by rw [hU]; exact hPc, va_K.moved hW.alike hK, hDc.weaken (fun _ _ _ _ => trivial)⟩⟩ rfl rfl hl.1 rfl (lv_room (Nat.le_of_ble_eq_true rfl)) dX1_goRound_52 ⟨Nat.zero_le _, Nat.zero_le _⟩) hS (fun q _ h => hFc q h) hFc (fun rz u t H1 locs ht hvm hw hB hz1 hk1 hS => ?_)
          obtain ⟨hP1, hK1, hD1⟩ := hB
          have hw := hw.symm; subst hw
          rw [ht] at hP1
          obtain ⟨hP, hD⟩ := va_join (wr := [aI cI h_hall_pride 7 v_hall_pride, aI cI h_hall_payer 7 v_hall_payer, aI cI h_hall_cost 6 v_hall_cost, aI cI h_coins 7 v_coins, aI cI h_tired 7 v_tired, aI cI h_hosted 7 v_hosted, aI cI h_owed 7 v_owed, aI cI h_paid 7 v_paid]) (w1 := [oX1 h_this h_hall h_coins h_chairOf h_tired h_hosted h_owed h_paid v_sitting v_taken v_served v_hidden v_round v_over v_host v_paidInAll v_lot, oX2 h_hall h_hall_guestName h_hall_coins h_hall_pride h_hall_speed h_hall_place h_hall_payer h_hall_dishName h_hall_cost v_hall_chairs v_hall_guests v_hall_dishes, aI cI h_hall_speed 7 v_hall_speed, aI cI h_chairOf 7 v_chairOf]) hP hD [0, 1, 3, 7] [2, 4, 5, 6, 8, 9, 10, 11] rfl rfl (by decide) (by decide) hk1 hFc hP1 hD1
          generalize H1 = H at hP hS ⊢
          have hP := hP.sub (ws' := [oX1 h_this h_hall h_coins h_chairOf h_tired h_hosted h_owed h_paid v_sitting v_taken v_served v_hidden v_round v_over v_host v_paidInAll v_lot, oX2 h_hall h_hall_guestName h_hall_coins h_hall_pride h_hall_speed h_hall_place h_hall_payer h_hall_dishName h_hall_cost v_hall_chairs v_hall_guests v_hall_dishes, aI cI h_hall_pride 7 v_hall_pride, aI cI h_hall_speed 7 v_hall_speed, aI cI h_hall_payer 7 v_hall_payer, aI cI h_hall_cost 6 v_hall_cost, aI cI h_coins 7 v_coins, aI cI h_chairOf 7 v_chairOf, aI cI h_tired 7 v_tired, aI cI h_hosted 7 v_hosted, aI cI h_owed 7 v_owed, aI cI h_paid 7 v_paid]) [8, 9, 0, 10, 1, 2, 3, 11, 4, 5, 6, 7] rfl
          have hD := hD.sub (ws' := [oX1 h_this h_hall h_coins h_chairOf h_tired h_hosted h_owed h_paid v_sitting v_taken v_served v_hidden v_round v_over v_host v_paidInAll v_lot, oX2 h_hall h_hall_guestName h_hall_coins h_hall_pride h_hall_speed h_hall_place h_hall_payer h_hall_dishName h_hall_cost v_hall_chairs v_hall_guests v_hall_dishes, aI cI h_hall_pride 7 v_hall_pride, aI cI h_hall_speed 7 v_hall_speed, aI cI h_hall_payer 7 v_hall_payer, aI cI h_hall_cost 6 v_hall_cost, aI cI h_coins 7 v_coins, aI cI h_chairOf 7 v_chairOf, aI cI h_tired 7 v_tired, aI cI h_hosted 7 v_hosted, aI cI h_owed 7 v_owed, aI cI h_paid 7 v_paid]) [8, 9, 0, 10, 1, 2, 3, 11, 4, 5, 6, 7] (by decide) rfl
          obtain ⟨hg, hr⟩ := gI_s hr
          obtain ⟨w1, hw1, hr⟩ := nm_s hr
          refine z_iast hx hb hK hP hD hS 7 0 rfl rfl hg rfl hw1 dX1_goRound_55 (fun H locs hP hD hS => ?_)
          have hP : va_P (dC, dI) vwCl [oX1 h_this h_hall h_coins h_chairOf h_tired h_hosted h_owed h_paid v_sitting v_taken v_served v_hidden v_round v_over v_host v_paidInAll v_lot, oX2 h_hall h_hall_guestName h_hall_coins h_hall_pride h_hall_speed h_hall_place h_hall_payer h_hall_dishName h_hall_cost v_hall_chairs v_hall_guests v_hall_dishes, aI cI h_hall_pride 7 v_hall_pride, aI cI h_hall_speed 7 v_hall_speed, aI cI h_hall_payer 7 v_hall_payer, aI cI h_hall_cost 6 v_hall_cost, aI cI h_coins 7 v_coins, aI cI h_chairOf 7 w1, aI cI h_tired 7 v_tired, aI cI h_hosted 7 v_hosted, aI cI h_owed 7 v_owed, aI cI h_paid 7 v_paid] H := hP
          have hD : va_D A [oX1 h_this h_hall h_coins h_chairOf h_tired h_hosted h_owed h_paid v_sitting v_taken v_served v_hidden v_round v_over v_host v_paidInAll v_lot, oX2 h_hall h_hall_guestName h_hall_coins h_hall_pride h_hall_speed h_hall_place h_hall_payer h_hall_dishName h_hall_cost v_hall_chairs v_hall_guests v_hall_dishes, aI cI h_hall_pride 7 v_hall_pride, aI cI h_hall_speed 7 v_hall_speed, aI cI h_hall_payer 7 v_hall_payer, aI cI h_hall_cost 6 v_hall_cost, aI cI h_coins 7 v_coins, aI cI h_chairOf 7 w1, aI cI h_tired 7 v_tired, aI cI h_hosted 7 v_hosted, aI cI h_owed 7 v_owed, aI cI h_paid 7 v_paid] := hD
          refine lv_aload_n hx hb dX1_goRound_56 rfl (lv_at hl 0 rfl) ?_
          refine va_get (D := (dC, dI)) (ci := 1) (v := .ref h_tired) (C := RX1) (T := TX1) (N := 16) hx hb hts (fun w h => List.mem_cons_of_mem _ (inU_1 w h)) hown hK hP 0 rfl rfl 3 (by decide) (hts _ (List.mem_cons_of_mem _ U_146)) (fun _ h9 => h9) rfl dX1_goRound_57 ?_
          refine lv_iload_n hx hb dX1_goRound_60 rfl (lv_at hl 3 rfl) ?_
          refine z_pc (pc' := 61) rfl ?_
          refine lv_bipush (v := 99) hx hb dX1_goRound_61 (by decide) ?_
          refine lv_aload_n hx hb dX1_goRound_63 rfl (lv_at hl 0 rfl) ?_
          refine va_get (D := (dC, dI)) (ci := 1) (v := .ref h_tired) (C := RX1) (T := TX1) (N := 16) hx hb hts (fun w h => List.mem_cons_of_mem _ (inU_1 w h)) hown hK hP 0 rfl rfl 3 (by decide) (hts _ (List.mem_cons_of_mem _ U_146)) (fun _ h9 => h9) rfl dX1_goRound_64 ?_
          refine lv_iload_n hx hb dX1_goRound_67 rfl (lv_at hl 3 rfl) ?_
          obtain ⟨hg, hr⟩ := gI_s hr
          refine z_iald hx hb hK hP 8 0 rfl rfl hg rfl dX1_goRound_68 ?_
          refine lv_iconst (v := 1) hx hb dX1_goRound_69 (by decide) ?_
          refine z_pc (pc' := 70) rfl ?_
          refine lv_iadd hx hb dX1_goRound_70 ?_
          refine va_mmin hx hb (hml.trans hl.1.symm) hown (hts _ (List.mem_cons_of_mem _ U_830)) (hts _ (List.mem_cons_of_mem _ U_331)) (hts _ (List.mem_cons_of_mem _ U_64)) (hts _ (List.mem_cons_of_mem _ U_332)) (Nat.le_trans (by decide) hR.1) (Nat.le_trans (Nat.le_of_ble_eq_true rfl) hR.2) (Nat.zero_le _) (Nat.zero_le _) dX1_goRound_71 ?_
          obtain ⟨w2, hw2, hr⟩ := nm_s hr
          refine z_topi hw2 ?_
          obtain ⟨hg, hr⟩ := gI_s hr
          obtain ⟨w3, hw3, hr⟩ := nm_s hr
          refine z_iast hx hb hK hP hD hS 8 0 rfl rfl hg rfl hw3 dX1_goRound_74 (fun H locs hP hD hS => ?_)
          have hP : va_P (dC, dI) vwCl [oX1 h_this h_hall h_coins h_chairOf h_tired h_hosted h_owed h_paid v_sitting v_taken v_served v_hidden v_round v_over v_host v_paidInAll v_lot, oX2 h_hall h_hall_guestName h_hall_coins h_hall_pride h_hall_speed h_hall_place h_hall_payer h_hall_dishName h_hall_cost v_hall_chairs v_hall_guests v_hall_dishes, aI cI h_hall_pride 7 v_hall_pride, aI cI h_hall_speed 7 v_hall_speed, aI cI h_hall_payer 7 v_hall_payer, aI cI h_hall_cost 6 v_hall_cost, aI cI h_coins 7 v_coins, aI cI h_chairOf 7 w1, aI cI h_tired 7 w3, aI cI h_hosted 7 v_hosted, aI cI h_owed 7 v_owed, aI cI h_paid 7 v_paid] H := hP
          have hD : va_D A [oX1 h_this h_hall h_coins h_chairOf h_tired h_hosted h_owed h_paid v_sitting v_taken v_served v_hidden v_round v_over v_host v_paidInAll v_lot, oX2 h_hall h_hall_guestName h_hall_coins h_hall_pride h_hall_speed h_hall_place h_hall_payer h_hall_dishName h_hall_cost v_hall_chairs v_hall_guests v_hall_dishes, aI cI h_hall_pride 7 v_hall_pride, aI cI h_hall_speed 7 v_hall_speed, aI cI h_hall_payer 7 v_hall_payer, aI cI h_hall_cost 6 v_hall_cost, aI cI h_coins 7 v_coins, aI cI h_chairOf 7 w1, aI cI h_tired 7 w3, aI cI h_hosted 7 v_hosted, aI cI h_owed 7 v_owed, aI cI h_paid 7 v_paid] := hD
          refine lv_iload_n hx hb dX1_goRound_75 rfl (lv_at hl 3 rfl) ?_
          refine lv_iload_n hx hb dX1_goRound_76 rfl (lv_at hl 1 rfl) ?_
          refine lv_icmp_eq (tgt := 111) hx hb dX1_goRound_77 (by decide) (fun hc => ?_) (fun hc => ?_)
          · have hr := iteP hc hr
            refine lv_iinc (v := (x3 + 1)) (lv' := [(3, .int (x3 + 1)), (0, .ref h_this), (1, .int x1), (2, .int x2)]) hx hb dX1_goRound_111 hl (k := 3) rfl rfl (by decide) rfl (fun ls hl => ?_)
            refine lv_goto (tgt := 17) hx hb dX1_goRound_114 (by decide) ?_
            exact ih v_sitting v_taken v_served v_round v_over v_host v_paidInAll v_coins w1 w3 v_hosted v_owed v_paid x1 x2 (x3 + 1) hr _ _ ⟨hK, hP, hD, hS⟩ ls (lv_sub hl [1, 2, 3, 0] rfl)
          · have hr := iteN hc hr
            refine lv_aload_n hx hb dX1_goRound_80 rfl (lv_at hl 0 rfl) ?_
            refine va_get (D := (dC, dI)) (ci := 1) (v := .ref h_tired) (C := RX1) (T := TX1) (N := 16) hx hb hts (fun w h => List.mem_cons_of_mem _ (inU_1 w h)) hown hK hP 0 rfl rfl 3 (by decide) (hts _ (List.mem_cons_of_mem _ U_146)) (fun _ h9 => h9) rfl dX1_goRound_81 ?_
            refine lv_iload_n hx hb dX1_goRound_84 rfl (lv_at hl 3 rfl) ?_
            obtain ⟨hg, hr⟩ := gI_s hr
            refine z_iald hx hb hK hP 8 0 rfl rfl hg rfl dX1_goRound_85 ?_
            refine lv_aload_n hx hb dX1_goRound_86 rfl (lv_at hl 0 rfl) ?_
            refine z_pc (pc' := 87) rfl ?_
            refine va_get (D := (dC, dI)) (ci := 1) (v := .ref h_hall) (C := RX1) (T := TX1) (N := 16) hx hb hts (fun w h => List.mem_cons_of_mem _ (inU_1 w h)) hown hK hP 0 rfl rfl 0 (by decide) (hts _ (List.mem_cons_of_mem _ U_143)) (fun _ h9 => h9) rfl dX1_goRound_87 ?_
            refine va_get (D := (dC, dI)) (ci := 2) (v := .ref h_hall_pride) (C := RX2) (T := TX2) (N := 11) hx hb hts (fun w h => List.mem_cons_of_mem _ (inU_2 w h)) hown hK hP 1 rfl rfl 2 (by decide) (hts _ (List.mem_cons_of_mem _ U_831)) (fun _ h9 => h9) rfl dX1_goRound_90 ?_
            refine lv_iload_n hx hb dX1_goRound_93 rfl (lv_at hl 3 rfl) ?_
            obtain ⟨hg, hr⟩ := gI_s hr
            refine z_iald hx hb hK hP 2 0 rfl rfl hg rfl dX1_goRound_94 ?_
            refine lv_icmp_lt (tgt := 111) hx hb dX1_goRound_95 (by decide) (fun hc => ?_) (fun hc => ?_)
            · have hr := iteP hc hr
              refine lv_iinc (v := (x3 + 1)) (lv' := [(3, .int (x3 + 1)), (0, .ref h_this), (1, .int x1), (2, .int x2)]) hx hb dX1_goRound_111 hl (k := 3) rfl rfl (by decide) rfl (fun ls hl => ?_)
              refine lv_goto (tgt := 17) hx hb dX1_goRound_114 (by decide) ?_
              exact ih v_sitting v_taken v_served v_round v_over v_host v_paidInAll v_coins w1 w3 v_hosted v_owed v_paid x1 x2 (x3 + 1) hr _ _ ⟨hK, hP, hD, hS⟩ ls (lv_sub hl [1, 2, 3, 0] rfl)
            · have hr := iteN hc hr
              refine lv_aload_n hx hb dX1_goRound_98 rfl (lv_at hl 0 rfl) ?_
              refine lv_iload_n hx hb dX1_goRound_99 rfl (lv_at hl 3 rfl) ?_
              obtain ⟨r_3, ho, hr⟩ := bind_s hr
              have hPc := hP.sub (ws' := [oX1 h_this h_hall h_coins h_chairOf h_tired h_hosted h_owed h_paid v_sitting v_taken v_served v_hidden v_round v_over v_host v_paidInAll v_lot, aI cI h_chairOf 7 w1]) [0, 7] rfl
              have hDc := hD.sub (ws' := [oX1 h_this h_hall h_coins h_chairOf h_tired h_hosted h_owed h_paid v_sitting v_taken v_served v_hidden v_round v_over v_host v_paidInAll v_lot, aI cI h_chairOf 7 w1]) [0, 7] (by decide) rfl
              have hFc := va_free (wc := [oX1 h_this h_hall h_coins h_chairOf h_tired h_hosted h_owed h_paid v_sitting v_taken v_served v_hidden v_round v_over v_host v_paidInAll v_lot, aI cI h_chairOf 7 w1]) hD hS hA [0, 7] rfl
              refine va_calli (va_runV (As := [.int x3]) (rest := []) ⟨hx, hb, hml, hown, hts⟩ (mX1_whyNotSit l dC dI cI cJ cB cZ cF cG h_this h_chairOf h_hall h_coins h_tired h_hosted h_owed h_paid H.size v_sitting v_taken v_served v_hidden v_round v_over v_host v_paidInAll v_lot w1 x3 r_3 ho) (cwV 1 hts (goodV U_837 U_682 U_683 U_27 U_684) rfl rfl rfl (by decide +kernel) ⟨Nat.le_trans (by decide) hR.1, Nat.le_trans (Nat.le_of_ble_eq_true rfl) hR.2⟩) ⟨fun a U g mk q => by obtain ⟨q0, q1, qP, qK, qD⟩ := q; exact ⟨q0, q1, qP, va_K.moved (u := U) (U := U.calling g mk a) (Vm.Alike.refl U.vm) qK, qD⟩, va_recv hK hPc (ci := 1) (q0 := 0) rfl rfl, fun U hU hW => ⟨rfl, by rw [hU], by rw [hU]; exact hPc, va_K.moved hW.alike hK, hDc.weaken (fun _ _ _ _ => trivial)⟩⟩ rfl rfl hl.1 rfl (lv_room (Nat.le_of_ble_eq_true rfl)) dX1_goRound_100 ⟨Nat.zero_le _, Nat.zero_le _⟩) hS (fun q _ h => hFc q h) hFc (fun rz u t H1 locs ht hvm hw hB hz1 hk1 hS => ?_)
              obtain ⟨hP1, hK1, hD1⟩ := hB
              have hw := hw.symm; subst hw
              rw [ht] at hP1
              obtain ⟨hP, hD⟩ := va_join (wr := [oX2 h_hall h_hall_guestName h_hall_coins h_hall_pride h_hall_speed h_hall_place h_hall_payer h_hall_dishName h_hall_cost v_hall_chairs v_hall_guests v_hall_dishes, aI cI h_hall_pride 7 v_hall_pride, aI cI h_hall_speed 7 v_hall_speed, aI cI h_hall_payer 7 v_hall_payer, aI cI h_hall_cost 6 v_hall_cost, aI cI h_coins 7 v_coins, aI cI h_tired 7 w3, aI cI h_hosted 7 v_hosted, aI cI h_owed 7 v_owed, aI cI h_paid 7 v_paid]) (w1 := [oX1 h_this h_hall h_coins h_chairOf h_tired h_hosted h_owed h_paid v_sitting v_taken v_served v_hidden v_round v_over v_host v_paidInAll v_lot, aI cI h_chairOf 7 w1]) hP hD [0, 7] [1, 2, 3, 4, 5, 6, 8, 9, 10, 11] rfl rfl (by decide) (by decide) hk1 hFc hP1 hD1
              generalize H1 = H at hP hS ⊢
              have hP := hP.sub (ws' := [oX1 h_this h_hall h_coins h_chairOf h_tired h_hosted h_owed h_paid v_sitting v_taken v_served v_hidden v_round v_over v_host v_paidInAll v_lot, oX2 h_hall h_hall_guestName h_hall_coins h_hall_pride h_hall_speed h_hall_place h_hall_payer h_hall_dishName h_hall_cost v_hall_chairs v_hall_guests v_hall_dishes, aI cI h_hall_pride 7 v_hall_pride, aI cI h_hall_speed 7 v_hall_speed, aI cI h_hall_payer 7 v_hall_payer, aI cI h_hall_cost 6 v_hall_cost, aI cI h_coins 7 v_coins, aI cI h_chairOf 7 w1, aI cI h_tired 7 w3, aI cI h_hosted 7 v_hosted, aI cI h_owed 7 v_owed, aI cI h_paid 7 v_paid]) [10, 0, 1, 2, 3, 4, 5, 11, 6, 7, 8, 9] rfl
              have hD := hD.sub (ws' := [oX1 h_this h_hall h_coins h_chairOf h_tired h_hosted h_owed h_paid v_sitting v_taken v_served v_hidden v_round v_over v_host v_paidInAll v_lot, oX2 h_hall h_hall_guestName h_hall_coins h_hall_pride h_hall_speed h_hall_place h_hall_payer h_hall_dishName h_hall_cost v_hall_chairs v_hall_guests v_hall_dishes, aI cI h_hall_pride 7 v_hall_pride, aI cI h_hall_speed 7 v_hall_speed, aI cI h_hall_payer 7 v_hall_payer, aI cI h_hall_cost 6 v_hall_cost, aI cI h_coins 7 v_coins, aI cI h_chairOf 7 w1, aI cI h_tired 7 w3, aI cI h_hosted 7 v_hosted, aI cI h_owed 7 v_owed, aI cI h_paid 7 v_paid]) [10, 0, 1, 2, 3, 4, 5, 11, 6, 7, 8, 9] (by decide) rfl
              refine lv_if_ne (tgt := 111) hx hb dX1_goRound_103 (by decide) (fun hc => ?_) (fun hc => ?_)
              · have hr := iteN hc hr
                refine lv_iinc (v := (x3 + 1)) (lv' := [(3, .int (x3 + 1)), (0, .ref h_this), (1, .int x1), (2, .int x2)]) hx hb dX1_goRound_111 hl (k := 3) rfl rfl (by decide) rfl (fun ls hl => ?_)
                refine lv_goto (tgt := 17) hx hb dX1_goRound_114 (by decide) ?_
                exact ih v_sitting v_taken v_served v_round v_over v_host v_paidInAll v_coins w1 w3 v_hosted v_owed v_paid x1 x2 (x3 + 1) hr _ _ ⟨hK, hP, hD, hS⟩ ls (lv_sub hl [1, 2, 3, 0] rfl)
              · have hr := iteP hc hr
                refine lv_aload_n hx hb dX1_goRound_106 rfl (lv_at hl 0 rfl) ?_
                refine lv_iload_n hx hb dX1_goRound_107 rfl (lv_at hl 3 rfl) ?_
                obtain ⟨⟨u4_sitting, u4_taken, u4_served, u4_over, u4_host, u4_paidInAll, u4_coins, u4_tired, u4_hosted, u4_owed, u4_paid⟩, ho, hr⟩ := bind_s hr
                dsimp only at hr
                have hPc := hP.sub (ws' := [oX1 h_this h_hall h_coins h_chairOf h_tired h_hosted h_owed h_paid v_sitting v_taken v_served v_hidden v_round v_over v_host v_paidInAll v_lot, oX2 h_hall h_hall_guestName h_hall_coins h_hall_pride h_hall_speed h_hall_place h_hall_payer h_hall_dishName h_hall_cost v_hall_chairs v_hall_guests v_hall_dishes, aI cI h_hall_payer 7 v_hall_payer, aI cI h_hall_cost 6 v_hall_cost, aI cI h_coins 7 v_coins, aI cI h_chairOf 7 w1, aI cI h_tired 7 w3, aI cI h_hosted 7 v_hosted, aI cI h_owed 7 v_owed, aI cI h_paid 7 v_paid]) [0, 1, 4, 5, 6, 7, 8, 9, 10, 11] rfl
                have hDc := hD.sub (ws' := [oX1 h_this h_hall h_coins h_chairOf h_tired h_hosted h_owed h_paid v_sitting v_taken v_served v_hidden v_round v_over v_host v_paidInAll v_lot, oX2 h_hall h_hall_guestName h_hall_coins h_hall_pride h_hall_speed h_hall_place h_hall_payer h_hall_dishName h_hall_cost v_hall_chairs v_hall_guests v_hall_dishes, aI cI h_hall_payer 7 v_hall_payer, aI cI h_hall_cost 6 v_hall_cost, aI cI h_coins 7 v_coins, aI cI h_chairOf 7 w1, aI cI h_tired 7 w3, aI cI h_hosted 7 v_hosted, aI cI h_owed 7 v_owed, aI cI h_paid 7 v_paid]) [0, 1, 4, 5, 6, 7, 8, 9, 10, 11] (by decide) rfl
                have hFc := va_free (wc := [oX1 h_this h_hall h_coins h_chairOf h_tired h_hosted h_owed h_paid v_sitting v_taken v_served v_hidden v_round v_over v_host v_paidInAll v_lot, oX2 h_hall h_hall_guestName h_hall_coins h_hall_pride h_hall_speed h_hall_place h_hall_payer h_hall_dishName h_hall_cost v_hall_chairs v_hall_guests v_hall_dishes, aI cI h_hall_payer 7 v_hall_payer, aI cI h_hall_cost 6 v_hall_cost, aI cI h_coins 7 v_coins, aI cI h_chairOf 7 w1, aI cI h_tired 7 w3, aI cI h_hosted 7 v_hosted, aI cI h_owed 7 v_owed, aI cI h_paid 7 v_paid]) hD hS hA [0, 1, 4, 5, 6, 7, 8, 9, 10, 11] rfl
                refine va_callv (va_runV (As := [.int x3]) (rest := []) ⟨hx, hb, hml, hown, hts⟩ (mX1_sitDown l dC dI cI cJ cB cZ cF cG h_this h_hall h_hall_payer h_hall_cost h_coins h_chairOf h_tired h_hosted h_owed h_paid h_hall_guestName h_hall_coins h_hall_pride h_hall_speed h_hall_place h_hall_dishName H.size v_sitting v_taken v_served v_hidden v_round v_over v_host v_paidInAll v_lot v_hall_chairs v_hall_guests v_hall_dishes v_hall_payer v_hall_cost v_coins w1 w3 v_hosted v_owed v_paid x3 u4_sitting u4_taken u4_served u4_over u4_host u4_paidInAll u4_coins u4_tired u4_hosted u4_owed u4_paid ho) (cwV 1 hts (goodV U_838 U_698 U_699 U_27 U_700) rfl rfl rfl (by decide +kernel) ⟨Nat.le_trans (by decide) hR.1, Nat.le_trans (Nat.le_of_ble_eq_true rfl) hR.2⟩) ⟨fun a U g mk q => by obtain ⟨q0, q1, qP, qK, qD⟩ := q; exact ⟨q0, q1, qP, va_K.moved (u := U) (U := U.calling g mk a) (Vm.Alike.refl U.vm) qK, qD⟩, va_recv hK hPc (ci := 1) (q0 := 0) rfl rfl, fun U hU hW => ⟨rfl, by rw [hU], by rw [hU]; exact hPc, va_K.moved hW.alike hK, hDc.weaken (fun _ _ _ _ => trivial)⟩⟩ rfl rfl hl.1 rfl (lv_room (Nat.le_of_ble_eq_true rfl)) dX1_goRound_108 ⟨Nat.zero_le _, Nat.zero_le _⟩) hS (fun q _ h => hFc q h) hFc (fun u t H1 locs ht hvm hw hB hz1 hk1 hS => ?_)
                obtain ⟨hP1, hK1, hD1⟩ := hB
                rw [ht] at hP1
                obtain ⟨hP, hD⟩ := va_join (wr := [aI cI h_hall_pride 7 v_hall_pride, aI cI h_hall_speed 7 v_hall_speed]) (w1 := [oX1 h_this h_hall h_coins h_chairOf h_tired h_hosted h_owed h_paid u4_sitting u4_taken u4_served v_hidden v_round u4_over u4_host u4_paidInAll v_lot, oX2 h_hall h_hall_guestName h_hall_coins h_hall_pride h_hall_speed h_hall_place h_hall_payer h_hall_dishName h_hall_cost v_hall_chairs v_hall_guests v_hall_dishes, aI cI h_hall_payer 7 v_hall_payer, aI cI h_hall_cost 6 v_hall_cost, aI cI h_coins 7 u4_coins, aI cI h_chairOf 7 w1, aI cI h_tired 7 u4_tired, aI cI h_hosted 7 u4_hosted, aI cI h_owed 7 u4_owed, aI cI h_paid 7 u4_paid]) hP hD [0, 1, 4, 5, 6, 7, 8, 9, 10, 11] [2, 3] rfl rfl (by decide) (by decide) hk1 hFc hP1 hD1
                generalize H1 = H at hP hS ⊢
                have hP := hP.sub (ws' := [oX1 h_this h_hall h_coins h_chairOf h_tired h_hosted h_owed h_paid u4_sitting u4_taken u4_served v_hidden v_round u4_over u4_host u4_paidInAll v_lot, oX2 h_hall h_hall_guestName h_hall_coins h_hall_pride h_hall_speed h_hall_place h_hall_payer h_hall_dishName h_hall_cost v_hall_chairs v_hall_guests v_hall_dishes, aI cI h_hall_pride 7 v_hall_pride, aI cI h_hall_speed 7 v_hall_speed, aI cI h_hall_payer 7 v_hall_payer, aI cI h_hall_cost 6 v_hall_cost, aI cI h_coins 7 u4_coins, aI cI h_chairOf 7 w1, aI cI h_tired 7 u4_tired, aI cI h_hosted 7 u4_hosted, aI cI h_owed 7 u4_owed, aI cI h_paid 7 u4_paid]) [2, 3, 0, 1, 4, 5, 6, 7, 8, 9, 10, 11] rfl
                have hD := hD.sub (ws' := [oX1 h_this h_hall h_coins h_chairOf h_tired h_hosted h_owed h_paid u4_sitting u4_taken u4_served v_hidden v_round u4_over u4_host u4_paidInAll v_lot, oX2 h_hall h_hall_guestName h_hall_coins h_hall_pride h_hall_speed h_hall_place h_hall_payer h_hall_dishName h_hall_cost v_hall_chairs v_hall_guests v_hall_dishes, aI cI h_hall_pride 7 v_hall_pride, aI cI h_hall_speed 7 v_hall_speed, aI cI h_hall_payer 7 v_hall_payer, aI cI h_hall_cost 6 v_hall_cost, aI cI h_coins 7 u4_coins, aI cI h_chairOf 7 w1, aI cI h_tired 7 u4_tired, aI cI h_hosted 7 u4_hosted, aI cI h_owed 7 u4_owed, aI cI h_paid 7 u4_paid]) [2, 3, 0, 1, 4, 5, 6, 7, 8, 9, 10, 11] (by decide) rfl
                refine lv_iinc (v := (x3 + 1)) (lv' := [(3, .int (x3 + 1)), (0, .ref h_this), (1, .int x1), (2, .int x2)]) hx hb dX1_goRound_111 hl (k := 3) rfl rfl (by decide) rfl (fun ls hl => ?_)
                refine lv_goto (tgt := 17) hx hb dX1_goRound_114 (by decide) ?_
                exact ih u4_sitting u4_taken u4_served v_round u4_over u4_host u4_paidInAll u4_coins w1 u4_tired u4_hosted u4_owed u4_paid x1 x2 (x3 + 1) hr _ _ ⟨hK, hP, hD, hS⟩ ls (lv_sub hl [1, 2, 3, 0] rfl)
set_option maxHeartbeats 4000000 in
set_option maxRecDepth 100000 in
theorem tX1_goRound {p : Program} {l : Launch} {e : Env} {R : Room} {s : State} {m : MethodId} {args : Array Value} {below : List Frame} {meth : Method} {c : Code} {dC : Nat → ClassId} {dI : Nat → Nat → Nat} {cI cJ cB cZ cF cG : ClassId} {A : Nat → Prop} (hA : ∀ q : Nat, s.heap.size ≤ q → A q) (C0 : Cx p s m meth c args cX1_goRound 4 (some .boolean) RX1 uX1_goRound) (hR : 3 ≤ R.frames ∧ 67 ≤ R.locals) (h_this : Nat) (h_hall : Nat) (h_hall_pride : Nat) (h_hall_speed : Nat) (h_hall_payer : Nat) (h_hall_cost : Nat) (h_coins : Nat) (h_chairOf : Nat) (h_tired : Nat) (h_hosted : Nat) (h_owed : Nat) (h_paid : Nat) (h_hall_guestName : Nat) (h_hall_coins : Nat) (h_hall_place : Nat) (h_hall_dishName : Nat) (v_hidden : Int32) (v_lot : Int32) (v_hall_chairs : Int32) (v_hall_guests : Int32) (v_hall_dishes : Int32) (v_hall_pride : Nat → Int32) (v_hall_speed : Nat → Int32) (v_hall_payer : Nat → Int32) (v_hall_cost : Nat → Int32) (o_r : Int32) (o_sitting : Int32) (o_taken : Int32) (o_served : Int32) (o_round : Int32) (o_over : Int32) (o_host : Int32) (o_paidInAll : Int32) (o_coins : Nat → Int32) (o_chairOf : Nat → Int32) (o_tired : Nat → Int32) (o_hosted : Nat → Int32) (o_owed : Nat → Int32) (o_paid : Nat → Int32) :
    ∀ (v_sitting : Int32) (v_taken : Int32) (v_served : Int32) (v_round : Int32) (v_over : Int32) (v_host : Int32) (v_paidInAll : Int32) (v_coins : Nat → Int32) (v_chairOf : Nat → Int32) (v_tired : Nat → Int32) (v_hosted : Nat → Int32) (v_owed : Nat → Int32) (v_paid : Nat → Int32) (x1 : Int32), fX1_goRound v_hidden v_hall_chairs v_hall_guests v_hall_dishes v_hall_pride v_hall_speed v_hall_payer v_hall_cost v_sitting v_taken v_served v_round v_over v_host v_paidInAll v_coins v_chairOf v_tired v_hosted v_owed v_paid x1 = some (o_r, o_sitting, o_taken, o_served, o_round, o_over, o_host, o_paidInAll, o_coins, o_chairOf, o_tired, o_hosted, o_owed, o_paid) → ∀ (H : Heap) (locs : List Loc), Wd dC dI cI cJ cB cZ cF cG A s H locs [oX1 h_this h_hall h_coins h_chairOf h_tired h_hosted h_owed h_paid v_sitting v_taken v_served v_hidden v_round v_over v_host v_paidInAll v_lot, oX2 h_hall h_hall_guestName h_hall_coins h_hall_pride h_hall_speed h_hall_place h_hall_payer h_hall_dishName h_hall_cost v_hall_chairs v_hall_guests v_hall_dishes, aI cI h_hall_pride 7 v_hall_pride, aI cI h_hall_speed 7 v_hall_speed, aI cI h_hall_payer 7 v_hall_payer, aI cI h_hall_cost 6 v_hall_cost, aI cI h_coins 7 v_coins, aI cI h_chairOf 7 v_chairOf, aI cI h_tired 7 v_tired, aI cI h_hosted 7 v_hosted, aI cI h_owed 7 v_owed, aI cI h_paid 7 v_paid] → ∀ (ls : Array Slot), lv_has ls 4 [(0, .ref h_this), (1, .int x1)] → W p l e R s m args below meth c H locs 0 0 (MQ below (PQz dC dI cI cJ cB cZ cF cG A o_r [oX1 h_this h_hall h_coins h_chairOf h_tired h_hosted h_owed h_paid o_sitting o_taken o_served v_hidden o_round o_over o_host o_paidInAll v_lot, oX2 h_hall h_hall_guestName h_hall_coins h_hall_pride h_hall_speed h_hall_place h_hall_payer h_hall_dishName h_hall_cost v_hall_chairs v_hall_guests v_hall_dishes, aI cI h_hall_pride 7 v_hall_pride, aI cI h_hall_speed 7 v_hall_speed, aI cI h_hall_payer 7 v_hall_payer, aI cI h_hall_cost 6 v_hall_cost, aI cI h_coins 7 o_coins, aI cI h_chairOf 7 o_chairOf, aI cI h_tired 7 o_tired, aI cI h_hosted 7 o_hosted, aI cI h_owed 7 o_owed, aI cI h_paid 7 o_paid]) args s 0 0 A) (F0 m 0 ls []) := by
  obtain ⟨hx, hb, hrt, hml, hown, hts, hlocks⟩ := id C0
  intro v_sitting v_taken v_served v_round v_over v_host v_paidInAll v_coins v_chairOf v_tired v_hosted v_owed v_paid x1 hr H locs hW ls hl
  obtain ⟨hK, hP, hD, hS⟩ := hW
  have hr : (lX1_goRound_17 v_hidden v_hall_chairs v_hall_guests v_hall_dishes v_hall_pride v_hall_speed v_hall_payer v_hall_cost 5000 v_sitting v_taken v_served (v_round + 1) v_over v_host v_paidInAll v_coins v_chairOf v_tired v_hosted v_owed v_paid x1 v_over 0 : Option (Int32 × Int32 × Int32 × Int32 × Int32 × Int32 × Int32 × Int32 × (Nat → Int32) × (Nat → Int32) × (Nat → Int32) × (Nat → Int32) × (Nat → Int32) × (Nat → Int32))) = some (o_r, o_sitting, o_taken, o_served, o_round, o_over, o_host, o_paidInAll, o_coins, o_chairOf, o_tired, o_hosted, o_owed, o_paid) := hr
  refine lv_aload_n hx hb dX1_goRound_0 rfl (lv_at hl 0 rfl) ?_
  refine va_get (D := (dC, dI)) (ci := 1) (v := .int v_over) (C := RX1) (T := TX1) (N := 16) hx hb hts (fun w h => List.mem_cons_of_mem _ (inU_1 w h)) hown hK hP 0 rfl rfl 12 (by decide) (hts _ (List.mem_cons_of_mem _ U_446)) (fun _ h9 => h9) rfl dX1_goRound_1 ?_
  refine lv_istore_n (lv' := [(2, .int v_over), (0, .ref h_this), (1, .int x1)]) hx hb dX1_goRound_4 rfl hl (by decide) rfl (fun ls hl => ?_)
  refine lv_aload_n hx hb dX1_goRound_5 rfl (lv_at hl 1 rfl) ?_
  refine lv_dup hx hb dX1_goRound_6 rfl ?_
  refine z_pc (pc' := 7) rfl ?_
  refine va_get (D := (dC, dI)) (ci := 1) (v := .int v_round) (C := RX1) (T := TX1) (N := 16) hx hb hts (fun w h => List.mem_cons_of_mem _ (inU_1 w h)) hown hK hP 0 rfl rfl 11 (by decide) (hts _ (List.mem_cons_of_mem _ U_445)) (fun _ h9 => h9) rfl dX1_goRound_7 ?_
  refine lv_iconst (v := 1) hx hb dX1_goRound_10 (by decide) ?_
  refine lv_iadd hx hb dX1_goRound_11 ?_
  refine va_put (D := (dC, dI)) (ci := 1) (v := .int (v_round + 1)) (ty := .int) (C := RX1) (T := TX1) (N := 16) hx hb hts (fun w h => List.mem_cons_of_mem _ (inU_1 w h)) tyX1 tyX1_ok nmX1 hown hK hP hD hS 0 rfl rfl 11 (by decide) (hts _ (List.mem_cons_of_mem _ U_445)) (fun _ h9 => h9) rfl (by decide +kernel) rfl rfl (Nat.le_of_ble_eq_true rfl) dX1_goRound_12 (fun H locs hP hD hS => ?_)
  have hP : va_P (dC, dI) vwCl [oX1 h_this h_hall h_coins h_chairOf h_tired h_hosted h_owed h_paid v_sitting v_taken v_served v_hidden (v_round + 1) v_over v_host v_paidInAll v_lot, oX2 h_hall h_hall_guestName h_hall_coins h_hall_pride h_hall_speed h_hall_place h_hall_payer h_hall_dishName h_hall_cost v_hall_chairs v_hall_guests v_hall_dishes, aI cI h_hall_pride 7 v_hall_pride, aI cI h_hall_speed 7 v_hall_speed, aI cI h_hall_payer 7 v_hall_payer, aI cI h_hall_cost 6 v_hall_cost, aI cI h_coins 7 v_coins, aI cI h_chairOf 7 v_chairOf, aI cI h_tired 7 v_tired, aI cI h_hosted 7 v_hosted, aI cI h_owed 7 v_owed, aI cI h_paid 7 v_paid] H := hP
  have hD : va_D A [oX1 h_this h_hall h_coins h_chairOf h_tired h_hosted h_owed h_paid v_sitting v_taken v_served v_hidden (v_round + 1) v_over v_host v_paidInAll v_lot, oX2 h_hall h_hall_guestName h_hall_coins h_hall_pride h_hall_speed h_hall_place h_hall_payer h_hall_dishName h_hall_cost v_hall_chairs v_hall_guests v_hall_dishes, aI cI h_hall_pride 7 v_hall_pride, aI cI h_hall_speed 7 v_hall_speed, aI cI h_hall_payer 7 v_hall_payer, aI cI h_hall_cost 6 v_hall_cost, aI cI h_coins 7 v_coins, aI cI h_chairOf 7 v_chairOf, aI cI h_tired 7 v_tired, aI cI h_hosted 7 v_hosted, aI cI h_owed 7 v_owed, aI cI h_paid 7 v_paid] := hD
  refine lv_iconst (v := 0) hx hb dX1_goRound_15 (by decide) ?_
  refine lv_istore_n (lv' := [(3, .int 0), (2, .int v_over), (0, .ref h_this), (1, .int x1)]) hx hb dX1_goRound_16 rfl hl (by decide) rfl (fun ls hl => ?_)
  exact tX1_goRound_17 hA C0 hR h_this h_hall h_hall_pride h_hall_speed h_hall_payer h_hall_cost h_coins h_chairOf h_tired h_hosted h_owed h_paid h_hall_guestName h_hall_coins h_hall_place h_hall_dishName v_hidden v_lot v_hall_chairs v_hall_guests v_hall_dishes v_hall_pride v_hall_speed v_hall_payer v_hall_cost o_r o_sitting o_taken o_served o_round o_over o_host o_paidInAll o_coins o_chairOf o_tired o_hosted o_owed o_paid 5000 v_sitting v_taken v_served (v_round + 1) v_over v_host v_paidInAll v_coins v_chairOf v_tired v_hosted v_owed v_paid x1 v_over 0 hr _ _ ⟨hK, hP, hD, hS⟩ ls (lv_sub hl [2, 3, 1, 0] rfl)
set_option maxHeartbeats 4000000 in
set_option maxRecDepth 100000 in
theorem mX1_goRound (l : Launch) (dC : Nat → ClassId) (dI : Nat → Nat → Nat) (cI cJ cB cZ cF cG : ClassId) (h_this : Nat) (h_hall : Nat) (h_hall_pride : Nat) (h_hall_speed : Nat) (h_hall_payer : Nat) (h_hall_cost : Nat) (h_coins : Nat) (h_chairOf : Nat) (h_tired : Nat) (h_hosted : Nat) (h_owed : Nat) (h_paid : Nat) (h_hall_guestName : Nat) (h_hall_coins : Nat) (h_hall_place : Nat) (h_hall_dishName : Nat) (sz : Nat) (v_sitting : Int32) (v_taken : Int32) (v_served : Int32) (v_hidden : Int32) (v_round : Int32) (v_over : Int32) (v_host : Int32) (v_paidInAll : Int32) (v_lot : Int32) (v_hall_chairs : Int32) (v_hall_guests : Int32) (v_hall_dishes : Int32) (v_hall_pride : Nat → Int32) (v_hall_speed : Nat → Int32) (v_hall_payer : Nat → Int32) (v_hall_cost : Nat → Int32) (v_coins : Nat → Int32) (v_chairOf : Nat → Int32) (v_tired : Nat → Int32) (v_hosted : Nat → Int32) (v_owed : Nat → Int32) (v_paid : Nat → Int32) (x1 : Int32) (o_r : Int32) (o_sitting : Int32) (o_taken : Int32) (o_served : Int32) (o_round : Int32) (o_over : Int32) (o_host : Int32) (o_paidInAll : Int32) (o_coins : Nat → Int32) (o_chairOf : Nat → Int32) (o_tired : Nat → Int32) (o_hosted : Nat → Int32) (o_owed : Nat → Int32) (o_paid : Nat → Int32) (hf : fX1_goRound v_hidden v_hall_chairs v_hall_guests v_hall_dishes v_hall_pride v_hall_speed v_hall_payer v_hall_cost v_sitting v_taken v_served v_round v_over v_host v_paidInAll v_coins v_chairOf v_tired v_hosted v_owed v_paid x1 = some (o_r, o_sitting, o_taken, o_served, o_round, o_over, o_host, o_paidInAll, o_coins, o_chairOf, o_tired, o_hosted, o_owed, o_paid)) : Met l yX1_goRound uX1_goRound ({ frames := 3, cells := 0, slots := 0, locals := 67 }) (va_Pc [.ref h_this, .int x1] (fun U => U.heap.size = sz ∧ va_P (dC, dI) vwCl [oX1 h_this h_hall h_coins h_chairOf h_tired h_hosted h_owed h_paid v_sitting v_taken v_served v_hidden v_round v_over v_host v_paidInAll v_lot, oX2 h_hall h_hall_guestName h_hall_coins h_hall_pride h_hall_speed h_hall_place h_hall_payer h_hall_dishName h_hall_cost v_hall_chairs v_hall_guests v_hall_dishes, aI cI h_hall_pride 7 v_hall_pride, aI cI h_hall_speed 7 v_hall_speed, aI cI h_hall_payer 7 v_hall_payer, aI cI h_hall_cost 6 v_hall_cost, aI cI h_coins 7 v_coins, aI cI h_chairOf 7 v_chairOf, aI cI h_tired 7 v_tired, aI cI h_hosted 7 v_hosted, aI cI h_owed 7 v_owed, aI cI h_paid 7 v_paid] U.heap ∧ va_K (dC, dI) vwCl (TYS cI cJ cB cZ cF cG) U ∧ va_D (fun _ => True) [oX1 h_this h_hall h_coins h_chairOf h_tired h_hosted h_owed h_paid v_sitting v_taken v_served v_hidden v_round v_over v_host v_paidInAll v_lot, oX2 h_hall h_hall_guestName h_hall_coins h_hall_pride h_hall_speed h_hall_place h_hall_payer h_hall_dishName h_hall_cost v_hall_chairs v_hall_guests v_hall_dishes, aI cI h_hall_pride 7 v_hall_pride, aI cI h_hall_speed 7 v_hall_speed, aI cI h_hall_payer 7 v_hall_payer, aI cI h_hall_cost 6 v_hall_cost, aI cI h_coins 7 v_coins, aI cI h_chairOf 7 v_chairOf, aI cI h_tired 7 v_tired, aI cI h_hosted 7 v_hosted, aI cI h_owed 7 v_owed, aI cI h_paid 7 v_paid])) (PQz dC dI cI cJ cB cZ cF cG (va_A [oX1 h_this h_hall h_coins h_chairOf h_tired h_hosted h_owed h_paid v_sitting v_taken v_served v_hidden v_round v_over v_host v_paidInAll v_lot, oX2 h_hall h_hall_guestName h_hall_coins h_hall_pride h_hall_speed h_hall_place h_hall_payer h_hall_dishName h_hall_cost v_hall_chairs v_hall_guests v_hall_dishes, aI cI h_hall_pride 7 v_hall_pride, aI cI h_hall_speed 7 v_hall_speed, aI cI h_hall_payer 7 v_hall_payer, aI cI h_hall_cost 6 v_hall_cost, aI cI h_coins 7 v_coins, aI cI h_chairOf 7 v_chairOf, aI cI h_tired 7 v_tired, aI cI h_hosted 7 v_hosted, aI cI h_owed 7 v_owed, aI cI h_paid 7 v_paid] sz) o_r [oX1 h_this h_hall h_coins h_chairOf h_tired h_hosted h_owed h_paid o_sitting o_taken o_served v_hidden o_round o_over o_host o_paidInAll v_lot, oX2 h_hall h_hall_guestName h_hall_coins h_hall_pride h_hall_speed h_hall_place h_hall_payer h_hall_dishName h_hall_cost v_hall_chairs v_hall_guests v_hall_dishes, aI cI h_hall_pride 7 v_hall_pride, aI cI h_hall_speed 7 v_hall_speed, aI cI h_hall_payer 7 v_hall_payer, aI cI h_hall_cost 6 v_hall_cost, aI cI h_coins 7 o_coins, aI cI h_chairOf 7 o_chairOf, aI cI h_tired 7 o_tired, aI cI h_hosted 7 o_hosted, aI cI h_owed 7 o_owed, aI cI h_paid 7 o_paid]) 0 0 (va_A [oX1 h_this h_hall h_coins h_chairOf h_tired h_hosted h_owed h_paid v_sitting v_taken v_served v_hidden v_round v_over v_host v_paidInAll v_lot, oX2 h_hall h_hall_guestName h_hall_coins h_hall_pride h_hall_speed h_hall_place h_hall_payer h_hall_dishName h_hall_cost v_hall_chairs v_hall_guests v_hall_dishes, aI cI h_hall_pride 7 v_hall_pride, aI cI h_hall_speed 7 v_hall_speed, aI cI h_hall_payer 7 v_hall_payer, aI cI h_hall_cost 6 v_hall_cost, aI cI h_coins 7 v_coins, aI cI h_chairOf 7 v_chairOf, aI cI h_tired 7 v_tired, aI cI h_hosted 7 v_hosted, aI cI h_owed 7 v_owed, aI cI h_paid 7 v_paid] sz) := by
  refine Met.ofW (cc := cX1_goRound) (maxL := 4) (ret := (some .boolean)) (by decide) rfl ?_
  intro p e s m args below meth c s₁ B hml hv
  obtain ⟨rfl, hsz, hP, hK, hD0⟩ := hv
  have hx := B.exec
  have hb := B.bytes
  have hr := B.returns
  have hts := atoms_spec (ws := uX1_goRound) B.pre
  have hown : s.vm.findClass RX1 = some m.cls := findClass_of_methodNamed B.named
  have hlocks := B.notSynchronized
  subst hsz
  have hD := hD0.self (sz := s.heap.size)
  generalize hAe : va_A [oX1 h_this h_hall h_coins h_chairOf h_tired h_hosted h_owed h_paid v_sitting v_taken v_served v_hidden v_round v_over v_host v_paidInAll v_lot, oX2 h_hall h_hall_guestName h_hall_coins h_hall_pride h_hall_speed h_hall_place h_hall_payer h_hall_dishName h_hall_cost v_hall_chairs v_hall_guests v_hall_dishes, aI cI h_hall_pride 7 v_hall_pride, aI cI h_hall_speed 7 v_hall_speed, aI cI h_hall_payer 7 v_hall_payer, aI cI h_hall_cost 6 v_hall_cost, aI cI h_coins 7 v_coins, aI cI h_chairOf 7 v_chairOf, aI cI h_tired 7 v_tired, aI cI h_hosted 7 v_hosted, aI cI h_owed 7 v_owed, aI cI h_paid 7 v_paid] s.heap.size = A at hD ⊢
  have hA : ∀ q : Nat, s.heap.size ≤ q → A q := fun q h => by rw [← hAe]; exact Or.inr h
  have hS : va_S A s.heap s.heap [] := va_S.rf
  have hl := lv_entry ([.ref h_this, .int x1]) (n := 4) (Nat.le_of_ble_eq_true rfl)
  rw [lg_entry_eq]
  generalize (lg_sl ([.ref h_this, .int x1]) ++ List.replicate (4 - (lg_sl ([.ref h_this, .int x1])).length) Slot.unset).toArray = ls at hl ⊢
  have hl : lv_has ls 4 [(0, .ref h_this), (1, .int x1)] := hl
  exact tX1_goRound hA ⟨hx, hb, hr, hml, hown, hts, hlocks⟩ ⟨Nat.le_refl _, Nat.le_refl _⟩ h_this h_hall h_hall_pride h_hall_speed h_hall_payer h_hall_cost h_coins h_chairOf h_tired h_hosted h_owed h_paid h_hall_guestName h_hall_coins h_hall_place h_hall_dishName v_hidden v_lot v_hall_chairs v_hall_guests v_hall_dishes v_hall_pride v_hall_speed v_hall_payer v_hall_cost o_r o_sitting o_taken o_served o_round o_over o_host o_paidInAll o_coins o_chairOf o_tired o_hosted o_owed o_paid v_sitting v_taken v_served v_round v_over v_host v_paidInAll v_coins v_chairOf v_tired v_hosted v_owed v_paid x1 hf _ _ ⟨hK, hP, hD, hS⟩ ls hl
-- LastSeat$Feast.roundsTill(II)I
def uX1_roundsTill : List Cond := .code yX1_roundsTill cX1_roundsTill 4 (some .int) :: wsU
set_option maxHeartbeats 4000000 in
set_option maxRecDepth 100000 in
theorem tX1_roundsTill_2 {p : Program} {l : Launch} {e : Env} {R : Room} {s : State} {m : MethodId} {args : Array Value} {below : List Frame} {meth : Method} {c : Code} {dC : Nat → ClassId} {dI : Nat → Nat → Nat} {cI cJ cB cZ cF cG : ClassId} {A : Nat → Prop} (hA : ∀ q : Nat, s.heap.size ≤ q → A q) (C0 : Cx p s m meth c args cX1_roundsTill 4 (some .int) RX1 uX1_roundsTill) (hR : 1 ≤ R.frames ∧ 23 ≤ R.locals) (h_this : Nat) (h_hall : Nat) (h_hall_speed : Nat) (h_chairOf : Nat) (h_coins : Nat) (h_tired : Nat) (h_hosted : Nat) (h_owed : Nat) (h_paid : Nat) (h_hall_guestName : Nat) (h_hall_coins : Nat) (h_hall_pride : Nat) (h_hall_place : Nat) (h_hall_payer : Nat) (h_hall_dishName : Nat) (h_hall_cost : Nat) (v_sitting : Int32) (v_taken : Int32) (v_served : Int32) (v_hidden : Int32) (v_round : Int32) (v_over : Int32) (v_host : Int32) (v_paidInAll : Int32) (v_lot : Int32) (v_hall_chairs : Int32) (v_hall_guests : Int32) (v_hall_dishes : Int32) (v_hall_speed : Nat → Int32) (v_chairOf : Nat → Int32) (o_r : Int32) :
    ∀ n : Nat, ∀ (x1 : Int32) (x2 : Int32) (x3 : Int32), lX1_roundsTill_2 v_hall_chairs v_hall_speed v_chairOf n x1 x2 x3 = some o_r → ∀ (H : Heap) (locs : List Loc), Wd dC dI cI cJ cB cZ cF cG A s H locs [oX1 h_this h_hall h_coins h_chairOf h_tired h_hosted h_owed h_paid v_sitting v_taken v_served v_hidden v_round v_over v_host v_paidInAll v_lot, oX2 h_hall h_hall_guestName h_hall_coins h_hall_pride h_hall_speed h_hall_place h_hall_payer h_hall_dishName h_hall_cost v_hall_chairs v_hall_guests v_hall_dishes, aI cI h_hall_speed 7 v_hall_speed, aI cI h_chairOf 7 v_chairOf] → ∀ (ls : Array Slot), lv_has ls 4 [(0, .ref h_this), (1, .int x1), (2, .int x2), (3, .int x3)] → W p l e R s m args below meth c H locs 0 0 (MQ below (PQi dC dI cI cJ cB cZ cF cG A o_r [oX1 h_this h_hall h_coins h_chairOf h_tired h_hosted h_owed h_paid v_sitting v_taken v_served v_hidden v_round v_over v_host v_paidInAll v_lot, oX2 h_hall h_hall_guestName h_hall_coins h_hall_pride h_hall_speed h_hall_place h_hall_payer h_hall_dishName h_hall_cost v_hall_chairs v_hall_guests v_hall_dishes, aI cI h_hall_speed 7 v_hall_speed, aI cI h_chairOf 7 v_chairOf]) args s 0 0 A) (F0 m 2 ls []) := by
  obtain ⟨hx, hb, hrt, hml, hown, hts, hlocks⟩ := id C0
  intro n
  induction n with
  | zero =>
    intro x1 x2 x3 hr
    exact nomatch (show (none : Option (Int32)) = some _ from hr)
  | succ n ih =>
    intro x1 x2 x3 hr H locs hW ls hl
    obtain ⟨hK, hP, hD, hS⟩ := hW
    have hr : (if v_hall_chairs ≤ x3 then some (-1) else (fX1_onFrom v_hall_chairs v_hall_speed v_chairOf x1 x3).bind (fun r_1 => if r_1 = x2 then some x3 else lX1_roundsTill_2 v_hall_chairs v_hall_speed v_chairOf n x1 x2 (x3 + 1)) : Option (Int32)) = some o_r := hr
    refine lv_iload_n hx hb dX1_roundsTill_2 rfl (lv_at hl 3 rfl) ?_
    refine lv_aload_n hx hb dX1_roundsTill_3 rfl (lv_at hl 0 rfl) ?_
    refine va_get (D := (dC, dI)) (ci := 1) (v := .ref h_hall) (C := RX1) (T := TX1) (N := 16) hx hb hts (fun w h => List.mem_cons_of_mem _ (inU_1 w h)) hown hK hP 0 rfl rfl 0 (by decide) (hts _ (List.mem_cons_of_mem _ U_143)) (fun _ h9 => h9) rfl dX1_roundsTill_4 ?_
    refine va_get (D := (dC, dI)) (ci := 2) (v := .int v_hall_chairs) (C := RX2) (T := TX2) (N := 11) hx hb hts (fun w h => List.mem_cons_of_mem _ (inU_2 w h)) hown hK hP 1 rfl rfl 8 (by decide) (hts _ (List.mem_cons_of_mem _ U_792)) (fun _ h9 => h9) rfl dX1_roundsTill_7 ?_
    refine lv_icmp_ge (tgt := 31) hx hb dX1_roundsTill_10 (by decide) (fun hc => ?_) (fun hc => ?_)
    · have hr := iteP hc hr
      refine lv_iconst (v := (-1)) hx hb dX1_roundsTill_31 (by decide) ?_
      have q0 := Option.some.inj hr
      subst q0
      exact W.iret (v := (-1)) hx hb hrt (fun t ht hW => ⟨⟨(-1), (), rfl, rfl, by rw [ht]; exact hP, va_K.moved hW.alike hK, hD⟩, hS.F ht⟩) hS.2.2 dX1_roundsTill_32 hlocks
    · have hr := iteN hc hr
      refine lv_aload_n hx hb dX1_roundsTill_13 rfl (lv_at hl 0 rfl) ?_
      refine lv_iload_n hx hb dX1_roundsTill_14 rfl (lv_at hl 1 rfl) ?_
      refine lv_iload_n hx hb dX1_roundsTill_15 rfl (lv_at hl 3 rfl) ?_
      obtain ⟨r_1, ho, hr⟩ := bind_s hr
      have hPc := hP.sub (ws' := [oX1 h_this h_hall h_coins h_chairOf h_tired h_hosted h_owed h_paid v_sitting v_taken v_served v_hidden v_round v_over v_host v_paidInAll v_lot, oX2 h_hall h_hall_guestName h_hall_coins h_hall_pride h_hall_speed h_hall_place h_hall_payer h_hall_dishName h_hall_cost v_hall_chairs v_hall_guests v_hall_dishes, aI cI h_hall_speed 7 v_hall_speed, aI cI h_chairOf 7 v_chairOf]) [0, 1, 2, 3] rfl
      have hDc := hD.sub (ws' := [oX1 h_this h_hall h_coins h_chairOf h_tired h_hosted h_owed h_paid v_sitting v_taken v_served v_hidden v_round v_over v_host v_paidInAll v_lot, oX2 h_hall h_hall_guestName h_hall_coins h_hall_pride h_hall_speed h_hall_place h_hall_payer h_hall_dishName h_hall_cost v_hall_chairs v_hall_guests v_hall_dishes, aI cI h_hall_speed 7 v_hall_speed, aI cI h_chairOf 7 v_chairOf]) [0, 1, 2, 3] (by decide) rfl
      have hFc := va_free (wc := [oX1 h_this h_hall h_coins h_chairOf h_tired h_hosted h_owed h_paid v_sitting v_taken v_served v_hidden v_round v_over v_host v_paidInAll v_lot, oX2 h_hall h_hall_guestName h_hall_coins h_hall_pride h_hall_speed h_hall_place h_hall_payer h_hall_dishName h_hall_cost v_hall_chairs v_hall_guests v_hall_dishes, aI cI h_hall_speed 7 v_hall_speed, aI cI h_chairOf 7 v_chairOf]) hD hS hA [0, 1, 2, 3] rfl
      refine va_calli (va_runV (As := [.int x1, .int x3]) (rest := []) ⟨hx, hb, hml, hown, hts⟩ (mX1_onFrom l dC dI cI cJ cB cZ cF cG h_this h_hall h_hall_speed h_chairOf h_coins h_tired h_hosted h_owed h_paid h_hall_guestName h_hall_coins h_hall_pride h_hall_place h_hall_payer h_hall_dishName h_hall_cost H.size v_sitting v_taken v_served v_hidden v_round v_over v_host v_paidInAll v_lot v_hall_chairs v_hall_guests v_hall_dishes v_hall_speed v_chairOf x1 x3 r_1 ho) (cwV 2 hts (goodV U_832 U_833 U_834 U_27 U_835) rfl rfl rfl (by decide +kernel) ⟨Nat.le_trans (by decide) hR.1, Nat.le_trans (Nat.le_of_ble_eq_true rfl) hR.2⟩) ⟨fun a U g mk q => by obtain ⟨q0, q1, qP, qK, qD⟩ := q; exact ⟨q0, q1, qP, va_K.moved (u := U) (U := U.calling g mk a) (Vm.Alike.refl U.vm) qK, qD⟩, va_recv hK hPc (ci := 1) (q0 := 0) rfl rfl, fun U hU hW => ⟨rfl, by rw [hU], by rw [hU]; exact hPc, va_K.moved hW.alike hK, hDc.weaken (fun _ _ _ _ => trivial)⟩⟩ rfl rfl hl.1 rfl (lv_room (Nat.le_of_ble_eq_true rfl)) dX1_roundsTill_16 ⟨Nat.zero_le _, Nat.zero_le _⟩) hS (fun q _ h => hFc q h) hFc (fun rz u t H1 locs ht hvm hw hB hz1 hk1 hS => ?_)
      obtain ⟨hP1, hK1, hD1⟩ := hB
      have hw := hw.symm; subst hw
      rw [ht] at hP1
      obtain ⟨hP, hD⟩ := va_join (wr := []) (w1 := [oX1 h_this h_hall h_coins h_chairOf h_tired h_hosted h_owed h_paid v_sitting v_taken v_served v_hidden v_round v_over v_host v_paidInAll v_lot, oX2 h_hall h_hall_guestName h_hall_coins h_hall_pride h_hall_speed h_hall_place h_hall_payer h_hall_dishName h_hall_cost v_hall_chairs v_hall_guests v_hall_dishes, aI cI h_hall_speed 7 v_hall_speed, aI cI h_chairOf 7 v_chairOf]) hP hD [0, 1, 2, 3] [] rfl rfl (by decide) (by decide) hk1 hFc hP1 hD1
      generalize H1 = H at hP hS ⊢
      have hP : va_P (dC, dI) vwCl [oX1 h_this h_hall h_coins h_chairOf h_tired h_hosted h_owed h_paid v_sitting v_taken v_served v_hidden v_round v_over v_host v_paidInAll v_lot, oX2 h_hall h_hall_guestName h_hall_coins h_hall_pride h_hall_speed h_hall_place h_hall_payer h_hall_dishName h_hall_cost v_hall_chairs v_hall_guests v_hall_dishes, aI cI h_hall_speed 7 v_hall_speed, aI cI h_chairOf 7 v_chairOf] H := hP
      have hD : va_D A [oX1 h_this h_hall h_coins h_chairOf h_tired h_hosted h_owed h_paid v_sitting v_taken v_served v_hidden v_round v_over v_host v_paidInAll v_lot, oX2 h_hall h_hall_guestName h_hall_coins h_hall_pride h_hall_speed h_hall_place h_hall_payer h_hall_dishName h_hall_cost v_hall_chairs v_hall_guests v_hall_dishes, aI cI h_hall_speed 7 v_hall_speed, aI cI h_chairOf 7 v_chairOf] := hD
      refine lv_iload_n hx hb dX1_roundsTill_19 rfl (lv_at hl 2 rfl) ?_
      refine z_pc (pc' := 20) rfl ?_
      refine lv_icmp_ne (tgt := 25) hx hb dX1_roundsTill_20 (by decide) (fun hc => ?_) (fun hc => ?_)
      · have hr := iteN hc hr
        refine lv_iinc (v := (x3 + 1)) (lv' := [(3, .int (x3 + 1)), (0, .ref h_this), (1, .int x1), (2, .int x2)]) hx hb dX1_roundsTill_25 hl (k := 3) rfl rfl (by decide) rfl (fun ls hl => ?_)
        refine lv_goto (tgt := 2) hx hb dX1_roundsTill_28 (by decide) ?_
        exact ih x1 x2 (x3 + 1) hr _ _ ⟨hK, hP, hD, hS⟩ ls (lv_sub hl [1, 2, 3, 0] rfl)
      · have hr := iteP hc hr
        refine lv_iload_n hx hb dX1_roundsTill_23 rfl (lv_at hl 3 rfl) ?_
        have q0 := Option.some.inj hr
        subst q0
        exact W.iret (v := x3) hx hb hrt (fun t ht hW => ⟨⟨x3, (), rfl, rfl, by rw [ht]; exact hP, va_K.moved hW.alike hK, hD⟩, hS.F ht⟩) hS.2.2 dX1_roundsTill_24 hlocks
set_option maxHeartbeats 4000000 in
set_option maxRecDepth 100000 in
theorem tX1_roundsTill {p : Program} {l : Launch} {e : Env} {R : Room} {s : State} {m : MethodId} {args : Array Value} {below : List Frame} {meth : Method} {c : Code} {dC : Nat → ClassId} {dI : Nat → Nat → Nat} {cI cJ cB cZ cF cG : ClassId} {A : Nat → Prop} (hA : ∀ q : Nat, s.heap.size ≤ q → A q) (C0 : Cx p s m meth c args cX1_roundsTill 4 (some .int) RX1 uX1_roundsTill) (hR : 1 ≤ R.frames ∧ 23 ≤ R.locals) (h_this : Nat) (h_hall : Nat) (h_hall_speed : Nat) (h_chairOf : Nat) (h_coins : Nat) (h_tired : Nat) (h_hosted : Nat) (h_owed : Nat) (h_paid : Nat) (h_hall_guestName : Nat) (h_hall_coins : Nat) (h_hall_pride : Nat) (h_hall_place : Nat) (h_hall_payer : Nat) (h_hall_dishName : Nat) (h_hall_cost : Nat) (v_sitting : Int32) (v_taken : Int32) (v_served : Int32) (v_hidden : Int32) (v_round : Int32) (v_over : Int32) (v_host : Int32) (v_paidInAll : Int32) (v_lot : Int32) (v_hall_chairs : Int32) (v_hall_guests : Int32) (v_hall_dishes : Int32) (v_hall_speed : Nat → Int32) (v_chairOf : Nat → Int32) (o_r : Int32) :
    ∀ (x1 : Int32) (x2 : Int32), fX1_roundsTill v_hall_chairs v_hall_speed v_chairOf x1 x2 = some o_r → ∀ (H : Heap) (locs : List Loc), Wd dC dI cI cJ cB cZ cF cG A s H locs [oX1 h_this h_hall h_coins h_chairOf h_tired h_hosted h_owed h_paid v_sitting v_taken v_served v_hidden v_round v_over v_host v_paidInAll v_lot, oX2 h_hall h_hall_guestName h_hall_coins h_hall_pride h_hall_speed h_hall_place h_hall_payer h_hall_dishName h_hall_cost v_hall_chairs v_hall_guests v_hall_dishes, aI cI h_hall_speed 7 v_hall_speed, aI cI h_chairOf 7 v_chairOf] → ∀ (ls : Array Slot), lv_has ls 4 [(0, .ref h_this), (1, .int x1), (2, .int x2)] → W p l e R s m args below meth c H locs 0 0 (MQ below (PQi dC dI cI cJ cB cZ cF cG A o_r [oX1 h_this h_hall h_coins h_chairOf h_tired h_hosted h_owed h_paid v_sitting v_taken v_served v_hidden v_round v_over v_host v_paidInAll v_lot, oX2 h_hall h_hall_guestName h_hall_coins h_hall_pride h_hall_speed h_hall_place h_hall_payer h_hall_dishName h_hall_cost v_hall_chairs v_hall_guests v_hall_dishes, aI cI h_hall_speed 7 v_hall_speed, aI cI h_chairOf 7 v_chairOf]) args s 0 0 A) (F0 m 0 ls []) := by
  obtain ⟨hx, hb, hrt, hml, hown, hts, hlocks⟩ := id C0
  intro x1 x2 hr H locs hW ls hl
  obtain ⟨hK, hP, hD, hS⟩ := hW
  have hr : (lX1_roundsTill_2 v_hall_chairs v_hall_speed v_chairOf 5000 x1 x2 0 : Option (Int32)) = some o_r := hr
  refine lv_iconst (v := 0) hx hb dX1_roundsTill_0 (by decide) ?_
  refine lv_istore_n (lv' := [(3, .int 0), (0, .ref h_this), (1, .int x1), (2, .int x2)]) hx hb dX1_roundsTill_1 rfl hl (by decide) rfl (fun ls hl => ?_)
  exact tX1_roundsTill_2 hA C0 hR h_this h_hall h_hall_speed h_chairOf h_coins h_tired h_hosted h_owed h_paid h_hall_guestName h_hall_coins h_hall_pride h_hall_place h_hall_payer h_hall_dishName h_hall_cost v_sitting v_taken v_served v_hidden v_round v_over v_host v_paidInAll v_lot v_hall_chairs v_hall_guests v_hall_dishes v_hall_speed v_chairOf o_r 5000 x1 x2 0 hr _ _ ⟨hK, hP, hD, hS⟩ ls (lv_sub hl [1, 2, 3, 0] rfl)
set_option maxHeartbeats 4000000 in
set_option maxRecDepth 100000 in
theorem mX1_roundsTill (l : Launch) (dC : Nat → ClassId) (dI : Nat → Nat → Nat) (cI cJ cB cZ cF cG : ClassId) (h_this : Nat) (h_hall : Nat) (h_hall_speed : Nat) (h_chairOf : Nat) (h_coins : Nat) (h_tired : Nat) (h_hosted : Nat) (h_owed : Nat) (h_paid : Nat) (h_hall_guestName : Nat) (h_hall_coins : Nat) (h_hall_pride : Nat) (h_hall_place : Nat) (h_hall_payer : Nat) (h_hall_dishName : Nat) (h_hall_cost : Nat) (sz : Nat) (v_sitting : Int32) (v_taken : Int32) (v_served : Int32) (v_hidden : Int32) (v_round : Int32) (v_over : Int32) (v_host : Int32) (v_paidInAll : Int32) (v_lot : Int32) (v_hall_chairs : Int32) (v_hall_guests : Int32) (v_hall_dishes : Int32) (v_hall_speed : Nat → Int32) (v_chairOf : Nat → Int32) (x1 : Int32) (x2 : Int32) (o_r : Int32) (hf : fX1_roundsTill v_hall_chairs v_hall_speed v_chairOf x1 x2 = some o_r) : Met l yX1_roundsTill uX1_roundsTill ({ frames := 1, cells := 0, slots := 0, locals := 23 }) (va_Pc [.ref h_this, .int x1, .int x2] (fun U => U.heap.size = sz ∧ va_P (dC, dI) vwCl [oX1 h_this h_hall h_coins h_chairOf h_tired h_hosted h_owed h_paid v_sitting v_taken v_served v_hidden v_round v_over v_host v_paidInAll v_lot, oX2 h_hall h_hall_guestName h_hall_coins h_hall_pride h_hall_speed h_hall_place h_hall_payer h_hall_dishName h_hall_cost v_hall_chairs v_hall_guests v_hall_dishes, aI cI h_hall_speed 7 v_hall_speed, aI cI h_chairOf 7 v_chairOf] U.heap ∧ va_K (dC, dI) vwCl (TYS cI cJ cB cZ cF cG) U ∧ va_D (fun _ => True) [oX1 h_this h_hall h_coins h_chairOf h_tired h_hosted h_owed h_paid v_sitting v_taken v_served v_hidden v_round v_over v_host v_paidInAll v_lot, oX2 h_hall h_hall_guestName h_hall_coins h_hall_pride h_hall_speed h_hall_place h_hall_payer h_hall_dishName h_hall_cost v_hall_chairs v_hall_guests v_hall_dishes, aI cI h_hall_speed 7 v_hall_speed, aI cI h_chairOf 7 v_chairOf])) (PQi dC dI cI cJ cB cZ cF cG (va_A [oX1 h_this h_hall h_coins h_chairOf h_tired h_hosted h_owed h_paid v_sitting v_taken v_served v_hidden v_round v_over v_host v_paidInAll v_lot, oX2 h_hall h_hall_guestName h_hall_coins h_hall_pride h_hall_speed h_hall_place h_hall_payer h_hall_dishName h_hall_cost v_hall_chairs v_hall_guests v_hall_dishes, aI cI h_hall_speed 7 v_hall_speed, aI cI h_chairOf 7 v_chairOf] sz) o_r [oX1 h_this h_hall h_coins h_chairOf h_tired h_hosted h_owed h_paid v_sitting v_taken v_served v_hidden v_round v_over v_host v_paidInAll v_lot, oX2 h_hall h_hall_guestName h_hall_coins h_hall_pride h_hall_speed h_hall_place h_hall_payer h_hall_dishName h_hall_cost v_hall_chairs v_hall_guests v_hall_dishes, aI cI h_hall_speed 7 v_hall_speed, aI cI h_chairOf 7 v_chairOf]) 0 0 (va_A [oX1 h_this h_hall h_coins h_chairOf h_tired h_hosted h_owed h_paid v_sitting v_taken v_served v_hidden v_round v_over v_host v_paidInAll v_lot, oX2 h_hall h_hall_guestName h_hall_coins h_hall_pride h_hall_speed h_hall_place h_hall_payer h_hall_dishName h_hall_cost v_hall_chairs v_hall_guests v_hall_dishes, aI cI h_hall_speed 7 v_hall_speed, aI cI h_chairOf 7 v_chairOf] sz) := by
  refine Met.ofW (cc := cX1_roundsTill) (maxL := 4) (ret := (some .int)) (by decide) rfl ?_
  intro p e s m args below meth c s₁ B hml hv
  obtain ⟨rfl, hsz, hP, hK, hD0⟩ := hv
  have hx := B.exec
  have hb := B.bytes
  have hr := B.returns
  have hts := atoms_spec (ws := uX1_roundsTill) B.pre
  have hown : s.vm.findClass RX1 = some m.cls := findClass_of_methodNamed B.named
  have hlocks := B.notSynchronized
  subst hsz
  have hD := hD0.self (sz := s.heap.size)
  generalize hAe : va_A [oX1 h_this h_hall h_coins h_chairOf h_tired h_hosted h_owed h_paid v_sitting v_taken v_served v_hidden v_round v_over v_host v_paidInAll v_lot, oX2 h_hall h_hall_guestName h_hall_coins h_hall_pride h_hall_speed h_hall_place h_hall_payer h_hall_dishName h_hall_cost v_hall_chairs v_hall_guests v_hall_dishes, aI cI h_hall_speed 7 v_hall_speed, aI cI h_chairOf 7 v_chairOf] s.heap.size = A at hD ⊢
  have hA : ∀ q : Nat, s.heap.size ≤ q → A q := fun q h => by rw [← hAe]; exact Or.inr h
  have hS : va_S A s.heap s.heap [] := va_S.rf
  have hl := lv_entry ([.ref h_this, .int x1, .int x2]) (n := 4) (Nat.le_of_ble_eq_true rfl)
  rw [lg_entry_eq]
  generalize (lg_sl ([.ref h_this, .int x1, .int x2]) ++ List.replicate (4 - (lg_sl ([.ref h_this, .int x1, .int x2])).length) Slot.unset).toArray = ls at hl ⊢
  have hl : lv_has ls 4 [(0, .ref h_this), (1, .int x1), (2, .int x2)] := hl
  exact tX1_roundsTill hA ⟨hx, hb, hr, hml, hown, hts, hlocks⟩ ⟨Nat.le_refl _, Nat.le_refl _⟩ h_this h_hall h_hall_speed h_chairOf h_coins h_tired h_hosted h_owed h_paid h_hall_guestName h_hall_coins h_hall_pride h_hall_place h_hall_payer h_hall_dishName h_hall_cost v_sitting v_taken v_served v_hidden v_round v_over v_host v_paidInAll v_lot v_hall_chairs v_hall_guests v_hall_dishes v_hall_speed v_chairOf o_r x1 x2 hf _ _ ⟨hK, hP, hD, hS⟩ ls hl
-- LastSeat$Feast.draw(I)I
def uX1_draw : List Cond := .code yX1_draw cX1_draw 2 (some .int) :: wsU
set_option maxHeartbeats 4000000 in
set_option maxRecDepth 100000 in
theorem tX1_draw {p : Program} {l : Launch} {e : Env} {R : Room} {s : State} {m : MethodId} {args : Array Value} {below : List Frame} {meth : Method} {c : Code} {dC : Nat → ClassId} {dI : Nat → Nat → Nat} {cI cJ cB cZ cF cG : ClassId} {A : Nat → Prop} (hA : ∀ q : Nat, s.heap.size ≤ q → A q) (C0 : Cx p s m meth c args cX1_draw 2 (some .int) RX1 uX1_draw) (hR : 0 ≤ R.frames ∧ 0 ≤ R.locals) (h_this : Nat) (h_hall : Nat) (h_coins : Nat) (h_chairOf : Nat) (h_tired : Nat) (h_hosted : Nat) (h_owed : Nat) (h_paid : Nat) (v_sitting : Int32) (v_taken : Int32) (v_served : Int32) (v_hidden : Int32) (v_round : Int32) (v_over : Int32) (v_host : Int32) (v_paidInAll : Int32) (o_r : Int32) (o_lot : Int32) :
    ∀ (v_lot : Int32) (x1 : Int32), fX1_draw v_lot x1 = some (o_r, o_lot) → ∀ (H : Heap) (locs : List Loc), Wd dC dI cI cJ cB cZ cF cG A s H locs [oX1 h_this h_hall h_coins h_chairOf h_tired h_hosted h_owed h_paid v_sitting v_taken v_served v_hidden v_round v_over v_host v_paidInAll v_lot] → ∀ (ls : Array Slot), lv_has ls 2 [(0, .ref h_this), (1, .int x1)] → W p l e R s m args below meth c H locs 0 0 (MQ below (PQi dC dI cI cJ cB cZ cF cG A o_r [oX1 h_this h_hall h_coins h_chairOf h_tired h_hosted h_owed h_paid v_sitting v_taken v_served v_hidden v_round v_over v_host v_paidInAll o_lot]) args s 0 0 A) (F0 m 0 ls []) := by
  obtain ⟨hx, hb, hrt, hml, hown, hts, hlocks⟩ := id C0
  intro v_lot x1 hr H locs hW ls hl
  obtain ⟨hK, hP, hD, hS⟩ := hW
  have hr : (nmv ((v_lot * 1103515245) + 12345) (fun w1 => if x1 ≤ 0 then some (0, w1) else gZ x1 (some (((zushr w1 8) - (zushr w1 8) / x1 * x1), w1))) : Option (Int32 × Int32)) = some (o_r, o_lot) := hr
  refine lv_aload_n hx hb dX1_draw_0 rfl (lv_at hl 0 rfl) ?_
  refine lv_aload_n hx hb dX1_draw_1 rfl (lv_at hl 0 rfl) ?_
  refine va_get (D := (dC, dI)) (ci := 1) (v := .int v_lot) (C := RX1) (T := TX1) (N := 16) hx hb hts (fun w h => List.mem_cons_of_mem _ (inU_1 w h)) hown hK hP 0 rfl rfl 15 (by decide) (hts _ (List.mem_cons_of_mem _ U_1201)) (fun _ h9 => h9) rfl dX1_draw_2 ?_
  refine lv_ldc (v := 1103515245) hx hb hown (hts _ (List.mem_cons_of_mem _ U_1211)) dX1_draw_5 ?_
  refine lv_imul hx hb dX1_draw_7 ?_
  refine z_pc (pc' := 8) rfl ?_
  refine lv_sipush (v := 12345) hx hb dX1_draw_8 (by decide) ?_
  refine lv_iadd hx hb dX1_draw_11 ?_
  obtain ⟨w1, hw1, hr⟩ := nm_s hr
  refine z_topi hw1 ?_
  refine va_put (D := (dC, dI)) (ci := 1) (v := .int w1) (ty := .int) (C := RX1) (T := TX1) (N := 16) hx hb hts (fun w h => List.mem_cons_of_mem _ (inU_1 w h)) tyX1 tyX1_ok nmX1 hown hK hP hD hS 0 rfl rfl 15 (by decide) (hts _ (List.mem_cons_of_mem _ U_1201)) (fun _ h9 => h9) rfl (by decide +kernel) rfl rfl (Nat.le_of_ble_eq_true rfl) dX1_draw_12 (fun H locs hP hD hS => ?_)
  have hP : va_P (dC, dI) vwCl [oX1 h_this h_hall h_coins h_chairOf h_tired h_hosted h_owed h_paid v_sitting v_taken v_served v_hidden v_round v_over v_host v_paidInAll w1] H := hP
  have hD : va_D A [oX1 h_this h_hall h_coins h_chairOf h_tired h_hosted h_owed h_paid v_sitting v_taken v_served v_hidden v_round v_over v_host v_paidInAll w1] := hD
  refine lv_iload_n hx hb dX1_draw_15 rfl (lv_at hl 1 rfl) ?_
  refine lv_if_le (tgt := 31) hx hb dX1_draw_16 (by decide) (fun hc => ?_) (fun hc => ?_)
  · have hr := iteP hc hr
    refine lv_iconst (v := 0) hx hb dX1_draw_31 (by decide) ?_
    have q0 := Option.some.inj hr
    obtain ⟨e0, q1⟩ := Prod.mk.inj q0
    subst e0; subst q1
    exact W.iret (v := 0) hx hb hrt (fun t ht hW => ⟨⟨0, (), rfl, rfl, by rw [ht]; exact hP, va_K.moved hW.alike hK, hD⟩, hS.F ht⟩) hS.2.2 dX1_draw_32 hlocks
  · have hr := iteN hc hr
    refine lv_aload_n hx hb dX1_draw_19 rfl (lv_at hl 0 rfl) ?_
    refine va_get (D := (dC, dI)) (ci := 1) (v := .int w1) (C := RX1) (T := TX1) (N := 16) hx hb hts (fun w h => List.mem_cons_of_mem _ (inU_1 w h)) hown hK hP 0 rfl rfl 15 (by decide) (hts _ (List.mem_cons_of_mem _ U_1201)) (fun _ h9 => h9) rfl dX1_draw_20 ?_
    refine lv_bipush (v := 8) hx hb dX1_draw_23 (by decide) ?_
    refine lv_iushr (v := (zushr w1 8)) hx hb dX1_draw_25 rfl ?_
    refine lv_iload_n hx hb dX1_draw_26 rfl (lv_at hl 1 rfl) ?_
    refine z_pc (pc' := 27) rfl ?_
    obtain ⟨hz, hr⟩ := gZ_s hr
    refine lv_irem hx hb dX1_draw_27 hz ?_
    refine lv_goto (tgt := 32) hx hb dX1_draw_28 (by decide) ?_
    have q0 := Option.some.inj hr
    obtain ⟨e0, q1⟩ := Prod.mk.inj q0
    subst e0; subst q1
    exact W.iret (v := ((zushr w1 8) - (zushr w1 8) / x1 * x1)) hx hb hrt (fun t ht hW => ⟨⟨((zushr w1 8) - (zushr w1 8) / x1 * x1), (), rfl, rfl, by rw [ht]; exact hP, va_K.moved hW.alike hK, hD⟩, hS.F ht⟩) hS.2.2 dX1_draw_32 hlocks
set_option maxHeartbeats 4000000 in
set_option maxRecDepth 100000 in
theorem mX1_draw (l : Launch) (dC : Nat → ClassId) (dI : Nat → Nat → Nat) (cI cJ cB cZ cF cG : ClassId) (h_this : Nat) (h_hall : Nat) (h_coins : Nat) (h_chairOf : Nat) (h_tired : Nat) (h_hosted : Nat) (h_owed : Nat) (h_paid : Nat) (sz : Nat) (v_sitting : Int32) (v_taken : Int32) (v_served : Int32) (v_hidden : Int32) (v_round : Int32) (v_over : Int32) (v_host : Int32) (v_paidInAll : Int32) (v_lot : Int32) (x1 : Int32) (o_r : Int32) (o_lot : Int32) (hf : fX1_draw v_lot x1 = some (o_r, o_lot)) : Met l yX1_draw uX1_draw ({ frames := 0, cells := 0, slots := 0, locals := 0 }) (va_Pc [.ref h_this, .int x1] (fun U => U.heap.size = sz ∧ va_P (dC, dI) vwCl [oX1 h_this h_hall h_coins h_chairOf h_tired h_hosted h_owed h_paid v_sitting v_taken v_served v_hidden v_round v_over v_host v_paidInAll v_lot] U.heap ∧ va_K (dC, dI) vwCl (TYS cI cJ cB cZ cF cG) U ∧ va_D (fun _ => True) [oX1 h_this h_hall h_coins h_chairOf h_tired h_hosted h_owed h_paid v_sitting v_taken v_served v_hidden v_round v_over v_host v_paidInAll v_lot])) (PQi dC dI cI cJ cB cZ cF cG (va_A [oX1 h_this h_hall h_coins h_chairOf h_tired h_hosted h_owed h_paid v_sitting v_taken v_served v_hidden v_round v_over v_host v_paidInAll v_lot] sz) o_r [oX1 h_this h_hall h_coins h_chairOf h_tired h_hosted h_owed h_paid v_sitting v_taken v_served v_hidden v_round v_over v_host v_paidInAll o_lot]) 0 0 (va_A [oX1 h_this h_hall h_coins h_chairOf h_tired h_hosted h_owed h_paid v_sitting v_taken v_served v_hidden v_round v_over v_host v_paidInAll v_lot] sz) := by
  refine Met.ofW (cc := cX1_draw) (maxL := 2) (ret := (some .int)) (by decide) rfl ?_
  intro p e s m args below meth c s₁ B hml hv
  obtain ⟨rfl, hsz, hP, hK, hD0⟩ := hv
  have hx := B.exec
  have hb := B.bytes
  have hr := B.returns
  have hts := atoms_spec (ws := uX1_draw) B.pre
  have hown : s.vm.findClass RX1 = some m.cls := findClass_of_methodNamed B.named
  have hlocks := B.notSynchronized
  subst hsz
  have hD := hD0.self (sz := s.heap.size)
  generalize hAe : va_A [oX1 h_this h_hall h_coins h_chairOf h_tired h_hosted h_owed h_paid v_sitting v_taken v_served v_hidden v_round v_over v_host v_paidInAll v_lot] s.heap.size = A at hD ⊢
  have hA : ∀ q : Nat, s.heap.size ≤ q → A q := fun q h => by rw [← hAe]; exact Or.inr h
  have hS : va_S A s.heap s.heap [] := va_S.rf
  have hl := lv_entry ([.ref h_this, .int x1]) (n := 2) (Nat.le_of_ble_eq_true rfl)
  rw [lg_entry_eq]
  generalize (lg_sl ([.ref h_this, .int x1]) ++ List.replicate (2 - (lg_sl ([.ref h_this, .int x1])).length) Slot.unset).toArray = ls at hl ⊢
  have hl : lv_has ls 2 [(0, .ref h_this), (1, .int x1)] := hl
  exact tX1_draw hA ⟨hx, hb, hr, hml, hown, hts, hlocks⟩ ⟨Nat.le_refl _, Nat.le_refl _⟩ h_this h_hall h_coins h_chairOf h_tired h_hosted h_owed h_paid v_sitting v_taken v_served v_hidden v_round v_over v_host v_paidInAll o_r o_lot v_lot x1 hf _ _ ⟨hK, hP, hD, hS⟩ ls hl
-- LastSeat$Feast.drawDeeds()V
def uX1_drawDeeds : List Cond := .code yX1_drawDeeds cX1_drawDeeds 3 none :: wsU
set_option maxHeartbeats 4000000 in
set_option maxRecDepth 100000 in
theorem tX1_drawDeeds_73 {p : Program} {l : Launch} {e : Env} {R : Room} {s : State} {m : MethodId} {args : Array Value} {below : List Frame} {meth : Method} {c : Code} {dC : Nat → ClassId} {dI : Nat → Nat → Nat} {cI cJ cB cZ cF cG : ClassId} {A : Nat → Prop} {k35 : Int32 → Int32 → Int32 → Int32 → Int32 → Int32 → Int32 → (Nat → Int32) → (Nat → Int32) → (Nat → Int32) → (Nat → Int32) → (Nat → Int32) → Int32 → Option (Int32 × Int32 × Int32 × Int32 × Int32 × Int32 × Int32 × (Nat → Int32) × (Nat → Int32) × (Nat → Int32) × (Nat → Int32) × (Nat → Int32))} (hA : ∀ q : Nat, s.heap.size ≤ q → A q) (C0 : Cx p s m meth c args cX1_drawDeeds 3 none RX1 uX1_drawDeeds) (hR : 3 ≤ R.frames ∧ 67 ≤ R.locals) (h_this : Nat) (h_hall : Nat) (h_hall_payer : Nat) (h_hall_cost : Nat) (h_coins : Nat) (h_chairOf : Nat) (h_tired : Nat) (h_hosted : Nat) (h_owed : Nat) (h_paid : Nat) (h_hall_guestName : Nat) (h_hall_coins : Nat) (h_hall_pride : Nat) (h_hall_speed : Nat) (h_hall_place : Nat) (h_hall_dishName : Nat) (v_hidden : Int32) (v_round : Int32) (v_hall_chairs : Int32) (v_hall_guests : Int32) (v_hall_dishes : Int32) (v_hall_payer : Nat → Int32) (v_hall_cost : Nat → Int32) (v_chairOf : Nat → Int32) (o_sitting : Int32) (o_taken : Int32) (o_served : Int32) (o_over : Int32) (o_host : Int32) (o_paidInAll : Int32) (o_lot : Int32) (o_coins : Nat → Int32) (o_tired : Nat → Int32) (o_hosted : Nat → Int32) (o_owed : Nat → Int32) (o_paid : Nat → Int32) (hk35 : ∀ (v_sitting : Int32) (v_taken : Int32) (v_served : Int32) (v_over : Int32) (v_host : Int32) (v_paidInAll : Int32) (v_lot : Int32) (v_coins : Nat → Int32) (v_tired : Nat → Int32) (v_hosted : Nat → Int32) (v_owed : Nat → Int32) (v_paid : Nat → Int32) (x1 : Int32), k35 v_sitting v_taken v_served v_over v_host v_paidInAll v_lot v_coins v_tired v_hosted v_owed v_paid x1 = some (o_sitting, o_taken, o_served, o_over, o_host, o_paidInAll, o_lot, o_coins, o_tired, o_hosted, o_owed, o_paid) → ∀ (H : Heap) (locs : List Loc), Wd dC dI cI cJ cB cZ cF cG A s H locs [oX1 h_this h_hall h_coins h_chairOf h_tired h_hosted h_owed h_paid v_sitting v_taken v_served v_hidden v_round v_over v_host v_paidInAll v_lot, oX2 h_hall h_hall_guestName h_hall_coins h_hall_pride h_hall_speed h_hall_place h_hall_payer h_hall_dishName h_hall_cost v_hall_chairs v_hall_guests v_hall_dishes, aI cI h_hall_payer 7 v_hall_payer, aI cI h_hall_cost 6 v_hall_cost, aI cI h_coins 7 v_coins, aI cI h_chairOf 7 v_chairOf, aI cI h_tired 7 v_tired, aI cI h_hosted 7 v_hosted, aI cI h_owed 7 v_owed, aI cI h_paid 7 v_paid] → ∀ (ls : Array Slot), lv_has ls 3 [(0, .ref h_this), (1, .int x1)] → W p l e R s m args below meth c H locs 0 0 (MQ below (PQv dC dI cI cJ cB cZ cF cG A [oX1 h_this h_hall h_coins h_chairOf h_tired h_hosted h_owed h_paid o_sitting o_taken o_served v_hidden v_round o_over o_host o_paidInAll o_lot, oX2 h_hall h_hall_guestName h_hall_coins h_hall_pride h_hall_speed h_hall_place h_hall_payer h_hall_dishName h_hall_cost v_hall_chairs v_hall_guests v_hall_dishes, aI cI h_hall_payer 7 v_hall_payer, aI cI h_hall_cost 6 v_hall_cost, aI cI h_coins 7 o_coins, aI cI h_chairOf 7 v_chairOf, aI cI h_tired 7 o_tired, aI cI h_hosted 7 o_hosted, aI cI h_owed 7 o_owed, aI cI h_paid 7 o_paid]) args s 0 0 A) (F0 m 35 ls [])) :
    ∀ (v_sitting : Int32) (v_taken : Int32) (v_served : Int32) (v_over : Int32) (v_host : Int32) (v_paidInAll : Int32) (v_lot : Int32) (v_coins : Nat → Int32) (v_tired : Nat → Int32) (v_hosted : Nat → Int32) (v_owed : Nat → Int32) (v_paid : Nat → Int32) (x1 : Int32) (x2 : Int32), bX1_drawDeeds_73 v_hidden v_hall_guests v_hall_dishes v_hall_payer v_hall_cost v_chairOf k35 v_sitting v_taken v_served v_over v_host v_paidInAll v_lot v_coins v_tired v_hosted v_owed v_paid x1 x2 = some (o_sitting, o_taken, o_served, o_over, o_host, o_paidInAll, o_lot, o_coins, o_tired, o_hosted, o_owed, o_paid) → ∀ (H : Heap) (locs : List Loc), Wd dC dI cI cJ cB cZ cF cG A s H locs [oX1 h_this h_hall h_coins h_chairOf h_tired h_hosted h_owed h_paid v_sitting v_taken v_served v_hidden v_round v_over v_host v_paidInAll v_lot, oX2 h_hall h_hall_guestName h_hall_coins h_hall_pride h_hall_speed h_hall_place h_hall_payer h_hall_dishName h_hall_cost v_hall_chairs v_hall_guests v_hall_dishes, aI cI h_hall_payer 7 v_hall_payer, aI cI h_hall_cost 6 v_hall_cost, aI cI h_coins 7 v_coins, aI cI h_chairOf 7 v_chairOf, aI cI h_tired 7 v_tired, aI cI h_hosted 7 v_hosted, aI cI h_owed 7 v_owed, aI cI h_paid 7 v_paid] → ∀ (ls : Array Slot), lv_has ls 3 [(0, .ref h_this), (1, .int x1), (2, .int x2)] → W p l e R s m args below meth c H locs 0 0 (MQ below (PQv dC dI cI cJ cB cZ cF cG A [oX1 h_this h_hall h_coins h_chairOf h_tired h_hosted h_owed h_paid o_sitting o_taken o_served v_hidden v_round o_over o_host o_paidInAll o_lot, oX2 h_hall h_hall_guestName h_hall_coins h_hall_pride h_hall_speed h_hall_place h_hall_payer h_hall_dishName h_hall_cost v_hall_chairs v_hall_guests v_hall_dishes, aI cI h_hall_payer 7 v_hall_payer, aI cI h_hall_cost 6 v_hall_cost, aI cI h_coins 7 o_coins, aI cI h_chairOf 7 v_chairOf, aI cI h_tired 7 o_tired, aI cI h_hosted 7 o_hosted, aI cI h_owed 7 o_owed, aI cI h_paid 7 o_paid]) args s 0 0 A) (F0 m 73 ls []) := by
  obtain ⟨hx, hb, hrt, hml, hown, hts, hlocks⟩ := id C0
  intro v_sitting v_taken v_served v_over v_host v_paidInAll v_lot v_coins v_tired v_hosted v_owed v_paid x1 x2 hr H locs hW ls hl
  obtain ⟨hK, hP, hD, hS⟩ := hW
  have hr : (if x2 = 1 then (fX1_isSeated v_sitting x1).bind (fun r_1 => if r_1 = 0 then k35 v_sitting v_taken v_served v_over v_host v_paidInAll v_lot v_coins v_tired v_hosted v_owed v_paid (x1 + 1) else (fX1_standUp v_chairOf v_sitting v_taken x1).bind (fun (u2_sitting, u2_taken) => k35 u2_sitting u2_taken v_served v_over v_host v_paidInAll v_lot v_coins v_tired v_hosted v_owed v_paid (x1 + 1))) else k35 v_sitting v_taken v_served v_over v_host v_paidInAll v_lot v_coins v_tired v_hosted v_owed v_paid (x1 + 1) : Option (Int32 × Int32 × Int32 × Int32 × Int32 × Int32 × Int32 × (Nat → Int32) × (Nat → Int32) × (Nat → Int32) × (Nat → Int32) × (Nat → Int32))) = some (o_sitting, o_taken, o_served, o_over, o_host, o_paidInAll, o_lot, o_coins, o_tired, o_hosted, o_owed, o_paid) := hr
  refine lv_iload_n hx hb dX1_drawDeeds_73 rfl (lv_at hl 2 rfl) ?_
  refine lv_iconst (v := 1) hx hb dX1_drawDeeds_74 (by decide) ?_
  refine lv_icmp_ne (tgt := 91) hx hb dX1_drawDeeds_75 (by decide) (fun hc => ?_) (fun hc => ?_)
  · have hr := iteN hc hr
    refine lv_iinc (v := (x1 + 1)) (lv' := [(1, .int (x1 + 1)), (0, .ref h_this), (2, .int x2)]) hx hb dX1_drawDeeds_91 hl (k := 1) rfl rfl (by decide) rfl (fun ls hl => ?_)
    refine lv_goto (tgt := 35) hx hb dX1_drawDeeds_94 (by decide) ?_
    exact hk35 v_sitting v_taken v_served v_over v_host v_paidInAll v_lot v_coins v_tired v_hosted v_owed v_paid (x1 + 1) hr _ _ ⟨hK, hP, hD, hS⟩ ls (lv_sub hl [1, 0] rfl)
  · have hr := iteP hc hr
    refine lv_aload_n hx hb dX1_drawDeeds_78 rfl (lv_at hl 0 rfl) ?_
    refine lv_iload_n hx hb dX1_drawDeeds_79 rfl (lv_at hl 1 rfl) ?_
    obtain ⟨r_1, ho, hr⟩ := bind_s hr
    have hPc := hP.sub (ws' := [oX1 h_this h_hall h_coins h_chairOf h_tired h_hosted h_owed h_paid v_sitting v_taken v_served v_hidden v_round v_over v_host v_paidInAll v_lot]) [0] rfl
    have hDc := hD.sub (ws' := [oX1 h_this h_hall h_coins h_chairOf h_tired h_hosted h_owed h_paid v_sitting v_taken v_served v_hidden v_round v_over v_host v_paidInAll v_lot]) [0] (by decide) rfl
    have hFc := va_free (wc := [oX1 h_this h_hall h_coins h_chairOf h_tired h_hosted h_owed h_paid v_sitting v_taken v_served v_hidden v_round v_over v_host v_paidInAll v_lot]) hD hS hA [0] rfl
    refine va_calli (va_runV (As := [.int x1]) (rest := []) ⟨hx, hb, hml, hown, hts⟩ (mX1_isSeated l dC dI cI cJ cB cZ cF cG h_this h_hall h_coins h_chairOf h_tired h_hosted h_owed h_paid H.size v_sitting v_taken v_served v_hidden v_round v_over v_host v_paidInAll v_lot x1 r_1 ho) (cwV 1 hts (goodV U_627 U_590 U_591 U_27 U_592) rfl rfl rfl (by decide +kernel) ⟨Nat.le_trans (by decide) hR.1, Nat.le_trans (Nat.le_of_ble_eq_true rfl) hR.2⟩) ⟨fun a U g mk q => by obtain ⟨q0, q1, qP, qK, qD⟩ := q; exact ⟨q0, q1, qP, va_K.moved (u := U) (U := U.calling g mk a) (Vm.Alike.refl U.vm) qK, qD⟩, va_recv hK hPc (ci := 1) (q0 := 0) rfl rfl, fun U hU hW => ⟨rfl, by rw [hU], by rw [hU]; exact hPc, va_K.moved hW.alike hK, hDc.weaken (fun _ _ _ _ => trivial)⟩⟩ rfl rfl hl.1 rfl (lv_room (Nat.le_of_ble_eq_true rfl)) dX1_drawDeeds_80 ⟨Nat.zero_le _, Nat.zero_le _⟩) hS (fun q _ h => hFc q h) hFc (fun rz u t H1 locs ht hvm hw hB hz1 hk1 hS => ?_)
    obtain ⟨hP1, hK1, hD1⟩ := hB
    obtain ⟨hw, hz_1⟩ := hw
    have hw := hw.symm; subst hw
    rw [ht] at hP1
    obtain ⟨hP, hD⟩ := va_join (wr := [oX2 h_hall h_hall_guestName h_hall_coins h_hall_pride h_hall_speed h_hall_place h_hall_payer h_hall_dishName h_hall_cost v_hall_chairs v_hall_guests v_hall_dishes, aI cI h_hall_payer 7 v_hall_payer, aI cI h_hall_cost 6 v_hall_cost, aI cI h_coins 7 v_coins, aI cI h_chairOf 7 v_chairOf, aI cI h_tired 7 v_tired, aI cI h_hosted 7 v_hosted, aI cI h_owed 7 v_owed, aI cI h_paid 7 v_paid]) (w1 := [oX1 h_this h_hall h_coins h_chairOf h_tired h_hosted h_owed h_paid v_sitting v_taken v_served v_hidden v_round v_over v_host v_paidInAll v_lot]) hP hD [0] [1, 2, 3, 4, 5, 6, 7, 8, 9] rfl rfl (by decide) (by decide) hk1 hFc hP1 hD1
    generalize H1 = H at hP hS ⊢
    have hP := hP.sub (ws' := [oX1 h_this h_hall h_coins h_chairOf h_tired h_hosted h_owed h_paid v_sitting v_taken v_served v_hidden v_round v_over v_host v_paidInAll v_lot, oX2 h_hall h_hall_guestName h_hall_coins h_hall_pride h_hall_speed h_hall_place h_hall_payer h_hall_dishName h_hall_cost v_hall_chairs v_hall_guests v_hall_dishes, aI cI h_hall_payer 7 v_hall_payer, aI cI h_hall_cost 6 v_hall_cost, aI cI h_coins 7 v_coins, aI cI h_chairOf 7 v_chairOf, aI cI h_tired 7 v_tired, aI cI h_hosted 7 v_hosted, aI cI h_owed 7 v_owed, aI cI h_paid 7 v_paid]) [9, 0, 1, 2, 3, 4, 5, 6, 7, 8] rfl
    have hD := hD.sub (ws' := [oX1 h_this h_hall h_coins h_chairOf h_tired h_hosted h_owed h_paid v_sitting v_taken v_served v_hidden v_round v_over v_host v_paidInAll v_lot, oX2 h_hall h_hall_guestName h_hall_coins h_hall_pride h_hall_speed h_hall_place h_hall_payer h_hall_dishName h_hall_cost v_hall_chairs v_hall_guests v_hall_dishes, aI cI h_hall_payer 7 v_hall_payer, aI cI h_hall_cost 6 v_hall_cost, aI cI h_coins 7 v_coins, aI cI h_chairOf 7 v_chairOf, aI cI h_tired 7 v_tired, aI cI h_hosted 7 v_hosted, aI cI h_owed 7 v_owed, aI cI h_paid 7 v_paid]) [9, 0, 1, 2, 3, 4, 5, 6, 7, 8] (by decide) rfl
    refine lv_if_eq (tgt := 91) hx hb dX1_drawDeeds_83 (by decide) (fun hc => ?_) (fun hc => ?_)
    · have hr := iteP hc hr
      refine lv_iinc (v := (x1 + 1)) (lv' := [(1, .int (x1 + 1)), (0, .ref h_this), (2, .int x2)]) hx hb dX1_drawDeeds_91 hl (k := 1) rfl rfl (by decide) rfl (fun ls hl => ?_)
      refine lv_goto (tgt := 35) hx hb dX1_drawDeeds_94 (by decide) ?_
      exact hk35 v_sitting v_taken v_served v_over v_host v_paidInAll v_lot v_coins v_tired v_hosted v_owed v_paid (x1 + 1) hr _ _ ⟨hK, hP, hD, hS⟩ ls (lv_sub hl [1, 0] rfl)
    · have hr := iteN hc hr
      refine lv_aload_n hx hb dX1_drawDeeds_86 rfl (lv_at hl 0 rfl) ?_
      refine lv_iload_n hx hb dX1_drawDeeds_87 rfl (lv_at hl 1 rfl) ?_
      obtain ⟨⟨u2_sitting, u2_taken⟩, ho, hr⟩ := bind_s hr
      dsimp only at hr
      have hPc := hP.sub (ws' := [oX1 h_this h_hall h_coins h_chairOf h_tired h_hosted h_owed h_paid v_sitting v_taken v_served v_hidden v_round v_over v_host v_paidInAll v_lot, aI cI h_chairOf 7 v_chairOf]) [0, 5] rfl
      have hDc := hD.sub (ws' := [oX1 h_this h_hall h_coins h_chairOf h_tired h_hosted h_owed h_paid v_sitting v_taken v_served v_hidden v_round v_over v_host v_paidInAll v_lot, aI cI h_chairOf 7 v_chairOf]) [0, 5] (by decide) rfl
      have hFc := va_free (wc := [oX1 h_this h_hall h_coins h_chairOf h_tired h_hosted h_owed h_paid v_sitting v_taken v_served v_hidden v_round v_over v_host v_paidInAll v_lot, aI cI h_chairOf 7 v_chairOf]) hD hS hA [0, 5] rfl
      refine va_callv (va_runV (As := [.int x1]) (rest := []) ⟨hx, hb, hml, hown, hts⟩ (mX1_standUp l dC dI cI cJ cB cZ cF cG h_this h_chairOf h_hall h_coins h_tired h_hosted h_owed h_paid H.size v_sitting v_taken v_served v_hidden v_round v_over v_host v_paidInAll v_lot v_chairOf x1 u2_sitting u2_taken ho) (cwV 1 hts (goodV U_1213 U_751 U_752 U_27 U_753) rfl rfl rfl (by decide +kernel) ⟨Nat.le_trans (by decide) hR.1, Nat.le_trans (Nat.le_of_ble_eq_true rfl) hR.2⟩) ⟨fun a U g mk q => by obtain ⟨q0, q1, qP, qK, qD⟩ := q; exact ⟨q0, q1, qP, va_K.moved (u := U) (U := U.calling g mk a) (Vm.Alike.refl U.vm) qK, qD⟩, va_recv hK hPc (ci := 1) (q0 := 0) rfl rfl, fun U hU hW => ⟨rfl, by rw [hU], by rw [hU]; exact hPc, va_K.moved hW.alike hK, hDc.weaken (fun _ _ _ _ => trivial)⟩⟩ rfl rfl hl.1 rfl (lv_room (Nat.le_of_ble_eq_true rfl)) dX1_drawDeeds_88 ⟨Nat.zero_le _, Nat.zero_le _⟩) hS (fun q _ h => hFc q h) hFc (fun u t H1 locs ht hvm hw hB hz1 hk1 hS => ?_)
      obtain ⟨hP1, hK1, hD1⟩ := hB
      rw [ht] at hP1
      obtain ⟨hP, hD⟩ := va_join (wr := [oX2 h_hall h_hall_guestName h_hall_coins h_hall_pride h_hall_speed h_hall_place h_hall_payer h_hall_dishName h_hall_cost v_hall_chairs v_hall_guests v_hall_dishes, aI cI h_hall_payer 7 v_hall_payer, aI cI h_hall_cost 6 v_hall_cost, aI cI h_coins 7 v_coins, aI cI h_tired 7 v_tired, aI cI h_hosted 7 v_hosted, aI cI h_owed 7 v_owed, aI cI h_paid 7 v_paid]) (w1 := [oX1 h_this h_hall h_coins h_chairOf h_tired h_hosted h_owed h_paid u2_sitting u2_taken v_served v_hidden v_round v_over v_host v_paidInAll v_lot, aI cI h_chairOf 7 v_chairOf]) hP hD [0, 5] [1, 2, 3, 4, 6, 7, 8, 9] rfl rfl (by decide) (by decide) hk1 hFc hP1 hD1
      generalize H1 = H at hP hS ⊢
      have hP := hP.sub (ws' := [oX1 h_this h_hall h_coins h_chairOf h_tired h_hosted h_owed h_paid u2_sitting u2_taken v_served v_hidden v_round v_over v_host v_paidInAll v_lot, oX2 h_hall h_hall_guestName h_hall_coins h_hall_pride h_hall_speed h_hall_place h_hall_payer h_hall_dishName h_hall_cost v_hall_chairs v_hall_guests v_hall_dishes, aI cI h_hall_payer 7 v_hall_payer, aI cI h_hall_cost 6 v_hall_cost, aI cI h_coins 7 v_coins, aI cI h_chairOf 7 v_chairOf, aI cI h_tired 7 v_tired, aI cI h_hosted 7 v_hosted, aI cI h_owed 7 v_owed, aI cI h_paid 7 v_paid]) [8, 0, 1, 2, 3, 9, 4, 5, 6, 7] rfl
      have hD := hD.sub (ws' := [oX1 h_this h_hall h_coins h_chairOf h_tired h_hosted h_owed h_paid u2_sitting u2_taken v_served v_hidden v_round v_over v_host v_paidInAll v_lot, oX2 h_hall h_hall_guestName h_hall_coins h_hall_pride h_hall_speed h_hall_place h_hall_payer h_hall_dishName h_hall_cost v_hall_chairs v_hall_guests v_hall_dishes, aI cI h_hall_payer 7 v_hall_payer, aI cI h_hall_cost 6 v_hall_cost, aI cI h_coins 7 v_coins, aI cI h_chairOf 7 v_chairOf, aI cI h_tired 7 v_tired, aI cI h_hosted 7 v_hosted, aI cI h_owed 7 v_owed, aI cI h_paid 7 v_paid]) [8, 0, 1, 2, 3, 9, 4, 5, 6, 7] (by decide) rfl
      refine lv_iinc (v := (x1 + 1)) (lv' := [(1, .int (x1 + 1)), (0, .ref h_this), (2, .int x2)]) hx hb dX1_drawDeeds_91 hl (k := 1) rfl rfl (by decide) rfl (fun ls hl => ?_)
      refine lv_goto (tgt := 35) hx hb dX1_drawDeeds_94 (by decide) ?_
      exact hk35 u2_sitting u2_taken v_served v_over v_host v_paidInAll v_lot v_coins v_tired v_hosted v_owed v_paid (x1 + 1) hr _ _ ⟨hK, hP, hD, hS⟩ ls (lv_sub hl [1, 0] rfl)
set_option maxHeartbeats 4000000 in
set_option maxRecDepth 100000 in
theorem tX1_drawDeeds_35 {p : Program} {l : Launch} {e : Env} {R : Room} {s : State} {m : MethodId} {args : Array Value} {below : List Frame} {meth : Method} {c : Code} {dC : Nat → ClassId} {dI : Nat → Nat → Nat} {cI cJ cB cZ cF cG : ClassId} {A : Nat → Prop} (hA : ∀ q : Nat, s.heap.size ≤ q → A q) (C0 : Cx p s m meth c args cX1_drawDeeds 3 none RX1 uX1_drawDeeds) (hR : 3 ≤ R.frames ∧ 67 ≤ R.locals) (h_this : Nat) (h_hall : Nat) (h_hall_payer : Nat) (h_hall_cost : Nat) (h_coins : Nat) (h_chairOf : Nat) (h_tired : Nat) (h_hosted : Nat) (h_owed : Nat) (h_paid : Nat) (h_hall_guestName : Nat) (h_hall_coins : Nat) (h_hall_pride : Nat) (h_hall_speed : Nat) (h_hall_place : Nat) (h_hall_dishName : Nat) (v_hidden : Int32) (v_round : Int32) (v_hall_chairs : Int32) (v_hall_guests : Int32) (v_hall_dishes : Int32) (v_hall_payer : Nat → Int32) (v_hall_cost : Nat → Int32) (v_chairOf : Nat → Int32) (o_sitting : Int32) (o_taken : Int32) (o_served : Int32) (o_over : Int32) (o_host : Int32) (o_paidInAll : Int32) (o_lot : Int32) (o_coins : Nat → Int32) (o_tired : Nat → Int32) (o_hosted : Nat → Int32) (o_owed : Nat → Int32) (o_paid : Nat → Int32) :
    ∀ n : Nat, ∀ (v_sitting : Int32) (v_taken : Int32) (v_served : Int32) (v_over : Int32) (v_host : Int32) (v_paidInAll : Int32) (v_lot : Int32) (v_coins : Nat → Int32) (v_tired : Nat → Int32) (v_hosted : Nat → Int32) (v_owed : Nat → Int32) (v_paid : Nat → Int32) (x1 : Int32), lX1_drawDeeds_35 v_hidden v_hall_guests v_hall_dishes v_hall_payer v_hall_cost v_chairOf n v_sitting v_taken v_served v_over v_host v_paidInAll v_lot v_coins v_tired v_hosted v_owed v_paid x1 = some (o_sitting, o_taken, o_served, o_over, o_host, o_paidInAll, o_lot, o_coins, o_tired, o_hosted, o_owed, o_paid) → ∀ (H : Heap) (locs : List Loc), Wd dC dI cI cJ cB cZ cF cG A s H locs [oX1 h_this h_hall h_coins h_chairOf h_tired h_hosted h_owed h_paid v_sitting v_taken v_served v_hidden v_round v_over v_host v_paidInAll v_lot, oX2 h_hall h_hall_guestName h_hall_coins h_hall_pride h_hall_speed h_hall_place h_hall_payer h_hall_dishName h_hall_cost v_hall_chairs v_hall_guests v_hall_dishes, aI cI h_hall_payer 7 v_hall_payer, aI cI h_hall_cost 6 v_hall_cost, aI cI h_coins 7 v_coins, aI cI h_chairOf 7 v_chairOf, aI cI h_tired 7 v_tired, aI cI h_hosted 7 v_hosted, aI cI h_owed 7 v_owed, aI cI h_paid 7 v_paid] → ∀ (ls : Array Slot), lv_has ls 3 [(0, .ref h_this), (1, .int x1)] → W p l e R s m args below meth c H locs 0 0 (MQ below (PQv dC dI cI cJ cB cZ cF cG A [oX1 h_this h_hall h_coins h_chairOf h_tired h_hosted h_owed h_paid o_sitting o_taken o_served v_hidden v_round o_over o_host o_paidInAll o_lot, oX2 h_hall h_hall_guestName h_hall_coins h_hall_pride h_hall_speed h_hall_place h_hall_payer h_hall_dishName h_hall_cost v_hall_chairs v_hall_guests v_hall_dishes, aI cI h_hall_payer 7 v_hall_payer, aI cI h_hall_cost 6 v_hall_cost, aI cI h_coins 7 o_coins, aI cI h_chairOf 7 v_chairOf, aI cI h_tired 7 o_tired, aI cI h_hosted 7 o_hosted, aI cI h_owed 7 o_owed, aI cI h_paid 7 o_paid]) args s 0 0 A) (F0 m 35 ls []) := by
  obtain ⟨hx, hb, hrt, hml, hown, hts, hlocks⟩ := id C0
  intro n
  induction n with
  | zero =>
    intro v_sitting v_taken v_served v_over v_host v_paidInAll v_lot v_coins v_tired v_hosted v_owed v_paid x1 hr
    exact nomatch (show (none : Option (Int32 × Int32 × Int32 × Int32 × Int32 × Int32 × Int32 × (Nat → Int32) × (Nat → Int32) × (Nat → Int32) × (Nat → Int32) × (Nat → Int32))) = some _ from hr)
  | succ n ih =>
    intro v_sitting v_taken v_served v_over v_host v_paidInAll v_lot v_coins v_tired v_hosted v_owed v_paid x1 hr H locs hW ls hl
    obtain ⟨hK, hP, hD, hS⟩ := hW
    have hr : (if v_hall_guests ≤ x1 then some (v_sitting, v_taken, v_served, v_over, v_host, v_paidInAll, v_lot, v_coins, v_tired, v_hosted, v_owed, v_paid) else (fX1_draw v_lot 8).bind (fun (r_3, u3_lot) => if r_3 = 0 then (fX1_whyNotSit v_sitting v_taken v_hidden v_chairOf x1).bind (fun r_4 => if r_4 = 0 then (fX1_sitDown v_hall_guests v_hall_dishes v_hall_payer v_hall_cost v_chairOf v_sitting v_taken v_served v_over v_host v_paidInAll v_coins v_tired v_hosted v_owed v_paid x1).bind (fun (u5_sitting, u5_taken, u5_served, u5_over, u5_host, u5_paidInAll, u5_coins, u5_tired, u5_hosted, u5_owed, u5_paid) => lX1_drawDeeds_35 v_hidden v_hall_guests v_hall_dishes v_hall_payer v_hall_cost v_chairOf n u5_sitting u5_taken u5_served u5_over u5_host u5_paidInAll u3_lot u5_coins u5_tired u5_hosted u5_owed u5_paid (x1 + 1)) else bX1_drawDeeds_73 v_hidden v_hall_guests v_hall_dishes v_hall_payer v_hall_cost v_chairOf (lX1_drawDeeds_35 v_hidden v_hall_guests v_hall_dishes v_hall_payer v_hall_cost v_chairOf n) v_sitting v_taken v_served v_over v_host v_paidInAll u3_lot v_coins v_tired v_hosted v_owed v_paid x1 r_3) else bX1_drawDeeds_73 v_hidden v_hall_guests v_hall_dishes v_hall_payer v_hall_cost v_chairOf (lX1_drawDeeds_35 v_hidden v_hall_guests v_hall_dishes v_hall_payer v_hall_cost v_chairOf n) v_sitting v_taken v_served v_over v_host v_paidInAll u3_lot v_coins v_tired v_hosted v_owed v_paid x1 r_3) : Option (Int32 × Int32 × Int32 × Int32 × Int32 × Int32 × Int32 × (Nat → Int32) × (Nat → Int32) × (Nat → Int32) × (Nat → Int32) × (Nat → Int32))) = some (o_sitting, o_taken, o_served, o_over, o_host, o_paidInAll, o_lot, o_coins, o_tired, o_hosted, o_owed, o_paid) := hr
    refine lv_iload_n hx hb dX1_drawDeeds_35 rfl (lv_at hl 1 rfl) ?_
    refine lv_aload_n hx hb dX1_drawDeeds_36 rfl (lv_at hl 0 rfl) ?_
    refine va_get (D := (dC, dI)) (ci := 1) (v := .ref h_hall) (C := RX1) (T := TX1) (N := 16) hx hb hts (fun w h => List.mem_cons_of_mem _ (inU_1 w h)) hown hK hP 0 rfl rfl 0 (by decide) (hts _ (List.mem_cons_of_mem _ U_143)) (fun _ h9 => h9) rfl dX1_drawDeeds_37 ?_
    refine va_get (D := (dC, dI)) (ci := 2) (v := .int v_hall_guests) (C := RX2) (T := TX2) (N := 11) hx hb hts (fun w h => List.mem_cons_of_mem _ (inU_2 w h)) hown hK hP 1 rfl rfl 9 (by decide) (hts _ (List.mem_cons_of_mem _ U_626)) (fun _ h9 => h9) rfl dX1_drawDeeds_40 ?_
    refine lv_icmp_ge (tgt := 97) hx hb dX1_drawDeeds_43 (by decide) (fun hc => ?_) (fun hc => ?_)
    · have hr := iteP hc hr
      have q0 := Option.some.inj hr
      obtain ⟨e0, q1⟩ := Prod.mk.inj q0
      obtain ⟨e1, q2⟩ := Prod.mk.inj q1
      obtain ⟨e2, q3⟩ := Prod.mk.inj q2
      obtain ⟨e3, q4⟩ := Prod.mk.inj q3
      obtain ⟨e4, q5⟩ := Prod.mk.inj q4
      obtain ⟨e5, q6⟩ := Prod.mk.inj q5
      obtain ⟨e6, q7⟩ := Prod.mk.inj q6
      obtain ⟨e7, q8⟩ := Prod.mk.inj q7
      obtain ⟨e8, q9⟩ := Prod.mk.inj q8
      obtain ⟨e9, q10⟩ := Prod.mk.inj q9
      obtain ⟨e10, q11⟩ := Prod.mk.inj q10
      subst e0; subst e1; subst e2; subst e3; subst e4; subst e5; subst e6; subst e7; subst e8; subst e9; subst e10; subst q11
      exact W.vret hx hb hrt (fun t ht hW => ⟨⟨(), rfl, trivial, by rw [ht]; exact hP, va_K.moved hW.alike hK, hD⟩, hS.F ht⟩) hS.2.2 dX1_drawDeeds_97 hlocks
    · have hr := iteN hc hr
      refine lv_aload_n hx hb dX1_drawDeeds_46 rfl (lv_at hl 0 rfl) ?_
      refine lv_bipush (v := 8) hx hb dX1_drawDeeds_47 (by decide) ?_
      obtain ⟨⟨r_3, u3_lot⟩, ho, hr⟩ := bind_s hr
      dsimp only at hr
      have hPc := hP.sub (ws' := [oX1 h_this h_hall h_coins h_chairOf h_tired h_hosted h_owed h_paid v_sitting v_taken v_served v_hidden v_round v_over v_host v_paidInAll v_lot]) [0] rfl
      have hDc := hD.sub (ws' := [oX1 h_this h_hall h_coins h_chairOf h_tired h_hosted h_owed h_paid v_sitting v_taken v_served v_hidden v_round v_over v_host v_paidInAll v_lot]) [0] (by decide) rfl
      have hFc := va_free (wc := [oX1 h_this h_hall h_coins h_chairOf h_tired h_hosted h_owed h_paid v_sitting v_taken v_served v_hidden v_round v_over v_host v_paidInAll v_lot]) hD hS hA [0] rfl
      refine va_calli (va_runV (As := [.int 8]) (rest := []) ⟨hx, hb, hml, hown, hts⟩ (mX1_draw l dC dI cI cJ cB cZ cF cG h_this h_hall h_coins h_chairOf h_tired h_hosted h_owed h_paid H.size v_sitting v_taken v_served v_hidden v_round v_over v_host v_paidInAll v_lot 8 r_3 u3_lot ho) (cwV 1 hts (goodV U_1207 U_1208 U_1209 U_27 U_1210) rfl rfl rfl (by decide +kernel) ⟨Nat.le_trans (by decide) hR.1, Nat.le_trans (Nat.le_of_ble_eq_true rfl) hR.2⟩) ⟨fun a U g mk q => by obtain ⟨q0, q1, qP, qK, qD⟩ := q; exact ⟨q0, q1, qP, va_K.moved (u := U) (U := U.calling g mk a) (Vm.Alike.refl U.vm) qK, qD⟩, va_recv hK hPc (ci := 1) (q0 := 0) rfl rfl, fun U hU hW => ⟨rfl, by rw [hU], by rw [hU]; exact hPc, va_K.moved hW.alike hK, hDc.weaken (fun _ _ _ _ => trivial)⟩⟩ rfl rfl hl.1 rfl (lv_room (Nat.le_of_ble_eq_true rfl)) dX1_drawDeeds_49 ⟨Nat.zero_le _, Nat.zero_le _⟩) hS (fun q _ h => hFc q h) hFc (fun rz u t H1 locs ht hvm hw hB hz1 hk1 hS => ?_)
      obtain ⟨hP1, hK1, hD1⟩ := hB
      have hw := hw.symm; subst hw
      rw [ht] at hP1
      obtain ⟨hP, hD⟩ := va_join (wr := [oX2 h_hall h_hall_guestName h_hall_coins h_hall_pride h_hall_speed h_hall_place h_hall_payer h_hall_dishName h_hall_cost v_hall_chairs v_hall_guests v_hall_dishes, aI cI h_hall_payer 7 v_hall_payer, aI cI h_hall_cost 6 v_hall_cost, aI cI h_coins 7 v_coins, aI cI h_chairOf 7 v_chairOf, aI cI h_tired 7 v_tired, aI cI h_hosted 7 v_hosted, aI cI h_owed 7 v_owed, aI cI h_paid 7 v_paid]) (w1 := [oX1 h_this h_hall h_coins h_chairOf h_tired h_hosted h_owed h_paid v_sitting v_taken v_served v_hidden v_round v_over v_host v_paidInAll u3_lot]) hP hD [0] [1, 2, 3, 4, 5, 6, 7, 8, 9] rfl rfl (by decide) (by decide) hk1 hFc hP1 hD1
      generalize H1 = H at hP hS ⊢
      have hP := hP.sub (ws' := [oX1 h_this h_hall h_coins h_chairOf h_tired h_hosted h_owed h_paid v_sitting v_taken v_served v_hidden v_round v_over v_host v_paidInAll u3_lot, oX2 h_hall h_hall_guestName h_hall_coins h_hall_pride h_hall_speed h_hall_place h_hall_payer h_hall_dishName h_hall_cost v_hall_chairs v_hall_guests v_hall_dishes, aI cI h_hall_payer 7 v_hall_payer, aI cI h_hall_cost 6 v_hall_cost, aI cI h_coins 7 v_coins, aI cI h_chairOf 7 v_chairOf, aI cI h_tired 7 v_tired, aI cI h_hosted 7 v_hosted, aI cI h_owed 7 v_owed, aI cI h_paid 7 v_paid]) [9, 0, 1, 2, 3, 4, 5, 6, 7, 8] rfl
      have hD := hD.sub (ws' := [oX1 h_this h_hall h_coins h_chairOf h_tired h_hosted h_owed h_paid v_sitting v_taken v_served v_hidden v_round v_over v_host v_paidInAll u3_lot, oX2 h_hall h_hall_guestName h_hall_coins h_hall_pride h_hall_speed h_hall_place h_hall_payer h_hall_dishName h_hall_cost v_hall_chairs v_hall_guests v_hall_dishes, aI cI h_hall_payer 7 v_hall_payer, aI cI h_hall_cost 6 v_hall_cost, aI cI h_coins 7 v_coins, aI cI h_chairOf 7 v_chairOf, aI cI h_tired 7 v_tired, aI cI h_hosted 7 v_hosted, aI cI h_owed 7 v_owed, aI cI h_paid 7 v_paid]) [9, 0, 1, 2, 3, 4, 5, 6, 7, 8] (by decide) rfl
      refine lv_istore_n (lv' := [(2, .int r_3), (0, .ref h_this), (1, .int x1)]) hx hb dX1_drawDeeds_52 rfl hl (by decide) rfl (fun ls hl => ?_)
      refine lv_iload_n hx hb dX1_drawDeeds_53 rfl (lv_at hl 0 rfl) ?_
      refine z_pc (pc' := 54) rfl ?_
      refine lv_if_ne (tgt := 73) hx hb dX1_drawDeeds_54 (by decide) (fun hc => ?_) (fun hc => ?_)
      · have hr := iteN hc hr
        exact tX1_drawDeeds_73 hA C0 hR h_this h_hall h_hall_payer h_hall_cost h_coins h_chairOf h_tired h_hosted h_owed h_paid h_hall_guestName h_hall_coins h_hall_pride h_hall_speed h_hall_place h_hall_dishName v_hidden v_round v_hall_chairs v_hall_guests v_hall_dishes v_hall_payer v_hall_cost v_chairOf o_sitting o_taken o_served o_over o_host o_paidInAll o_lot o_coins o_tired o_hosted o_owed o_paid ih v_sitting v_taken v_served v_over v_host v_paidInAll u3_lot v_coins v_tired v_hosted v_owed v_paid x1 r_3 hr _ _ ⟨hK, hP, hD, hS⟩ ls (lv_sub hl [1, 2, 0] rfl)
      · have hr := iteP hc hr
        refine lv_aload_n hx hb dX1_drawDeeds_57 rfl (lv_at hl 1 rfl) ?_
        refine lv_iload_n hx hb dX1_drawDeeds_58 rfl (lv_at hl 2 rfl) ?_
        obtain ⟨r_4, ho, hr⟩ := bind_s hr
        have hPc := hP.sub (ws' := [oX1 h_this h_hall h_coins h_chairOf h_tired h_hosted h_owed h_paid v_sitting v_taken v_served v_hidden v_round v_over v_host v_paidInAll u3_lot, aI cI h_chairOf 7 v_chairOf]) [0, 5] rfl
        have hDc := hD.sub (ws' := [oX1 h_this h_hall h_coins h_chairOf h_tired h_hosted h_owed h_paid v_sitting v_taken v_served v_hidden v_round v_over v_host v_paidInAll u3_lot, aI cI h_chairOf 7 v_chairOf]) [0, 5] (by decide) rfl
        have hFc := va_free (wc := [oX1 h_this h_hall h_coins h_chairOf h_tired h_hosted h_owed h_paid v_sitting v_taken v_served v_hidden v_round v_over v_host v_paidInAll u3_lot, aI cI h_chairOf 7 v_chairOf]) hD hS hA [0, 5] rfl
        refine va_calli (va_runV (As := [.int x1]) (rest := []) ⟨hx, hb, hml, hown, hts⟩ (mX1_whyNotSit l dC dI cI cJ cB cZ cF cG h_this h_chairOf h_hall h_coins h_tired h_hosted h_owed h_paid H.size v_sitting v_taken v_served v_hidden v_round v_over v_host v_paidInAll u3_lot v_chairOf x1 r_4 ho) (cwV 1 hts (goodV U_837 U_682 U_683 U_27 U_684) rfl rfl rfl (by decide +kernel) ⟨Nat.le_trans (by decide) hR.1, Nat.le_trans (Nat.le_of_ble_eq_true rfl) hR.2⟩) ⟨fun a U g mk q => by obtain ⟨q0, q1, qP, qK, qD⟩ := q; exact ⟨q0, q1, qP, va_K.moved (u := U) (U := U.calling g mk a) (Vm.Alike.refl U.vm) qK, qD⟩, va_recv hK hPc (ci := 1) (q0 := 0) rfl rfl, fun U hU hW => ⟨rfl, by rw [hU], by rw [hU]; exact hPc, va_K.moved hW.alike hK, hDc.weaken (fun _ _ _ _ => trivial)⟩⟩ rfl rfl hl.1 rfl (lv_room (Nat.le_of_ble_eq_true rfl)) dX1_drawDeeds_59 ⟨Nat.zero_le _, Nat.zero_le _⟩) hS (fun q _ h => hFc q h) hFc (fun rz u t H1 locs ht hvm hw hB hz1 hk1 hS => ?_)
        obtain ⟨hP1, hK1, hD1⟩ := hB
        have hw := hw.symm; subst hw
        rw [ht] at hP1
        obtain ⟨hP, hD⟩ := va_join (wr := [oX2 h_hall h_hall_guestName h_hall_coins h_hall_pride h_hall_speed h_hall_place h_hall_payer h_hall_dishName h_hall_cost v_hall_chairs v_hall_guests v_hall_dishes, aI cI h_hall_payer 7 v_hall_payer, aI cI h_hall_cost 6 v_hall_cost, aI cI h_coins 7 v_coins, aI cI h_tired 7 v_tired, aI cI h_hosted 7 v_hosted, aI cI h_owed 7 v_owed, aI cI h_paid 7 v_paid]) (w1 := [oX1 h_this h_hall h_coins h_chairOf h_tired h_hosted h_owed h_paid v_sitting v_taken v_served v_hidden v_round v_over v_host v_paidInAll u3_lot, aI cI h_chairOf 7 v_chairOf]) hP hD [0, 5] [1, 2, 3, 4, 6, 7, 8, 9] rfl rfl (by decide) (by decide) hk1 hFc hP1 hD1
        generalize H1 = H at hP hS ⊢
        have hP := hP.sub (ws' := [oX1 h_this h_hall h_coins h_chairOf h_tired h_hosted h_owed h_paid v_sitting v_taken v_served v_hidden v_round v_over v_host v_paidInAll u3_lot, oX2 h_hall h_hall_guestName h_hall_coins h_hall_pride h_hall_speed h_hall_place h_hall_payer h_hall_dishName h_hall_cost v_hall_chairs v_hall_guests v_hall_dishes, aI cI h_hall_payer 7 v_hall_payer, aI cI h_hall_cost 6 v_hall_cost, aI cI h_coins 7 v_coins, aI cI h_chairOf 7 v_chairOf, aI cI h_tired 7 v_tired, aI cI h_hosted 7 v_hosted, aI cI h_owed 7 v_owed, aI cI h_paid 7 v_paid]) [8, 0, 1, 2, 3, 9, 4, 5, 6, 7] rfl
        have hD := hD.sub (ws' := [oX1 h_this h_hall h_coins h_chairOf h_tired h_hosted h_owed h_paid v_sitting v_taken v_served v_hidden v_round v_over v_host v_paidInAll u3_lot, oX2 h_hall h_hall_guestName h_hall_coins h_hall_pride h_hall_speed h_hall_place h_hall_payer h_hall_dishName h_hall_cost v_hall_chairs v_hall_guests v_hall_dishes, aI cI h_hall_payer 7 v_hall_payer, aI cI h_hall_cost 6 v_hall_cost, aI cI h_coins 7 v_coins, aI cI h_chairOf 7 v_chairOf, aI cI h_tired 7 v_tired, aI cI h_hosted 7 v_hosted, aI cI h_owed 7 v_owed, aI cI h_paid 7 v_paid]) [8, 0, 1, 2, 3, 9, 4, 5, 6, 7] (by decide) rfl
        refine lv_if_ne (tgt := 73) hx hb dX1_drawDeeds_62 (by decide) (fun hc => ?_) (fun hc => ?_)
        · have hr := iteN hc hr
          exact tX1_drawDeeds_73 hA C0 hR h_this h_hall h_hall_payer h_hall_cost h_coins h_chairOf h_tired h_hosted h_owed h_paid h_hall_guestName h_hall_coins h_hall_pride h_hall_speed h_hall_place h_hall_dishName v_hidden v_round v_hall_chairs v_hall_guests v_hall_dishes v_hall_payer v_hall_cost v_chairOf o_sitting o_taken o_served o_over o_host o_paidInAll o_lot o_coins o_tired o_hosted o_owed o_paid ih v_sitting v_taken v_served v_over v_host v_paidInAll u3_lot v_coins v_tired v_hosted v_owed v_paid x1 r_3 hr _ _ ⟨hK, hP, hD, hS⟩ ls (lv_sub hl [1, 2, 0] rfl)
        · have hr := iteP hc hr
          refine lv_aload_n hx hb dX1_drawDeeds_65 rfl (lv_at hl 1 rfl) ?_
          refine lv_iload_n hx hb dX1_drawDeeds_66 rfl (lv_at hl 2 rfl) ?_
          obtain ⟨⟨u5_sitting, u5_taken, u5_served, u5_over, u5_host, u5_paidInAll, u5_coins, u5_tired, u5_hosted, u5_owed, u5_paid⟩, ho, hr⟩ := bind_s hr
          dsimp only at hr
          have hPc := hP.sub (ws' := [oX1 h_this h_hall h_coins h_chairOf h_tired h_hosted h_owed h_paid v_sitting v_taken v_served v_hidden v_round v_over v_host v_paidInAll u3_lot, oX2 h_hall h_hall_guestName h_hall_coins h_hall_pride h_hall_speed h_hall_place h_hall_payer h_hall_dishName h_hall_cost v_hall_chairs v_hall_guests v_hall_dishes, aI cI h_hall_payer 7 v_hall_payer, aI cI h_hall_cost 6 v_hall_cost, aI cI h_coins 7 v_coins, aI cI h_chairOf 7 v_chairOf, aI cI h_tired 7 v_tired, aI cI h_hosted 7 v_hosted, aI cI h_owed 7 v_owed, aI cI h_paid 7 v_paid]) [0, 1, 2, 3, 4, 5, 6, 7, 8, 9] rfl
          have hDc := hD.sub (ws' := [oX1 h_this h_hall h_coins h_chairOf h_tired h_hosted h_owed h_paid v_sitting v_taken v_served v_hidden v_round v_over v_host v_paidInAll u3_lot, oX2 h_hall h_hall_guestName h_hall_coins h_hall_pride h_hall_speed h_hall_place h_hall_payer h_hall_dishName h_hall_cost v_hall_chairs v_hall_guests v_hall_dishes, aI cI h_hall_payer 7 v_hall_payer, aI cI h_hall_cost 6 v_hall_cost, aI cI h_coins 7 v_coins, aI cI h_chairOf 7 v_chairOf, aI cI h_tired 7 v_tired, aI cI h_hosted 7 v_hosted, aI cI h_owed 7 v_owed, aI cI h_paid 7 v_paid]) [0, 1, 2, 3, 4, 5, 6, 7, 8, 9] (by decide) rfl
          have hFc := va_free (wc := [oX1 h_this h_hall h_coins h_chairOf h_tired h_hosted h_owed h_paid v_sitting v_taken v_served v_hidden v_round v_over v_host v_paidInAll u3_lot, oX2 h_hall h_hall_guestName h_hall_coins h_hall_pride h_hall_speed h_hall_place h_hall_payer h_hall_dishName h_hall_cost v_hall_chairs v_hall_guests v_hall_dishes, aI cI h_hall_payer 7 v_hall_payer, aI cI h_hall_cost 6 v_hall_cost, aI cI h_coins 7 v_coins, aI cI h_chairOf 7 v_chairOf, aI cI h_tired 7 v_tired, aI cI h_hosted 7 v_hosted, aI cI h_owed 7 v_owed, aI cI h_paid 7 v_paid]) hD hS hA [0, 1, 2, 3, 4, 5, 6, 7, 8, 9] rfl
          refine va_callv (va_runV (As := [.int x1]) (rest := []) ⟨hx, hb, hml, hown, hts⟩ (mX1_sitDown l dC dI cI cJ cB cZ cF cG h_this h_hall h_hall_payer h_hall_cost h_coins h_chairOf h_tired h_hosted h_owed h_paid h_hall_guestName h_hall_coins h_hall_pride h_hall_speed h_hall_place h_hall_dishName H.size v_sitting v_taken v_served v_hidden v_round v_over v_host v_paidInAll u3_lot v_hall_chairs v_hall_guests v_hall_dishes v_hall_payer v_hall_cost v_coins v_chairOf v_tired v_hosted v_owed v_paid x1 u5_sitting u5_taken u5_served u5_over u5_host u5_paidInAll u5_coins u5_tired u5_hosted u5_owed u5_paid ho) (cwV 1 hts (goodV U_838 U_698 U_699 U_27 U_700) rfl rfl rfl (by decide +kernel) ⟨Nat.le_trans (by decide) hR.1, Nat.le_trans (Nat.le_of_ble_eq_true rfl) hR.2⟩) ⟨fun a U g mk q => by obtain ⟨q0, q1, qP, qK, qD⟩ := q; exact ⟨q0, q1, qP, va_K.moved (u := U) (U := U.calling g mk a) (Vm.Alike.refl U.vm) qK, qD⟩, va_recv hK hPc (ci := 1) (q0 := 0) rfl rfl, fun U hU hW => ⟨rfl, by rw [hU], by rw [hU]; exact hPc, va_K.moved hW.alike hK, hDc.weaken (fun _ _ _ _ => trivial)⟩⟩ rfl rfl hl.1 rfl (lv_room (Nat.le_of_ble_eq_true rfl)) dX1_drawDeeds_67 ⟨Nat.zero_le _, Nat.zero_le _⟩) hS (fun q _ h => hFc q h) hFc (fun u t H1 locs ht hvm hw hB hz1 hk1 hS => ?_)
          obtain ⟨hP1, hK1, hD1⟩ := hB
          rw [ht] at hP1
          obtain ⟨hP, hD⟩ := va_join (wr := []) (w1 := [oX1 h_this h_hall h_coins h_chairOf h_tired h_hosted h_owed h_paid u5_sitting u5_taken u5_served v_hidden v_round u5_over u5_host u5_paidInAll u3_lot, oX2 h_hall h_hall_guestName h_hall_coins h_hall_pride h_hall_speed h_hall_place h_hall_payer h_hall_dishName h_hall_cost v_hall_chairs v_hall_guests v_hall_dishes, aI cI h_hall_payer 7 v_hall_payer, aI cI h_hall_cost 6 v_hall_cost, aI cI h_coins 7 u5_coins, aI cI h_chairOf 7 v_chairOf, aI cI h_tired 7 u5_tired, aI cI h_hosted 7 u5_hosted, aI cI h_owed 7 u5_owed, aI cI h_paid 7 u5_paid]) hP hD [0, 1, 2, 3, 4, 5, 6, 7, 8, 9] [] rfl rfl (by decide) (by decide) hk1 hFc hP1 hD1
          generalize H1 = H at hP hS ⊢
          have hP : va_P (dC, dI) vwCl [oX1 h_this h_hall h_coins h_chairOf h_tired h_hosted h_owed h_paid u5_sitting u5_taken u5_served v_hidden v_round u5_over u5_host u5_paidInAll u3_lot, oX2 h_hall h_hall_guestName h_hall_coins h_hall_pride h_hall_speed h_hall_place h_hall_payer h_hall_dishName h_hall_cost v_hall_chairs v_hall_guests v_hall_dishes, aI cI h_hall_payer 7 v_hall_payer, aI cI h_hall_cost 6 v_hall_cost, aI cI h_coins 7 u5_coins, aI cI h_chairOf 7 v_chairOf, aI cI h_tired 7 u5_tired, aI cI h_hosted 7 u5_hosted, aI cI h_owed 7 u5_owed, aI cI h_paid 7 u5_paid] H := hP
          have hD : va_D A [oX1 h_this h_hall h_coins h_chairOf h_tired h_hosted h_owed h_paid u5_sitting u5_taken u5_served v_hidden v_round u5_over u5_host u5_paidInAll u3_lot, oX2 h_hall h_hall_guestName h_hall_coins h_hall_pride h_hall_speed h_hall_place h_hall_payer h_hall_dishName h_hall_cost v_hall_chairs v_hall_guests v_hall_dishes, aI cI h_hall_payer 7 v_hall_payer, aI cI h_hall_cost 6 v_hall_cost, aI cI h_coins 7 u5_coins, aI cI h_chairOf 7 v_chairOf, aI cI h_tired 7 u5_tired, aI cI h_hosted 7 u5_hosted, aI cI h_owed 7 u5_owed, aI cI h_paid 7 u5_paid] := hD
          refine lv_goto (tgt := 91) hx hb dX1_drawDeeds_70 (by decide) ?_
          refine lv_iinc (v := (x1 + 1)) (lv' := [(1, .int (x1 + 1)), (2, .int r_3), (0, .ref h_this)]) hx hb dX1_drawDeeds_91 hl (k := 2) rfl rfl (by decide) rfl (fun ls hl => ?_)
          refine z_pc (pc' := 94) rfl ?_
          refine lv_goto (tgt := 35) hx hb dX1_drawDeeds_94 (by decide) ?_
          exact ih u5_sitting u5_taken u5_served u5_over u5_host u5_paidInAll u3_lot u5_coins u5_tired u5_hosted u5_owed u5_paid (x1 + 1) hr _ _ ⟨hK, hP, hD, hS⟩ ls (lv_sub hl [2, 0] rfl)
set_option maxHeartbeats 4000000 in
set_option maxRecDepth 100000 in
theorem tX1_drawDeeds {p : Program} {l : Launch} {e : Env} {R : Room} {s : State} {m : MethodId} {args : Array Value} {below : List Frame} {meth : Method} {c : Code} {dC : Nat → ClassId} {dI : Nat → Nat → Nat} {cI cJ cB cZ cF cG : ClassId} {A : Nat → Prop} (hA : ∀ q : Nat, s.heap.size ≤ q → A q) (C0 : Cx p s m meth c args cX1_drawDeeds 3 none RX1 uX1_drawDeeds) (hR : 3 ≤ R.frames ∧ 67 ≤ R.locals) (h_this : Nat) (h_hall : Nat) (h_hall_payer : Nat) (h_hall_cost : Nat) (h_coins : Nat) (h_chairOf : Nat) (h_tired : Nat) (h_hosted : Nat) (h_owed : Nat) (h_paid : Nat) (h_hall_guestName : Nat) (h_hall_coins : Nat) (h_hall_pride : Nat) (h_hall_speed : Nat) (h_hall_place : Nat) (h_hall_dishName : Nat) (v_hidden : Int32) (v_round : Int32) (v_hall_chairs : Int32) (v_hall_guests : Int32) (v_hall_dishes : Int32) (v_hall_payer : Nat → Int32) (v_hall_cost : Nat → Int32) (v_chairOf : Nat → Int32) (o_sitting : Int32) (o_taken : Int32) (o_served : Int32) (o_over : Int32) (o_host : Int32) (o_paidInAll : Int32) (o_lot : Int32) (o_coins : Nat → Int32) (o_tired : Nat → Int32) (o_hosted : Nat → Int32) (o_owed : Nat → Int32) (o_paid : Nat → Int32) :
    ∀ (v_sitting : Int32) (v_taken : Int32) (v_served : Int32) (v_over : Int32) (v_host : Int32) (v_paidInAll : Int32) (v_lot : Int32) (v_coins : Nat → Int32) (v_tired : Nat → Int32) (v_hosted : Nat → Int32) (v_owed : Nat → Int32) (v_paid : Nat → Int32), fX1_drawDeeds v_hidden v_hall_guests v_hall_dishes v_hall_payer v_hall_cost v_chairOf v_sitting v_taken v_served v_over v_host v_paidInAll v_lot v_coins v_tired v_hosted v_owed v_paid = some (o_sitting, o_taken, o_served, o_over, o_host, o_paidInAll, o_lot, o_coins, o_tired, o_hosted, o_owed, o_paid) → ∀ (H : Heap) (locs : List Loc), Wd dC dI cI cJ cB cZ cF cG A s H locs [oX1 h_this h_hall h_coins h_chairOf h_tired h_hosted h_owed h_paid v_sitting v_taken v_served v_hidden v_round v_over v_host v_paidInAll v_lot, oX2 h_hall h_hall_guestName h_hall_coins h_hall_pride h_hall_speed h_hall_place h_hall_payer h_hall_dishName h_hall_cost v_hall_chairs v_hall_guests v_hall_dishes, aI cI h_hall_payer 7 v_hall_payer, aI cI h_hall_cost 6 v_hall_cost, aI cI h_coins 7 v_coins, aI cI h_chairOf 7 v_chairOf, aI cI h_tired 7 v_tired, aI cI h_hosted 7 v_hosted, aI cI h_owed 7 v_owed, aI cI h_paid 7 v_paid] → ∀ (ls : Array Slot), lv_has ls 3 [(0, .ref h_this)] → W p l e R s m args below meth c H locs 0 0 (MQ below (PQv dC dI cI cJ cB cZ cF cG A [oX1 h_this h_hall h_coins h_chairOf h_tired h_hosted h_owed h_paid o_sitting o_taken o_served v_hidden v_round o_over o_host o_paidInAll o_lot, oX2 h_hall h_hall_guestName h_hall_coins h_hall_pride h_hall_speed h_hall_place h_hall_payer h_hall_dishName h_hall_cost v_hall_chairs v_hall_guests v_hall_dishes, aI cI h_hall_payer 7 v_hall_payer, aI cI h_hall_cost 6 v_hall_cost, aI cI h_coins 7 o_coins, aI cI h_chairOf 7 v_chairOf, aI cI h_tired 7 o_tired, aI cI h_hosted 7 o_hosted, aI cI h_owed 7 o_owed, aI cI h_paid 7 o_paid]) args s 0 0 A) (F0 m 0 ls []) := by
  obtain ⟨hx, hb, hrt, hml, hown, hts, hlocks⟩ := id C0
  intro v_sitting v_taken v_served v_over v_host v_paidInAll v_lot v_coins v_tired v_hosted v_owed v_paid hr H locs hW ls hl
  obtain ⟨hK, hP, hD, hS⟩ := hW
  have hr : (if v_hall_dishes ≤ 0 then lX1_drawDeeds_35 v_hidden v_hall_guests v_hall_dishes v_hall_payer v_hall_cost v_chairOf 5000 v_sitting v_taken v_served v_over v_host v_paidInAll v_lot v_coins v_tired v_hosted v_owed v_paid 0 else (fX1_draw v_lot 2).bind (fun (r_6, u6_lot) => if r_6 = 0 then (fX1_draw u6_lot v_hall_dishes).bind (fun (r_7, u7_lot) => (fX1_bring v_served r_7).bind (fun u8_served => lX1_drawDeeds_35 v_hidden v_hall_guests v_hall_dishes v_hall_payer v_hall_cost v_chairOf 5000 v_sitting v_taken u8_served v_over v_host v_paidInAll u7_lot v_coins v_tired v_hosted v_owed v_paid 0)) else lX1_drawDeeds_35 v_hidden v_hall_guests v_hall_dishes v_hall_payer v_hall_cost v_chairOf 5000 v_sitting v_taken v_served v_over v_host v_paidInAll u6_lot v_coins v_tired v_hosted v_owed v_paid 0) : Option (Int32 × Int32 × Int32 × Int32 × Int32 × Int32 × Int32 × (Nat → Int32) × (Nat → Int32) × (Nat → Int32) × (Nat → Int32) × (Nat → Int32))) = some (o_sitting, o_taken, o_served, o_over, o_host, o_paidInAll, o_lot, o_coins, o_tired, o_hosted, o_owed, o_paid) := hr
  refine lv_aload_n hx hb dX1_drawDeeds_0 rfl (lv_at hl 0 rfl) ?_
  refine va_get (D := (dC, dI)) (ci := 1) (v := .ref h_hall) (C := RX1) (T := TX1) (N := 16) hx hb hts (fun w h => List.mem_cons_of_mem _ (inU_1 w h)) hown hK hP 0 rfl rfl 0 (by decide) (hts _ (List.mem_cons_of_mem _ U_143)) (fun _ h9 => h9) rfl dX1_drawDeeds_1 ?_
  refine va_get (D := (dC, dI)) (ci := 2) (v := .int v_hall_dishes) (C := RX2) (T := TX2) (N := 11) hx hb hts (fun w h => List.mem_cons_of_mem _ (inU_2 w h)) hown hK hP 1 rfl rfl 10 (by decide) (hts _ (List.mem_cons_of_mem _ U_1206)) (fun _ h9 => h9) rfl dX1_drawDeeds_4 ?_
  refine lv_if_le (tgt := 33) hx hb dX1_drawDeeds_7 (by decide) (fun hc => ?_) (fun hc => ?_)
  · have hr := iteP hc hr
    refine lv_iconst (v := 0) hx hb dX1_drawDeeds_33 (by decide) ?_
    refine lv_istore_n (lv' := [(1, .int 0), (0, .ref h_this)]) hx hb dX1_drawDeeds_34 rfl hl (by decide) rfl (fun ls hl => ?_)
    exact tX1_drawDeeds_35 hA C0 hR h_this h_hall h_hall_payer h_hall_cost h_coins h_chairOf h_tired h_hosted h_owed h_paid h_hall_guestName h_hall_coins h_hall_pride h_hall_speed h_hall_place h_hall_dishName v_hidden v_round v_hall_chairs v_hall_guests v_hall_dishes v_hall_payer v_hall_cost v_chairOf o_sitting o_taken o_served o_over o_host o_paidInAll o_lot o_coins o_tired o_hosted o_owed o_paid 5000 v_sitting v_taken v_served v_over v_host v_paidInAll v_lot v_coins v_tired v_hosted v_owed v_paid 0 hr _ _ ⟨hK, hP, hD, hS⟩ ls (lv_sub hl [1, 0] rfl)
  · have hr := iteN hc hr
    refine lv_aload_n hx hb dX1_drawDeeds_10 rfl (lv_at hl 0 rfl) ?_
    refine lv_iconst (v := 2) hx hb dX1_drawDeeds_11 (by decide) ?_
    obtain ⟨⟨r_6, u6_lot⟩, ho, hr⟩ := bind_s hr
    dsimp only at hr
    have hPc := hP.sub (ws' := [oX1 h_this h_hall h_coins h_chairOf h_tired h_hosted h_owed h_paid v_sitting v_taken v_served v_hidden v_round v_over v_host v_paidInAll v_lot]) [0] rfl
    have hDc := hD.sub (ws' := [oX1 h_this h_hall h_coins h_chairOf h_tired h_hosted h_owed h_paid v_sitting v_taken v_served v_hidden v_round v_over v_host v_paidInAll v_lot]) [0] (by decide) rfl
    have hFc := va_free (wc := [oX1 h_this h_hall h_coins h_chairOf h_tired h_hosted h_owed h_paid v_sitting v_taken v_served v_hidden v_round v_over v_host v_paidInAll v_lot]) hD hS hA [0] rfl
    refine va_calli (va_runV (As := [.int 2]) (rest := []) ⟨hx, hb, hml, hown, hts⟩ (mX1_draw l dC dI cI cJ cB cZ cF cG h_this h_hall h_coins h_chairOf h_tired h_hosted h_owed h_paid H.size v_sitting v_taken v_served v_hidden v_round v_over v_host v_paidInAll v_lot 2 r_6 u6_lot ho) (cwV 1 hts (goodV U_1207 U_1208 U_1209 U_27 U_1210) rfl rfl rfl (by decide +kernel) ⟨Nat.le_trans (by decide) hR.1, Nat.le_trans (Nat.le_of_ble_eq_true rfl) hR.2⟩) ⟨fun a U g mk q => by obtain ⟨q0, q1, qP, qK, qD⟩ := q; exact ⟨q0, q1, qP, va_K.moved (u := U) (U := U.calling g mk a) (Vm.Alike.refl U.vm) qK, qD⟩, va_recv hK hPc (ci := 1) (q0 := 0) rfl rfl, fun U hU hW => ⟨rfl, by rw [hU], by rw [hU]; exact hPc, va_K.moved hW.alike hK, hDc.weaken (fun _ _ _ _ => trivial)⟩⟩ rfl rfl hl.1 rfl (lv_room (Nat.le_of_ble_eq_true rfl)) dX1_drawDeeds_12 ⟨Nat.zero_le _, Nat.zero_le _⟩) hS (fun q _ h => hFc q h) hFc (fun rz u t H1 locs ht hvm hw hB hz1 hk1 hS => ?_)
    obtain ⟨hP1, hK1, hD1⟩ := hB
    have hw := hw.symm; subst hw
    rw [ht] at hP1
    obtain ⟨hP, hD⟩ := va_join (wr := [oX2 h_hall h_hall_guestName h_hall_coins h_hall_pride h_hall_speed h_hall_place h_hall_payer h_hall_dishName h_hall_cost v_hall_chairs v_hall_guests v_hall_dishes, aI cI h_hall_payer 7 v_hall_payer, aI cI h_hall_cost 6 v_hall_cost, aI cI h_coins 7 v_coins, aI cI h_chairOf 7 v_chairOf, aI cI h_tired 7 v_tired, aI cI h_hosted 7 v_hosted, aI cI h_owed 7 v_owed, aI cI h_paid 7 v_paid]) (w1 := [oX1 h_this h_hall h_coins h_chairOf h_tired h_hosted h_owed h_paid v_sitting v_taken v_served v_hidden v_round v_over v_host v_paidInAll u6_lot]) hP hD [0] [1, 2, 3, 4, 5, 6, 7, 8, 9] rfl rfl (by decide) (by decide) hk1 hFc hP1 hD1
    generalize H1 = H at hP hS ⊢
    have hP := hP.sub (ws' := [oX1 h_this h_hall h_coins h_chairOf h_tired h_hosted h_owed h_paid v_sitting v_taken v_served v_hidden v_round v_over v_host v_paidInAll u6_lot, oX2 h_hall h_hall_guestName h_hall_coins h_hall_pride h_hall_speed h_hall_place h_hall_payer h_hall_dishName h_hall_cost v_hall_chairs v_hall_guests v_hall_dishes, aI cI h_hall_payer 7 v_hall_payer, aI cI h_hall_cost 6 v_hall_cost, aI cI h_coins 7 v_coins, aI cI h_chairOf 7 v_chairOf, aI cI h_tired 7 v_tired, aI cI h_hosted 7 v_hosted, aI cI h_owed 7 v_owed, aI cI h_paid 7 v_paid]) [9, 0, 1, 2, 3, 4, 5, 6, 7, 8] rfl
    have hD := hD.sub (ws' := [oX1 h_this h_hall h_coins h_chairOf h_tired h_hosted h_owed h_paid v_sitting v_taken v_served v_hidden v_round v_over v_host v_paidInAll u6_lot, oX2 h_hall h_hall_guestName h_hall_coins h_hall_pride h_hall_speed h_hall_place h_hall_payer h_hall_dishName h_hall_cost v_hall_chairs v_hall_guests v_hall_dishes, aI cI h_hall_payer 7 v_hall_payer, aI cI h_hall_cost 6 v_hall_cost, aI cI h_coins 7 v_coins, aI cI h_chairOf 7 v_chairOf, aI cI h_tired 7 v_tired, aI cI h_hosted 7 v_hosted, aI cI h_owed 7 v_owed, aI cI h_paid 7 v_paid]) [9, 0, 1, 2, 3, 4, 5, 6, 7, 8] (by decide) rfl
    refine lv_if_ne (tgt := 33) hx hb dX1_drawDeeds_15 (by decide) (fun hc => ?_) (fun hc => ?_)
    · have hr := iteN hc hr
      refine lv_iconst (v := 0) hx hb dX1_drawDeeds_33 (by decide) ?_
      refine lv_istore_n (lv' := [(1, .int 0), (0, .ref h_this)]) hx hb dX1_drawDeeds_34 rfl hl (by decide) rfl (fun ls hl => ?_)
      exact tX1_drawDeeds_35 hA C0 hR h_this h_hall h_hall_payer h_hall_cost h_coins h_chairOf h_tired h_hosted h_owed h_paid h_hall_guestName h_hall_coins h_hall_pride h_hall_speed h_hall_place h_hall_dishName v_hidden v_round v_hall_chairs v_hall_guests v_hall_dishes v_hall_payer v_hall_cost v_chairOf o_sitting o_taken o_served o_over o_host o_paidInAll o_lot o_coins o_tired o_hosted o_owed o_paid 5000 v_sitting v_taken v_served v_over v_host v_paidInAll u6_lot v_coins v_tired v_hosted v_owed v_paid 0 hr _ _ ⟨hK, hP, hD, hS⟩ ls (lv_sub hl [1, 0] rfl)
    · have hr := iteP hc hr
      refine lv_aload_n hx hb dX1_drawDeeds_18 rfl (lv_at hl 0 rfl) ?_
      refine lv_aload_n hx hb dX1_drawDeeds_19 rfl (lv_at hl 0 rfl) ?_
      refine lv_aload_n hx hb dX1_drawDeeds_20 rfl (lv_at hl 0 rfl) ?_
      refine va_get (D := (dC, dI)) (ci := 1) (v := .ref h_hall) (C := RX1) (T := TX1) (N := 16) hx hb hts (fun w h => List.mem_cons_of_mem _ (inU_1 w h)) hown hK hP 0 rfl rfl 0 (by decide) (hts _ (List.mem_cons_of_mem _ U_143)) (fun _ h9 => h9) rfl dX1_drawDeeds_21 ?_
      refine va_get (D := (dC, dI)) (ci := 2) (v := .int v_hall_dishes) (C := RX2) (T := TX2) (N := 11) hx hb hts (fun w h => List.mem_cons_of_mem _ (inU_2 w h)) hown hK hP 1 rfl rfl 10 (by decide) (hts _ (List.mem_cons_of_mem _ U_1206)) (fun _ h9 => h9) rfl dX1_drawDeeds_24 ?_
      refine z_pc (pc' := 27) rfl ?_
      obtain ⟨⟨r_7, u7_lot⟩, ho, hr⟩ := bind_s hr
      dsimp only at hr
      have hPc := hP.sub (ws' := [oX1 h_this h_hall h_coins h_chairOf h_tired h_hosted h_owed h_paid v_sitting v_taken v_served v_hidden v_round v_over v_host v_paidInAll u6_lot]) [0] rfl
      have hDc := hD.sub (ws' := [oX1 h_this h_hall h_coins h_chairOf h_tired h_hosted h_owed h_paid v_sitting v_taken v_served v_hidden v_round v_over v_host v_paidInAll u6_lot]) [0] (by decide) rfl
      have hFc := va_free (wc := [oX1 h_this h_hall h_coins h_chairOf h_tired h_hosted h_owed h_paid v_sitting v_taken v_served v_hidden v_round v_over v_host v_paidInAll u6_lot]) hD hS hA [0] rfl
      refine va_calli (va_runV (As := [.int v_hall_dishes]) (rest := [.ref h_this]) ⟨hx, hb, hml, hown, hts⟩ (mX1_draw l dC dI cI cJ cB cZ cF cG h_this h_hall h_coins h_chairOf h_tired h_hosted h_owed h_paid H.size v_sitting v_taken v_served v_hidden v_round v_over v_host v_paidInAll u6_lot v_hall_dishes r_7 u7_lot ho) (cwV 1 hts (goodV U_1207 U_1208 U_1209 U_27 U_1210) rfl rfl rfl (by decide +kernel) ⟨Nat.le_trans (by decide) hR.1, Nat.le_trans (Nat.le_of_ble_eq_true rfl) hR.2⟩) ⟨fun a U g mk q => by obtain ⟨q0, q1, qP, qK, qD⟩ := q; exact ⟨q0, q1, qP, va_K.moved (u := U) (U := U.calling g mk a) (Vm.Alike.refl U.vm) qK, qD⟩, va_recv hK hPc (ci := 1) (q0 := 0) rfl rfl, fun U hU hW => ⟨rfl, by rw [hU], by rw [hU]; exact hPc, va_K.moved hW.alike hK, hDc.weaken (fun _ _ _ _ => trivial)⟩⟩ rfl rfl hl.1 rfl (lv_room (Nat.le_of_ble_eq_true rfl)) dX1_drawDeeds_27 ⟨Nat.zero_le _, Nat.zero_le _⟩) hS (fun q _ h => hFc q h) hFc (fun rz u t H1 locs ht hvm hw hB hz1 hk1 hS => ?_)
      obtain ⟨hP1, hK1, hD1⟩ := hB
      have hw := hw.symm; subst hw
      rw [ht] at hP1
      obtain ⟨hP, hD⟩ := va_join (wr := [oX2 h_hall h_hall_guestName h_hall_coins h_hall_pride h_hall_speed h_hall_place h_hall_payer h_hall_dishName h_hall_cost v_hall_chairs v_hall_guests v_hall_dishes, aI cI h_hall_payer 7 v_hall_payer, aI cI h_hall_cost 6 v_hall_cost, aI cI h_coins 7 v_coins, aI cI h_chairOf 7 v_chairOf, aI cI h_tired 7 v_tired, aI cI h_hosted 7 v_hosted, aI cI h_owed 7 v_owed, aI cI h_paid 7 v_paid]) (w1 := [oX1 h_this h_hall h_coins h_chairOf h_tired h_hosted h_owed h_paid v_sitting v_taken v_served v_hidden v_round v_over v_host v_paidInAll u7_lot]) hP hD [0] [1, 2, 3, 4, 5, 6, 7, 8, 9] rfl rfl (by decide) (by decide) hk1 hFc hP1 hD1
      generalize H1 = H at hP hS ⊢
      have hP := hP.sub (ws' := [oX1 h_this h_hall h_coins h_chairOf h_tired h_hosted h_owed h_paid v_sitting v_taken v_served v_hidden v_round v_over v_host v_paidInAll u7_lot, oX2 h_hall h_hall_guestName h_hall_coins h_hall_pride h_hall_speed h_hall_place h_hall_payer h_hall_dishName h_hall_cost v_hall_chairs v_hall_guests v_hall_dishes, aI cI h_hall_payer 7 v_hall_payer, aI cI h_hall_cost 6 v_hall_cost, aI cI h_coins 7 v_coins, aI cI h_chairOf 7 v_chairOf, aI cI h_tired 7 v_tired, aI cI h_hosted 7 v_hosted, aI cI h_owed 7 v_owed, aI cI h_paid 7 v_paid]) [9, 0, 1, 2, 3, 4, 5, 6, 7, 8] rfl
      have hD := hD.sub (ws' := [oX1 h_this h_hall h_coins h_chairOf h_tired h_hosted h_owed h_paid v_sitting v_taken v_served v_hidden v_round v_over v_host v_paidInAll u7_lot, oX2 h_hall h_hall_guestName h_hall_coins h_hall_pride h_hall_speed h_hall_place h_hall_payer h_hall_dishName h_hall_cost v_hall_chairs v_hall_guests v_hall_dishes, aI cI h_hall_payer 7 v_hall_payer, aI cI h_hall_cost 6 v_hall_cost, aI cI h_coins 7 v_coins, aI cI h_chairOf 7 v_chairOf, aI cI h_tired 7 v_tired, aI cI h_hosted 7 v_hosted, aI cI h_owed 7 v_owed, aI cI h_paid 7 v_paid]) [9, 0, 1, 2, 3, 4, 5, 6, 7, 8] (by decide) rfl
      obtain ⟨u8_served, ho, hr⟩ := bind_s hr
      have hPc := hP.sub (ws' := [oX1 h_this h_hall h_coins h_chairOf h_tired h_hosted h_owed h_paid v_sitting v_taken v_served v_hidden v_round v_over v_host v_paidInAll u7_lot]) [0] rfl
      have hDc := hD.sub (ws' := [oX1 h_this h_hall h_coins h_chairOf h_tired h_hosted h_owed h_paid v_sitting v_taken v_served v_hidden v_round v_over v_host v_paidInAll u7_lot]) [0] (by decide) rfl
      have hFc := va_free (wc := [oX1 h_this h_hall h_coins h_chairOf h_tired h_hosted h_owed h_paid v_sitting v_taken v_served v_hidden v_round v_over v_host v_paidInAll u7_lot]) hD hS hA [0] rfl
      refine va_callv (va_runV (As := [.int r_7]) (rest := []) ⟨hx, hb, hml, hown, hts⟩ (mX1_bring l dC dI cI cJ cB cZ cF cG h_this h_hall h_coins h_chairOf h_tired h_hosted h_owed h_paid H.size v_sitting v_taken v_served v_hidden v_round v_over v_host v_paidInAll u7_lot r_7 u8_served ho) (cwV 1 hts (goodV U_1212 U_768 U_769 U_27 U_770) rfl rfl rfl (by decide +kernel) ⟨Nat.le_trans (by decide) hR.1, Nat.le_trans (Nat.le_of_ble_eq_true rfl) hR.2⟩) ⟨fun a U g mk q => by obtain ⟨q0, q1, qP, qK, qD⟩ := q; exact ⟨q0, q1, qP, va_K.moved (u := U) (U := U.calling g mk a) (Vm.Alike.refl U.vm) qK, qD⟩, va_recv hK hPc (ci := 1) (q0 := 0) rfl rfl, fun U hU hW => ⟨rfl, by rw [hU], by rw [hU]; exact hPc, va_K.moved hW.alike hK, hDc.weaken (fun _ _ _ _ => trivial)⟩⟩ rfl rfl hl.1 rfl (lv_room (Nat.le_of_ble_eq_true rfl)) dX1_drawDeeds_30 ⟨Nat.zero_le _, Nat.zero_le _⟩) hS (fun q _ h => hFc q h) hFc (fun u t H1 locs ht hvm hw hB hz1 hk1 hS => ?_)
      obtain ⟨hP1, hK1, hD1⟩ := hB
      rw [ht] at hP1
      obtain ⟨hP, hD⟩ := va_join (wr := [oX2 h_hall h_hall_guestName h_hall_coins h_hall_pride h_hall_speed h_hall_place h_hall_payer h_hall_dishName h_hall_cost v_hall_chairs v_hall_guests v_hall_dishes, aI cI h_hall_payer 7 v_hall_payer, aI cI h_hall_cost 6 v_hall_cost, aI cI h_coins 7 v_coins, aI cI h_chairOf 7 v_chairOf, aI cI h_tired 7 v_tired, aI cI h_hosted 7 v_hosted, aI cI h_owed 7 v_owed, aI cI h_paid 7 v_paid]) (w1 := [oX1 h_this h_hall h_coins h_chairOf h_tired h_hosted h_owed h_paid v_sitting v_taken u8_served v_hidden v_round v_over v_host v_paidInAll u7_lot]) hP hD [0] [1, 2, 3, 4, 5, 6, 7, 8, 9] rfl rfl (by decide) (by decide) hk1 hFc hP1 hD1
      generalize H1 = H at hP hS ⊢
      have hP := hP.sub (ws' := [oX1 h_this h_hall h_coins h_chairOf h_tired h_hosted h_owed h_paid v_sitting v_taken u8_served v_hidden v_round v_over v_host v_paidInAll u7_lot, oX2 h_hall h_hall_guestName h_hall_coins h_hall_pride h_hall_speed h_hall_place h_hall_payer h_hall_dishName h_hall_cost v_hall_chairs v_hall_guests v_hall_dishes, aI cI h_hall_payer 7 v_hall_payer, aI cI h_hall_cost 6 v_hall_cost, aI cI h_coins 7 v_coins, aI cI h_chairOf 7 v_chairOf, aI cI h_tired 7 v_tired, aI cI h_hosted 7 v_hosted, aI cI h_owed 7 v_owed, aI cI h_paid 7 v_paid]) [9, 0, 1, 2, 3, 4, 5, 6, 7, 8] rfl
      have hD := hD.sub (ws' := [oX1 h_this h_hall h_coins h_chairOf h_tired h_hosted h_owed h_paid v_sitting v_taken u8_served v_hidden v_round v_over v_host v_paidInAll u7_lot, oX2 h_hall h_hall_guestName h_hall_coins h_hall_pride h_hall_speed h_hall_place h_hall_payer h_hall_dishName h_hall_cost v_hall_chairs v_hall_guests v_hall_dishes, aI cI h_hall_payer 7 v_hall_payer, aI cI h_hall_cost 6 v_hall_cost, aI cI h_coins 7 v_coins, aI cI h_chairOf 7 v_chairOf, aI cI h_tired 7 v_tired, aI cI h_hosted 7 v_hosted, aI cI h_owed 7 v_owed, aI cI h_paid 7 v_paid]) [9, 0, 1, 2, 3, 4, 5, 6, 7, 8] (by decide) rfl
      refine lv_iconst (v := 0) hx hb dX1_drawDeeds_33 (by decide) ?_
      refine lv_istore_n (lv' := [(1, .int 0), (0, .ref h_this)]) hx hb dX1_drawDeeds_34 rfl hl (by decide) rfl (fun ls hl => ?_)
      exact tX1_drawDeeds_35 hA C0 hR h_this h_hall h_hall_payer h_hall_cost h_coins h_chairOf h_tired h_hosted h_owed h_paid h_hall_guestName h_hall_coins h_hall_pride h_hall_speed h_hall_place h_hall_dishName v_hidden v_round v_hall_chairs v_hall_guests v_hall_dishes v_hall_payer v_hall_cost v_chairOf o_sitting o_taken o_served o_over o_host o_paidInAll o_lot o_coins o_tired o_hosted o_owed o_paid 5000 v_sitting v_taken u8_served v_over v_host v_paidInAll u7_lot v_coins v_tired v_hosted v_owed v_paid 0 hr _ _ ⟨hK, hP, hD, hS⟩ ls (lv_sub hl [1, 0] rfl)
set_option maxHeartbeats 4000000 in
set_option maxRecDepth 100000 in
theorem mX1_drawDeeds (l : Launch) (dC : Nat → ClassId) (dI : Nat → Nat → Nat) (cI cJ cB cZ cF cG : ClassId) (h_this : Nat) (h_hall : Nat) (h_hall_payer : Nat) (h_hall_cost : Nat) (h_coins : Nat) (h_chairOf : Nat) (h_tired : Nat) (h_hosted : Nat) (h_owed : Nat) (h_paid : Nat) (h_hall_guestName : Nat) (h_hall_coins : Nat) (h_hall_pride : Nat) (h_hall_speed : Nat) (h_hall_place : Nat) (h_hall_dishName : Nat) (sz : Nat) (v_sitting : Int32) (v_taken : Int32) (v_served : Int32) (v_hidden : Int32) (v_round : Int32) (v_over : Int32) (v_host : Int32) (v_paidInAll : Int32) (v_lot : Int32) (v_hall_chairs : Int32) (v_hall_guests : Int32) (v_hall_dishes : Int32) (v_hall_payer : Nat → Int32) (v_hall_cost : Nat → Int32) (v_coins : Nat → Int32) (v_chairOf : Nat → Int32) (v_tired : Nat → Int32) (v_hosted : Nat → Int32) (v_owed : Nat → Int32) (v_paid : Nat → Int32) (o_sitting : Int32) (o_taken : Int32) (o_served : Int32) (o_over : Int32) (o_host : Int32) (o_paidInAll : Int32) (o_lot : Int32) (o_coins : Nat → Int32) (o_tired : Nat → Int32) (o_hosted : Nat → Int32) (o_owed : Nat → Int32) (o_paid : Nat → Int32) (hf : fX1_drawDeeds v_hidden v_hall_guests v_hall_dishes v_hall_payer v_hall_cost v_chairOf v_sitting v_taken v_served v_over v_host v_paidInAll v_lot v_coins v_tired v_hosted v_owed v_paid = some (o_sitting, o_taken, o_served, o_over, o_host, o_paidInAll, o_lot, o_coins, o_tired, o_hosted, o_owed, o_paid)) : Met l yX1_drawDeeds uX1_drawDeeds ({ frames := 3, cells := 0, slots := 0, locals := 67 }) (va_Pc [.ref h_this] (fun U => U.heap.size = sz ∧ va_P (dC, dI) vwCl [oX1 h_this h_hall h_coins h_chairOf h_tired h_hosted h_owed h_paid v_sitting v_taken v_served v_hidden v_round v_over v_host v_paidInAll v_lot, oX2 h_hall h_hall_guestName h_hall_coins h_hall_pride h_hall_speed h_hall_place h_hall_payer h_hall_dishName h_hall_cost v_hall_chairs v_hall_guests v_hall_dishes, aI cI h_hall_payer 7 v_hall_payer, aI cI h_hall_cost 6 v_hall_cost, aI cI h_coins 7 v_coins, aI cI h_chairOf 7 v_chairOf, aI cI h_tired 7 v_tired, aI cI h_hosted 7 v_hosted, aI cI h_owed 7 v_owed, aI cI h_paid 7 v_paid] U.heap ∧ va_K (dC, dI) vwCl (TYS cI cJ cB cZ cF cG) U ∧ va_D (fun _ => True) [oX1 h_this h_hall h_coins h_chairOf h_tired h_hosted h_owed h_paid v_sitting v_taken v_served v_hidden v_round v_over v_host v_paidInAll v_lot, oX2 h_hall h_hall_guestName h_hall_coins h_hall_pride h_hall_speed h_hall_place h_hall_payer h_hall_dishName h_hall_cost v_hall_chairs v_hall_guests v_hall_dishes, aI cI h_hall_payer 7 v_hall_payer, aI cI h_hall_cost 6 v_hall_cost, aI cI h_coins 7 v_coins, aI cI h_chairOf 7 v_chairOf, aI cI h_tired 7 v_tired, aI cI h_hosted 7 v_hosted, aI cI h_owed 7 v_owed, aI cI h_paid 7 v_paid])) (PQv dC dI cI cJ cB cZ cF cG (va_A [oX1 h_this h_hall h_coins h_chairOf h_tired h_hosted h_owed h_paid v_sitting v_taken v_served v_hidden v_round v_over v_host v_paidInAll v_lot, oX2 h_hall h_hall_guestName h_hall_coins h_hall_pride h_hall_speed h_hall_place h_hall_payer h_hall_dishName h_hall_cost v_hall_chairs v_hall_guests v_hall_dishes, aI cI h_hall_payer 7 v_hall_payer, aI cI h_hall_cost 6 v_hall_cost, aI cI h_coins 7 v_coins, aI cI h_chairOf 7 v_chairOf, aI cI h_tired 7 v_tired, aI cI h_hosted 7 v_hosted, aI cI h_owed 7 v_owed, aI cI h_paid 7 v_paid] sz) [oX1 h_this h_hall h_coins h_chairOf h_tired h_hosted h_owed h_paid o_sitting o_taken o_served v_hidden v_round o_over o_host o_paidInAll o_lot, oX2 h_hall h_hall_guestName h_hall_coins h_hall_pride h_hall_speed h_hall_place h_hall_payer h_hall_dishName h_hall_cost v_hall_chairs v_hall_guests v_hall_dishes, aI cI h_hall_payer 7 v_hall_payer, aI cI h_hall_cost 6 v_hall_cost, aI cI h_coins 7 o_coins, aI cI h_chairOf 7 v_chairOf, aI cI h_tired 7 o_tired, aI cI h_hosted 7 o_hosted, aI cI h_owed 7 o_owed, aI cI h_paid 7 o_paid]) 0 0 (va_A [oX1 h_this h_hall h_coins h_chairOf h_tired h_hosted h_owed h_paid v_sitting v_taken v_served v_hidden v_round v_over v_host v_paidInAll v_lot, oX2 h_hall h_hall_guestName h_hall_coins h_hall_pride h_hall_speed h_hall_place h_hall_payer h_hall_dishName h_hall_cost v_hall_chairs v_hall_guests v_hall_dishes, aI cI h_hall_payer 7 v_hall_payer, aI cI h_hall_cost 6 v_hall_cost, aI cI h_coins 7 v_coins, aI cI h_chairOf 7 v_chairOf, aI cI h_tired 7 v_tired, aI cI h_hosted 7 v_hosted, aI cI h_owed 7 v_owed, aI cI h_paid 7 v_paid] sz) := by
  refine Met.ofW (cc := cX1_drawDeeds) (maxL := 3) (ret := none) (by decide) rfl ?_
  intro p e s m args below meth c s₁ B hml hv
  obtain ⟨rfl, hsz, hP, hK, hD0⟩ := hv
  have hx := B.exec
  have hb := B.bytes
  have hr := B.returns
  have hts := atoms_spec (ws := uX1_drawDeeds) B.pre
  have hown : s.vm.findClass RX1 = some m.cls := findClass_of_methodNamed B.named
  have hlocks := B.notSynchronized
  subst hsz
  have hD := hD0.self (sz := s.heap.size)
  generalize hAe : va_A [oX1 h_this h_hall h_coins h_chairOf h_tired h_hosted h_owed h_paid v_sitting v_taken v_served v_hidden v_round v_over v_host v_paidInAll v_lot, oX2 h_hall h_hall_guestName h_hall_coins h_hall_pride h_hall_speed h_hall_place h_hall_payer h_hall_dishName h_hall_cost v_hall_chairs v_hall_guests v_hall_dishes, aI cI h_hall_payer 7 v_hall_payer, aI cI h_hall_cost 6 v_hall_cost, aI cI h_coins 7 v_coins, aI cI h_chairOf 7 v_chairOf, aI cI h_tired 7 v_tired, aI cI h_hosted 7 v_hosted, aI cI h_owed 7 v_owed, aI cI h_paid 7 v_paid] s.heap.size = A at hD ⊢
  have hA : ∀ q : Nat, s.heap.size ≤ q → A q := fun q h => by rw [← hAe]; exact Or.inr h
  have hS : va_S A s.heap s.heap [] := va_S.rf
  have hl := lv_entry ([.ref h_this]) (n := 3) (Nat.le_of_ble_eq_true rfl)
  rw [lg_entry_eq]
  generalize (lg_sl ([.ref h_this]) ++ List.replicate (3 - (lg_sl ([.ref h_this])).length) Slot.unset).toArray = ls at hl ⊢
  have hl : lv_has ls 3 [(0, .ref h_this)] := hl
  exact tX1_drawDeeds hA ⟨hx, hb, hr, hml, hown, hts, hlocks⟩ ⟨Nat.le_refl _, Nat.le_refl _⟩ h_this h_hall h_hall_payer h_hall_cost h_coins h_chairOf h_tired h_hosted h_owed h_paid h_hall_guestName h_hall_coins h_hall_pride h_hall_speed h_hall_place h_hall_dishName v_hidden v_round v_hall_chairs v_hall_guests v_hall_dishes v_hall_payer v_hall_cost v_chairOf o_sitting o_taken o_served o_over o_host o_paidInAll o_lot o_coins o_tired o_hosted o_owed o_paid v_sitting v_taken v_served v_over v_host v_paidInAll v_lot v_coins v_tired v_hosted v_owed v_paid hf _ _ ⟨hK, hP, hD, hS⟩ ls hl
-- LastSeat$Feast.goDrawn(II)I
def uX1_goDrawn : List Cond := .code yX1_goDrawn cX1_goDrawn 4 (some .int) :: wsU
set_option maxHeartbeats 4000000 in
set_option maxRecDepth 100000 in
theorem tX1_goDrawn_7 {p : Program} {l : Launch} {e : Env} {R : Room} {s : State} {m : MethodId} {args : Array Value} {below : List Frame} {meth : Method} {c : Code} {dC : Nat → ClassId} {dI : Nat → Nat → Nat} {cI cJ cB cZ cF cG : ClassId} {A : Nat → Prop} (hA : ∀ q : Nat, s.heap.size ≤ q → A q) (C0 : Cx p s m meth c args cX1_goDrawn 4 (some .int) RX1 uX1_goDrawn) (hR : 4 ≤ R.frames ∧ 90 ≤ R.locals) (h_this : Nat) (h_hall : Nat) (h_hall_pride : Nat) (h_hall_speed : Nat) (h_hall_payer : Nat) (h_hall_cost : Nat) (h_coins : Nat) (h_chairOf : Nat) (h_tired : Nat) (h_hosted : Nat) (h_owed : Nat) (h_paid : Nat) (h_hall_guestName : Nat) (h_hall_coins : Nat) (h_hall_place : Nat) (h_hall_dishName : Nat) (v_hidden : Int32) (v_hall_chairs : Int32) (v_hall_guests : Int32) (v_hall_dishes : Int32) (v_hall_pride : Nat → Int32) (v_hall_speed : Nat → Int32) (v_hall_payer : Nat → Int32) (v_hall_cost : Nat → Int32) (o_r : Int32) (o_sitting : Int32) (o_taken : Int32) (o_served : Int32) (o_round : Int32) (o_over : Int32) (o_host : Int32) (o_paidInAll : Int32) (o_lot : Int32) (o_coins : Nat → Int32) (o_chairOf : Nat → Int32) (o_tired : Nat → Int32) (o_hosted : Nat → Int32) (o_owed : Nat → Int32) (o_paid : Nat → Int32) :
    ∀ n : Nat, ∀ (v_sitting : Int32) (v_taken : Int32) (v_served : Int32) (v_round : Int32) (v_over : Int32) (v_host : Int32) (v_paidInAll : Int32) (v_lot : Int32) (v_coins : Nat → Int32) (v_chairOf : Nat → Int32) (v_tired : Nat → Int32) (v_hosted : Nat → Int32) (v_owed : Nat → Int32) (v_paid : Nat → Int32) (x1 : Int32) (x3 : Int32), lX1_goDrawn_7 v_hidden v_hall_chairs v_hall_guests v_hall_dishes v_hall_pride v_hall_speed v_hall_payer v_hall_cost n v_sitting v_taken v_served v_round v_over v_host v_paidInAll v_lot v_coins v_chairOf v_tired v_hosted v_owed v_paid x1 x3 = some (o_r, o_sitting, o_taken, o_served, o_round, o_over, o_host, o_paidInAll, o_lot, o_coins, o_chairOf, o_tired, o_hosted, o_owed, o_paid) → ∀ (H : Heap) (locs : List Loc), Wd dC dI cI cJ cB cZ cF cG A s H locs [oX1 h_this h_hall h_coins h_chairOf h_tired h_hosted h_owed h_paid v_sitting v_taken v_served v_hidden v_round v_over v_host v_paidInAll v_lot, oX2 h_hall h_hall_guestName h_hall_coins h_hall_pride h_hall_speed h_hall_place h_hall_payer h_hall_dishName h_hall_cost v_hall_chairs v_hall_guests v_hall_dishes, aI cI h_hall_pride 7 v_hall_pride, aI cI h_hall_speed 7 v_hall_speed, aI cI h_hall_payer 7 v_hall_payer, aI cI h_hall_cost 6 v_hall_cost, aI cI h_coins 7 v_coins, aI cI h_chairOf 7 v_chairOf, aI cI h_tired 7 v_tired, aI cI h_hosted 7 v_hosted, aI cI h_owed 7 v_owed, aI cI h_paid 7 v_paid] → ∀ (ls : Array Slot), lv_has ls 4 [(0, .ref h_this), (1, .int x1), (3, .int x3)] → W p l e R s m args below meth c H locs 0 0 (MQ below (PQi dC dI cI cJ cB cZ cF cG A o_r [oX1 h_this h_hall h_coins h_chairOf h_tired h_hosted h_owed h_paid o_sitting o_taken o_served v_hidden o_round o_over o_host o_paidInAll o_lot, oX2 h_hall h_hall_guestName h_hall_coins h_hall_pride h_hall_speed h_hall_place h_hall_payer h_hall_dishName h_hall_cost v_hall_chairs v_hall_guests v_hall_dishes, aI cI h_hall_pride 7 v_hall_pride, aI cI h_hall_speed 7 v_hall_speed, aI cI h_hall_payer 7 v_hall_payer, aI cI h_hall_cost 6 v_hall_cost, aI cI h_coins 7 o_coins, aI cI h_chairOf 7 o_chairOf, aI cI h_tired 7 o_tired, aI cI h_hosted 7 o_hosted, aI cI h_owed 7 o_owed, aI cI h_paid 7 o_paid]) args s 0 0 A) (F0 m 7 ls []) := by
  obtain ⟨hx, hb, hrt, hml, hown, hts, hlocks⟩ := id C0
  intro n
  induction n with
  | zero =>
    intro v_sitting v_taken v_served v_round v_over v_host v_paidInAll v_lot v_coins v_chairOf v_tired v_hosted v_owed v_paid x1 x3 hr
    exact nomatch (show (none : Option (Int32 × Int32 × Int32 × Int32 × Int32 × Int32 × Int32 × Int32 × Int32 × (Nat → Int32) × (Nat → Int32) × (Nat → Int32) × (Nat → Int32) × (Nat → Int32) × (Nat → Int32))) = some _ from hr)
  | succ n ih =>
    intro v_sitting v_taken v_served v_round v_over v_host v_paidInAll v_lot v_coins v_chairOf v_tired v_hosted v_owed v_paid x1 x3 hr H locs hW ls hl
    obtain ⟨hK, hP, hD, hS⟩ := hW
    have hr : (if x1 ≤ x3 then some (x3, v_sitting, v_taken, v_served, v_round, v_over, v_host, v_paidInAll, v_lot, v_coins, v_chairOf, v_tired, v_hosted, v_owed, v_paid) else if 400 ≤ v_round then some (x3, v_sitting, v_taken, v_served, v_round, v_over, v_host, v_paidInAll, v_lot, v_coins, v_chairOf, v_tired, v_hosted, v_owed, v_paid) else (fX1_drawDeeds v_hidden v_hall_guests v_hall_dishes v_hall_payer v_hall_cost v_chairOf v_sitting v_taken v_served v_over v_host v_paidInAll v_lot v_coins v_tired v_hosted v_owed v_paid).bind (fun (u1_sitting, u1_taken, u1_served, u1_over, u1_host, u1_paidInAll, u1_lot, u1_coins, u1_tired, u1_hosted, u1_owed, u1_paid) => (fX1_goRound v_hidden v_hall_chairs v_hall_guests v_hall_dishes v_hall_pride v_hall_speed v_hall_payer v_hall_cost u1_sitting u1_taken u1_served v_round u1_over u1_host u1_paidInAll u1_coins v_chairOf u1_tired u1_hosted u1_owed u1_paid (-1)).bind (fun (r_2, u2_sitting, u2_taken, u2_served, u2_round, u2_over, u2_host, u2_paidInAll, u2_coins, u2_chairOf, u2_tired, u2_hosted, u2_owed, u2_paid) => lX1_goDrawn_7 v_hidden v_hall_chairs v_hall_guests v_hall_dishes v_hall_pride v_hall_speed v_hall_payer v_hall_cost n u2_sitting u2_taken u2_served u2_round u2_over u2_host u2_paidInAll u1_lot u2_coins u2_chairOf u2_tired u2_hosted u2_owed u2_paid x1 (x3 + 1))) : Option (Int32 × Int32 × Int32 × Int32 × Int32 × Int32 × Int32 × Int32 × Int32 × (Nat → Int32) × (Nat → Int32) × (Nat → Int32) × (Nat → Int32) × (Nat → Int32) × (Nat → Int32))) = some (o_r, o_sitting, o_taken, o_served, o_round, o_over, o_host, o_paidInAll, o_lot, o_coins, o_chairOf, o_tired, o_hosted, o_owed, o_paid) := hr
    refine lv_iload_n hx hb dX1_goDrawn_7 rfl (lv_at hl 2 rfl) ?_
    refine lv_iload_n hx hb dX1_goDrawn_8 rfl (lv_at hl 1 rfl) ?_
    refine lv_icmp_ge (tgt := 38) hx hb dX1_goDrawn_9 (by decide) (fun hc => ?_) (fun hc => ?_)
    · have hr := iteP hc hr
      refine lv_iload_n hx hb dX1_goDrawn_38 rfl (lv_at hl 2 rfl) ?_
      have q0 := Option.some.inj hr
      obtain ⟨e0, q1⟩ := Prod.mk.inj q0
      obtain ⟨e1, q2⟩ := Prod.mk.inj q1
      obtain ⟨e2, q3⟩ := Prod.mk.inj q2
      obtain ⟨e3, q4⟩ := Prod.mk.inj q3
      obtain ⟨e4, q5⟩ := Prod.mk.inj q4
      obtain ⟨e5, q6⟩ := Prod.mk.inj q5
      obtain ⟨e6, q7⟩ := Prod.mk.inj q6
      obtain ⟨e7, q8⟩ := Prod.mk.inj q7
      obtain ⟨e8, q9⟩ := Prod.mk.inj q8
      obtain ⟨e9, q10⟩ := Prod.mk.inj q9
      obtain ⟨e10, q11⟩ := Prod.mk.inj q10
      obtain ⟨e11, q12⟩ := Prod.mk.inj q11
      obtain ⟨e12, q13⟩ := Prod.mk.inj q12
      obtain ⟨e13, q14⟩ := Prod.mk.inj q13
      subst e0; subst e1; subst e2; subst e3; subst e4; subst e5; subst e6; subst e7; subst e8; subst e9; subst e10; subst e11; subst e12; subst e13; subst q14
      exact W.iret (v := x3) hx hb hrt (fun t ht hW => ⟨⟨x3, (), rfl, rfl, by rw [ht]; exact hP, va_K.moved hW.alike hK, hD⟩, hS.F ht⟩) hS.2.2 dX1_goDrawn_39 hlocks
    · have hr := iteN hc hr
      refine lv_aload_n hx hb dX1_goDrawn_12 rfl (lv_at hl 0 rfl) ?_
      refine va_get (D := (dC, dI)) (ci := 1) (v := .int v_round) (C := RX1) (T := TX1) (N := 16) hx hb hts (fun w h => List.mem_cons_of_mem _ (inU_1 w h)) hown hK hP 0 rfl rfl 11 (by decide) (hts _ (List.mem_cons_of_mem _ U_445)) (fun _ h9 => h9) rfl dX1_goDrawn_13 ?_
      refine lv_sipush (v := 400) hx hb dX1_goDrawn_16 (by decide) ?_
      refine lv_icmp_ge (tgt := 38) hx hb dX1_goDrawn_19 (by decide) (fun hc => ?_) (fun hc => ?_)
      · have hr := iteP hc hr
        refine lv_iload_n hx hb dX1_goDrawn_38 rfl (lv_at hl 2 rfl) ?_
        have q0 := Option.some.inj hr
        obtain ⟨e0, q1⟩ := Prod.mk.inj q0
        obtain ⟨e1, q2⟩ := Prod.mk.inj q1
        obtain ⟨e2, q3⟩ := Prod.mk.inj q2
        obtain ⟨e3, q4⟩ := Prod.mk.inj q3
        obtain ⟨e4, q5⟩ := Prod.mk.inj q4
        obtain ⟨e5, q6⟩ := Prod.mk.inj q5
        obtain ⟨e6, q7⟩ := Prod.mk.inj q6
        obtain ⟨e7, q8⟩ := Prod.mk.inj q7
        obtain ⟨e8, q9⟩ := Prod.mk.inj q8
        obtain ⟨e9, q10⟩ := Prod.mk.inj q9
        obtain ⟨e10, q11⟩ := Prod.mk.inj q10
        obtain ⟨e11, q12⟩ := Prod.mk.inj q11
        obtain ⟨e12, q13⟩ := Prod.mk.inj q12
        obtain ⟨e13, q14⟩ := Prod.mk.inj q13
        subst e0; subst e1; subst e2; subst e3; subst e4; subst e5; subst e6; subst e7; subst e8; subst e9; subst e10; subst e11; subst e12; subst e13; subst q14
        exact W.iret (v := x3) hx hb hrt (fun t ht hW => ⟨⟨x3, (), rfl, rfl, by rw [ht]; exact hP, va_K.moved hW.alike hK, hD⟩, hS.F ht⟩) hS.2.2 dX1_goDrawn_39 hlocks
      · have hr := iteN hc hr
        refine lv_aload_n hx hb dX1_goDrawn_22 rfl (lv_at hl 0 rfl) ?_
        obtain ⟨⟨u1_sitting, u1_taken, u1_served, u1_over, u1_host, u1_paidInAll, u1_lot, u1_coins, u1_tired, u1_hosted, u1_owed, u1_paid⟩, ho, hr⟩ := bind_s hr
        dsimp only at hr
        have hPc := hP.sub (ws' := [oX1 h_this h_hall h_coins h_chairOf h_tired h_hosted h_owed h_paid v_sitting v_taken v_served v_hidden v_round v_over v_host v_paidInAll v_lot, oX2 h_hall h_hall_guestName h_hall_coins h_hall_pride h_hall_speed h_hall_place h_hall_payer h_hall_dishName h_hall_cost v_hall_chairs v_hall_guests v_hall_dishes, aI cI h_hall_payer 7 v_hall_payer, aI cI h_hall_cost 6 v_hall_cost, aI cI h_coins 7 v_coins, aI cI h_chairOf 7 v_chairOf, aI cI h_tired 7 v_tired, aI cI h_hosted 7 v_hosted, aI cI h_owed 7 v_owed, aI cI h_paid 7 v_paid]) [0, 1, 4, 5, 6, 7, 8, 9, 10, 11] rfl
        have hDc := hD.sub (ws' := [oX1 h_this h_hall h_coins h_chairOf h_tired h_hosted h_owed h_paid v_sitting v_taken v_served v_hidden v_round v_over v_host v_paidInAll v_lot, oX2 h_hall h_hall_guestName h_hall_coins h_hall_pride h_hall_speed h_hall_place h_hall_payer h_hall_dishName h_hall_cost v_hall_chairs v_hall_guests v_hall_dishes, aI cI h_hall_payer 7 v_hall_payer, aI cI h_hall_cost 6 v_hall_cost, aI cI h_coins 7 v_coins, aI cI h_chairOf 7 v_chairOf, aI cI h_tired 7 v_tired, aI cI h_hosted 7 v_hosted, aI cI h_owed 7 v_owed, aI cI h_paid 7 v_paid]) [0, 1, 4, 5, 6, 7, 8, 9, 10, 11] (by decide) rfl
        have hFc := va_free (wc := [oX1 h_this h_hall h_coins h_chairOf h_tired h_hosted h_owed h_paid v_sitting v_taken v_served v_hidden v_round v_over v_host v_paidInAll v_lot, oX2 h_hall h_hall_guestName h_hall_coins h_hall_pride h_hall_speed h_hall_place h_hall_payer h_hall_dishName h_hall_cost v_hall_chairs v_hall_guests v_hall_dishes, aI cI h_hall_payer 7 v_hall_payer, aI cI h_hall_cost 6 v_hall_cost, aI cI h_coins 7 v_coins, aI cI h_chairOf 7 v_chairOf, aI cI h_tired 7 v_tired, aI cI h_hosted 7 v_hosted, aI cI h_owed 7 v_owed, aI cI h_paid 7 v_paid]) hD hS hA [0, 1, 4, 5, 6, 7, 8, 9, 10, 11] rfl
        refine va_callv (va_runV (As := []) (rest := []) ⟨hx, hb, hml, hown, hts⟩ (mX1_drawDeeds l dC dI cI cJ cB cZ cF cG h_this h_hall h_hall_payer h_hall_cost h_coins h_chairOf h_tired h_hosted h_owed h_paid h_hall_guestName h_hall_coins h_hall_pride h_hall_speed h_hall_place h_hall_dishName H.size v_sitting v_taken v_served v_hidden v_round v_over v_host v_paidInAll v_lot v_hall_chairs v_hall_guests v_hall_dishes v_hall_payer v_hall_cost v_coins v_chairOf v_tired v_hosted v_owed v_paid u1_sitting u1_taken u1_served u1_over u1_host u1_paidInAll u1_lot u1_coins u1_tired u1_hosted u1_owed u1_paid ho) (cwV 0 hts (goodV U_1202 U_1203 U_1204 U_27 U_1205) rfl rfl rfl (by decide +kernel) ⟨Nat.le_trans (by decide) hR.1, Nat.le_trans (Nat.le_of_ble_eq_true rfl) hR.2⟩) ⟨fun a U g mk q => by obtain ⟨q0, q1, qP, qK, qD⟩ := q; exact ⟨q0, q1, qP, va_K.moved (u := U) (U := U.calling g mk a) (Vm.Alike.refl U.vm) qK, qD⟩, va_recv hK hPc (ci := 1) (q0 := 0) rfl rfl, fun U hU hW => ⟨rfl, by rw [hU], by rw [hU]; exact hPc, va_K.moved hW.alike hK, hDc.weaken (fun _ _ _ _ => trivial)⟩⟩ rfl rfl hl.1 rfl (lv_room (Nat.le_of_ble_eq_true rfl)) dX1_goDrawn_23 ⟨Nat.zero_le _, Nat.zero_le _⟩) hS (fun q _ h => hFc q h) hFc (fun u t H1 locs ht hvm hw hB hz1 hk1 hS => ?_)
        obtain ⟨hP1, hK1, hD1⟩ := hB
        rw [ht] at hP1
        obtain ⟨hP, hD⟩ := va_join (wr := [aI cI h_hall_pride 7 v_hall_pride, aI cI h_hall_speed 7 v_hall_speed]) (w1 := [oX1 h_this h_hall h_coins h_chairOf h_tired h_hosted h_owed h_paid u1_sitting u1_taken u1_served v_hidden v_round u1_over u1_host u1_paidInAll u1_lot, oX2 h_hall h_hall_guestName h_hall_coins h_hall_pride h_hall_speed h_hall_place h_hall_payer h_hall_dishName h_hall_cost v_hall_chairs v_hall_guests v_hall_dishes, aI cI h_hall_payer 7 v_hall_payer, aI cI h_hall_cost 6 v_hall_cost, aI cI h_coins 7 u1_coins, aI cI h_chairOf 7 v_chairOf, aI cI h_tired 7 u1_tired, aI cI h_hosted 7 u1_hosted, aI cI h_owed 7 u1_owed, aI cI h_paid 7 u1_paid]) hP hD [0, 1, 4, 5, 6, 7, 8, 9, 10, 11] [2, 3] rfl rfl (by decide) (by decide) hk1 hFc hP1 hD1
        generalize H1 = H at hP hS ⊢
        have hP := hP.sub (ws' := [oX1 h_this h_hall h_coins h_chairOf h_tired h_hosted h_owed h_paid u1_sitting u1_taken u1_served v_hidden v_round u1_over u1_host u1_paidInAll u1_lot, oX2 h_hall h_hall_guestName h_hall_coins h_hall_pride h_hall_speed h_hall_place h_hall_payer h_hall_dishName h_hall_cost v_hall_chairs v_hall_guests v_hall_dishes, aI cI h_hall_pride 7 v_hall_pride, aI cI h_hall_speed 7 v_hall_speed, aI cI h_hall_payer 7 v_hall_payer, aI cI h_hall_cost 6 v_hall_cost, aI cI h_coins 7 u1_coins, aI cI h_chairOf 7 v_chairOf, aI cI h_tired 7 u1_tired, aI cI h_hosted 7 u1_hosted, aI cI h_owed 7 u1_owed, aI cI h_paid 7 u1_paid]) [2, 3, 0, 1, 4, 5, 6, 7, 8, 9, 10, 11] rfl
        have hD := hD.sub (ws' := [oX1 h_this h_hall h_coins h_chairOf h_tired h_hosted h_owed h_paid u1_sitting u1_taken u1_served v_hidden v_round u1_over u1_host u1_paidInAll u1_lot, oX2 h_hall h_hall_guestName h_hall_coins h_hall_pride h_hall_speed h_hall_place h_hall_payer h_hall_dishName h_hall_cost v_hall_chairs v_hall_guests v_hall_dishes, aI cI h_hall_pride 7 v_hall_pride, aI cI h_hall_speed 7 v_hall_speed, aI cI h_hall_payer 7 v_hall_payer, aI cI h_hall_cost 6 v_hall_cost, aI cI h_coins 7 u1_coins, aI cI h_chairOf 7 v_chairOf, aI cI h_tired 7 u1_tired, aI cI h_hosted 7 u1_hosted, aI cI h_owed 7 u1_owed, aI cI h_paid 7 u1_paid]) [2, 3, 0, 1, 4, 5, 6, 7, 8, 9, 10, 11] (by decide) rfl
        refine lv_aload_n hx hb dX1_goDrawn_26 rfl (lv_at hl 0 rfl) ?_
        refine lv_iconst (v := (-1)) hx hb dX1_goDrawn_27 (by decide) ?_
        obtain ⟨⟨r_2, u2_sitting, u2_taken, u2_served, u2_round, u2_over, u2_host, u2_paidInAll, u2_coins, u2_chairOf, u2_tired, u2_hosted, u2_owed, u2_paid⟩, ho, hr⟩ := bind_s hr
        dsimp only at hr
        have hPc := hP.sub (ws' := [oX1 h_this h_hall h_coins h_chairOf h_tired h_hosted h_owed h_paid u1_sitting u1_taken u1_served v_hidden v_round u1_over u1_host u1_paidInAll u1_lot, oX2 h_hall h_hall_guestName h_hall_coins h_hall_pride h_hall_speed h_hall_place h_hall_payer h_hall_dishName h_hall_cost v_hall_chairs v_hall_guests v_hall_dishes, aI cI h_hall_pride 7 v_hall_pride, aI cI h_hall_speed 7 v_hall_speed, aI cI h_hall_payer 7 v_hall_payer, aI cI h_hall_cost 6 v_hall_cost, aI cI h_coins 7 u1_coins, aI cI h_chairOf 7 v_chairOf, aI cI h_tired 7 u1_tired, aI cI h_hosted 7 u1_hosted, aI cI h_owed 7 u1_owed, aI cI h_paid 7 u1_paid]) [0, 1, 2, 3, 4, 5, 6, 7, 8, 9, 10, 11] rfl
        have hDc := hD.sub (ws' := [oX1 h_this h_hall h_coins h_chairOf h_tired h_hosted h_owed h_paid u1_sitting u1_taken u1_served v_hidden v_round u1_over u1_host u1_paidInAll u1_lot, oX2 h_hall h_hall_guestName h_hall_coins h_hall_pride h_hall_speed h_hall_place h_hall_payer h_hall_dishName h_hall_cost v_hall_chairs v_hall_guests v_hall_dishes, aI cI h_hall_pride 7 v_hall_pride, aI cI h_hall_speed 7 v_hall_speed, aI cI h_hall_payer 7 v_hall_payer, aI cI h_hall_cost 6 v_hall_cost, aI cI h_coins 7 u1_coins, aI cI h_chairOf 7 v_chairOf, aI cI h_tired 7 u1_tired, aI cI h_hosted 7 u1_hosted, aI cI h_owed 7 u1_owed, aI cI h_paid 7 u1_paid]) [0, 1, 2, 3, 4, 5, 6, 7, 8, 9, 10, 11] (by decide) rfl
        have hFc := va_free (wc := [oX1 h_this h_hall h_coins h_chairOf h_tired h_hosted h_owed h_paid u1_sitting u1_taken u1_served v_hidden v_round u1_over u1_host u1_paidInAll u1_lot, oX2 h_hall h_hall_guestName h_hall_coins h_hall_pride h_hall_speed h_hall_place h_hall_payer h_hall_dishName h_hall_cost v_hall_chairs v_hall_guests v_hall_dishes, aI cI h_hall_pride 7 v_hall_pride, aI cI h_hall_speed 7 v_hall_speed, aI cI h_hall_payer 7 v_hall_payer, aI cI h_hall_cost 6 v_hall_cost, aI cI h_coins 7 u1_coins, aI cI h_chairOf 7 v_chairOf, aI cI h_tired 7 u1_tired, aI cI h_hosted 7 u1_hosted, aI cI h_owed 7 u1_owed, aI cI h_paid 7 u1_paid]) hD hS hA [0, 1, 2, 3, 4, 5, 6, 7, 8, 9, 10, 11] rfl
        refine va_calli (va_runV (As := [.int (-1)]) (rest := []) ⟨hx, hb, hml, hown, hts⟩ (mX1_goRound l dC dI cI cJ cB cZ cF cG h_this h_hall h_hall_pride h_hall_speed h_hall_payer h_hall_cost h_coins h_chairOf h_tired h_hosted h_owed h_paid h_hall_guestName h_hall_coins h_hall_place h_hall_dishName H.size u1_sitting u1_taken u1_served v_hidden v_round u1_over u1_host u1_paidInAll u1_lot v_hall_chairs v_hall_guests v_hall_dishes v_hall_pride v_hall_speed v_hall_payer v_hall_cost u1_coins v_chairOf u1_tired u1_hosted u1_owed u1_paid (-1) r_2 u2_sitting u2_taken u2_served u2_round u2_over u2_host u2_paidInAll u2_coins u2_chairOf u2_tired u2_hosted u2_owed u2_paid ho) (cwV 1 hts (goodV U_1214 U_827 U_828 U_27 U_829) rfl rfl rfl (by decide +kernel) ⟨Nat.le_trans (by decide) hR.1, Nat.le_trans (Nat.le_of_ble_eq_true rfl) hR.2⟩) ⟨fun a U g mk q => by obtain ⟨q0, q1, qP, qK, qD⟩ := q; exact ⟨q0, q1, qP, va_K.moved (u := U) (U := U.calling g mk a) (Vm.Alike.refl U.vm) qK, qD⟩, va_recv hK hPc (ci := 1) (q0 := 0) rfl rfl, fun U hU hW => ⟨rfl, by rw [hU], by rw [hU]; exact hPc, va_K.moved hW.alike hK, hDc.weaken (fun _ _ _ _ => trivial)⟩⟩ rfl rfl hl.1 rfl (lv_room (Nat.le_of_ble_eq_true rfl)) dX1_goDrawn_28 ⟨Nat.zero_le _, Nat.zero_le _⟩) hS (fun q _ h => hFc q h) hFc (fun rz u t H1 locs ht hvm hw hB hz1 hk1 hS => ?_)
        obtain ⟨hP1, hK1, hD1⟩ := hB
        obtain ⟨hw, hz_2⟩ := hw
        have hw := hw.symm; subst hw
        rw [ht] at hP1
        obtain ⟨hP, hD⟩ := va_join (wr := []) (w1 := [oX1 h_this h_hall h_coins h_chairOf h_tired h_hosted h_owed h_paid u2_sitting u2_taken u2_served v_hidden u2_round u2_over u2_host u2_paidInAll u1_lot, oX2 h_hall h_hall_guestName h_hall_coins h_hall_pride h_hall_speed h_hall_place h_hall_payer h_hall_dishName h_hall_cost v_hall_chairs v_hall_guests v_hall_dishes, aI cI h_hall_pride 7 v_hall_pride, aI cI h_hall_speed 7 v_hall_speed, aI cI h_hall_payer 7 v_hall_payer, aI cI h_hall_cost 6 v_hall_cost, aI cI h_coins 7 u2_coins, aI cI h_chairOf 7 u2_chairOf, aI cI h_tired 7 u2_tired, aI cI h_hosted 7 u2_hosted, aI cI h_owed 7 u2_owed, aI cI h_paid 7 u2_paid]) hP hD [0, 1, 2, 3, 4, 5, 6, 7, 8, 9, 10, 11] [] rfl rfl (by decide) (by decide) hk1 hFc hP1 hD1
        generalize H1 = H at hP hS ⊢
        have hP : va_P (dC, dI) vwCl [oX1 h_this h_hall h_coins h_chairOf h_tired h_hosted h_owed h_paid u2_sitting u2_taken u2_served v_hidden u2_round u2_over u2_host u2_paidInAll u1_lot, oX2 h_hall h_hall_guestName h_hall_coins h_hall_pride h_hall_speed h_hall_place h_hall_payer h_hall_dishName h_hall_cost v_hall_chairs v_hall_guests v_hall_dishes, aI cI h_hall_pride 7 v_hall_pride, aI cI h_hall_speed 7 v_hall_speed, aI cI h_hall_payer 7 v_hall_payer, aI cI h_hall_cost 6 v_hall_cost, aI cI h_coins 7 u2_coins, aI cI h_chairOf 7 u2_chairOf, aI cI h_tired 7 u2_tired, aI cI h_hosted 7 u2_hosted, aI cI h_owed 7 u2_owed, aI cI h_paid 7 u2_paid] H := hP
        have hD : va_D A [oX1 h_this h_hall h_coins h_chairOf h_tired h_hosted h_owed h_paid u2_sitting u2_taken u2_served v_hidden u2_round u2_over u2_host u2_paidInAll u1_lot, oX2 h_hall h_hall_guestName h_hall_coins h_hall_pride h_hall_speed h_hall_place h_hall_payer h_hall_dishName h_hall_cost v_hall_chairs v_hall_guests v_hall_dishes, aI cI h_hall_pride 7 v_hall_pride, aI cI h_hall_speed 7 v_hall_speed, aI cI h_hall_payer 7 v_hall_payer, aI cI h_hall_cost 6 v_hall_cost, aI cI h_coins 7 u2_coins, aI cI h_chairOf 7 u2_chairOf, aI cI h_tired 7 u2_tired, aI cI h_hosted 7 u2_hosted, aI cI h_owed 7 u2_owed, aI cI h_paid 7 u2_paid] := hD
        refine z_pc (pc' := 31) rfl ?_
        refine lv_pop hx hb dX1_goDrawn_31 rfl ?_
        refine lv_iinc (v := (x3 + 1)) (lv' := [(3, .int (x3 + 1)), (0, .ref h_this), (1, .int x1)]) hx hb dX1_goDrawn_32 hl (k := 2) rfl rfl (by decide) rfl (fun ls hl => ?_)
        refine lv_goto (tgt := 7) hx hb dX1_goDrawn_35 (by decide) ?_
        exact ih u2_sitting u2_taken u2_served u2_round u2_over u2_host u2_paidInAll u1_lot u2_coins u2_chairOf u2_tired u2_hosted u2_owed u2_paid x1 (x3 + 1) hr _ _ ⟨hK, hP, hD, hS⟩ ls (lv_sub hl [1, 2, 0] rfl)
set_option maxHeartbeats 4000000 in
set_option maxRecDepth 100000 in
theorem tX1_goDrawn {p : Program} {l : Launch} {e : Env} {R : Room} {s : State} {m : MethodId} {args : Array Value} {below : List Frame} {meth : Method} {c : Code} {dC : Nat → ClassId} {dI : Nat → Nat → Nat} {cI cJ cB cZ cF cG : ClassId} {A : Nat → Prop} (hA : ∀ q : Nat, s.heap.size ≤ q → A q) (C0 : Cx p s m meth c args cX1_goDrawn 4 (some .int) RX1 uX1_goDrawn) (hR : 4 ≤ R.frames ∧ 90 ≤ R.locals) (h_this : Nat) (h_hall : Nat) (h_hall_pride : Nat) (h_hall_speed : Nat) (h_hall_payer : Nat) (h_hall_cost : Nat) (h_coins : Nat) (h_chairOf : Nat) (h_tired : Nat) (h_hosted : Nat) (h_owed : Nat) (h_paid : Nat) (h_hall_guestName : Nat) (h_hall_coins : Nat) (h_hall_place : Nat) (h_hall_dishName : Nat) (v_hidden : Int32) (v_hall_chairs : Int32) (v_hall_guests : Int32) (v_hall_dishes : Int32) (v_hall_pride : Nat → Int32) (v_hall_speed : Nat → Int32) (v_hall_payer : Nat → Int32) (v_hall_cost : Nat → Int32) (o_r : Int32) (o_sitting : Int32) (o_taken : Int32) (o_served : Int32) (o_round : Int32) (o_over : Int32) (o_host : Int32) (o_paidInAll : Int32) (o_lot : Int32) (o_coins : Nat → Int32) (o_chairOf : Nat → Int32) (o_tired : Nat → Int32) (o_hosted : Nat → Int32) (o_owed : Nat → Int32) (o_paid : Nat → Int32) :
    ∀ (v_sitting : Int32) (v_taken : Int32) (v_served : Int32) (v_round : Int32) (v_over : Int32) (v_host : Int32) (v_paidInAll : Int32) (v_lot : Int32) (v_coins : Nat → Int32) (v_chairOf : Nat → Int32) (v_tired : Nat → Int32) (v_hosted : Nat → Int32) (v_owed : Nat → Int32) (v_paid : Nat → Int32) (x1 : Int32) (x2 : Int32), fX1_goDrawn v_hidden v_hall_chairs v_hall_guests v_hall_dishes v_hall_pride v_hall_speed v_hall_payer v_hall_cost v_sitting v_taken v_served v_round v_over v_host v_paidInAll v_lot v_coins v_chairOf v_tired v_hosted v_owed v_paid x1 x2 = some (o_r, o_sitting, o_taken, o_served, o_round, o_over, o_host, o_paidInAll, o_lot, o_coins, o_chairOf, o_tired, o_hosted, o_owed, o_paid) → ∀ (H : Heap) (locs : List Loc), Wd dC dI cI cJ cB cZ cF cG A s H locs [oX1 h_this h_hall h_coins h_chairOf h_tired h_hosted h_owed h_paid v_sitting v_taken v_served v_hidden v_round v_over v_host v_paidInAll v_lot, oX2 h_hall h_hall_guestName h_hall_coins h_hall_pride h_hall_speed h_hall_place h_hall_payer h_hall_dishName h_hall_cost v_hall_chairs v_hall_guests v_hall_dishes, aI cI h_hall_pride 7 v_hall_pride, aI cI h_hall_speed 7 v_hall_speed, aI cI h_hall_payer 7 v_hall_payer, aI cI h_hall_cost 6 v_hall_cost, aI cI h_coins 7 v_coins, aI cI h_chairOf 7 v_chairOf, aI cI h_tired 7 v_tired, aI cI h_hosted 7 v_hosted, aI cI h_owed 7 v_owed, aI cI h_paid 7 v_paid] → ∀ (ls : Array Slot), lv_has ls 4 [(0, .ref h_this), (1, .int x1), (2, .int x2)] → W p l e R s m args below meth c H locs 0 0 (MQ below (PQi dC dI cI cJ cB cZ cF cG A o_r [oX1 h_this h_hall h_coins h_chairOf h_tired h_hosted h_owed h_paid o_sitting o_taken o_served v_hidden o_round o_over o_host o_paidInAll o_lot, oX2 h_hall h_hall_guestName h_hall_coins h_hall_pride h_hall_speed h_hall_place h_hall_payer h_hall_dishName h_hall_cost v_hall_chairs v_hall_guests v_hall_dishes, aI cI h_hall_pride 7 v_hall_pride, aI cI h_hall_speed 7 v_hall_speed, aI cI h_hall_payer 7 v_hall_payer, aI cI h_hall_cost 6 v_hall_cost, aI cI h_coins 7 o_coins, aI cI h_chairOf 7 o_chairOf, aI cI h_tired 7 o_tired, aI cI h_hosted 7 o_hosted, aI cI h_owed 7 o_owed, aI cI h_paid 7 o_paid]) args s 0 0 A) (F0 m 0 ls []) := by
  obtain ⟨hx, hb, hrt, hml, hown, hts, hlocks⟩ := id C0
  intro v_sitting v_taken v_served v_round v_over v_host v_paidInAll v_lot v_coins v_chairOf v_tired v_hosted v_owed v_paid x1 x2 hr H locs hW ls hl
  obtain ⟨hK, hP, hD, hS⟩ := hW
  have hr : (lX1_goDrawn_7 v_hidden v_hall_chairs v_hall_guests v_hall_dishes v_hall_pride v_hall_speed v_hall_payer v_hall_cost 5000 v_sitting v_taken v_served v_round v_over v_host v_paidInAll x2 v_coins v_chairOf v_tired v_hosted v_owed v_paid x1 0 : Option (Int32 × Int32 × Int32 × Int32 × Int32 × Int32 × Int32 × Int32 × Int32 × (Nat → Int32) × (Nat → Int32) × (Nat → Int32) × (Nat → Int32) × (Nat → Int32) × (Nat → Int32))) = some (o_r, o_sitting, o_taken, o_served, o_round, o_over, o_host, o_paidInAll, o_lot, o_coins, o_chairOf, o_tired, o_hosted, o_owed, o_paid) := hr
  refine lv_aload_n hx hb dX1_goDrawn_0 rfl (lv_at hl 0 rfl) ?_
  refine lv_iload_n hx hb dX1_goDrawn_1 rfl (lv_at hl 2 rfl) ?_
  refine va_put (D := (dC, dI)) (ci := 1) (v := .int x2) (ty := .int) (C := RX1) (T := TX1) (N := 16) hx hb hts (fun w h => List.mem_cons_of_mem _ (inU_1 w h)) tyX1 tyX1_ok nmX1 hown hK hP hD hS 0 rfl rfl 15 (by decide) (hts _ (List.mem_cons_of_mem _ U_1201)) (fun _ h9 => h9) rfl (by decide +kernel) rfl rfl (Nat.le_of_ble_eq_true rfl) dX1_goDrawn_2 (fun H locs hP hD hS => ?_)
  have hP : va_P (dC, dI) vwCl [oX1 h_this h_hall h_coins h_chairOf h_tired h_hosted h_owed h_paid v_sitting v_taken v_served v_hidden v_round v_over v_host v_paidInAll x2, oX2 h_hall h_hall_guestName h_hall_coins h_hall_pride h_hall_speed h_hall_place h_hall_payer h_hall_dishName h_hall_cost v_hall_chairs v_hall_guests v_hall_dishes, aI cI h_hall_pride 7 v_hall_pride, aI cI h_hall_speed 7 v_hall_speed, aI cI h_hall_payer 7 v_hall_payer, aI cI h_hall_cost 6 v_hall_cost, aI cI h_coins 7 v_coins, aI cI h_chairOf 7 v_chairOf, aI cI h_tired 7 v_tired, aI cI h_hosted 7 v_hosted, aI cI h_owed 7 v_owed, aI cI h_paid 7 v_paid] H := hP
  have hD : va_D A [oX1 h_this h_hall h_coins h_chairOf h_tired h_hosted h_owed h_paid v_sitting v_taken v_served v_hidden v_round v_over v_host v_paidInAll x2, oX2 h_hall h_hall_guestName h_hall_coins h_hall_pride h_hall_speed h_hall_place h_hall_payer h_hall_dishName h_hall_cost v_hall_chairs v_hall_guests v_hall_dishes, aI cI h_hall_pride 7 v_hall_pride, aI cI h_hall_speed 7 v_hall_speed, aI cI h_hall_payer 7 v_hall_payer, aI cI h_hall_cost 6 v_hall_cost, aI cI h_coins 7 v_coins, aI cI h_chairOf 7 v_chairOf, aI cI h_tired 7 v_tired, aI cI h_hosted 7 v_hosted, aI cI h_owed 7 v_owed, aI cI h_paid 7 v_paid] := hD
  refine lv_iconst (v := 0) hx hb dX1_goDrawn_5 (by decide) ?_
  refine lv_istore_n (lv' := [(3, .int 0), (0, .ref h_this), (1, .int x1), (2, .int x2)]) hx hb dX1_goDrawn_6 rfl hl (by decide) rfl (fun ls hl => ?_)
  exact tX1_goDrawn_7 hA C0 hR h_this h_hall h_hall_pride h_hall_speed h_hall_payer h_hall_cost h_coins h_chairOf h_tired h_hosted h_owed h_paid h_hall_guestName h_hall_coins h_hall_place h_hall_dishName v_hidden v_hall_chairs v_hall_guests v_hall_dishes v_hall_pride v_hall_speed v_hall_payer v_hall_cost o_r o_sitting o_taken o_served o_round o_over o_host o_paidInAll o_lot o_coins o_chairOf o_tired o_hosted o_owed o_paid 5000 v_sitting v_taken v_served v_round v_over v_host v_paidInAll x2 v_coins v_chairOf v_tired v_hosted v_owed v_paid x1 0 hr _ _ ⟨hK, hP, hD, hS⟩ ls (lv_sub hl [1, 2, 0] rfl)
set_option maxHeartbeats 4000000 in
set_option maxRecDepth 100000 in
theorem mX1_goDrawn (l : Launch) (dC : Nat → ClassId) (dI : Nat → Nat → Nat) (cI cJ cB cZ cF cG : ClassId) (h_this : Nat) (h_hall : Nat) (h_hall_pride : Nat) (h_hall_speed : Nat) (h_hall_payer : Nat) (h_hall_cost : Nat) (h_coins : Nat) (h_chairOf : Nat) (h_tired : Nat) (h_hosted : Nat) (h_owed : Nat) (h_paid : Nat) (h_hall_guestName : Nat) (h_hall_coins : Nat) (h_hall_place : Nat) (h_hall_dishName : Nat) (sz : Nat) (v_sitting : Int32) (v_taken : Int32) (v_served : Int32) (v_hidden : Int32) (v_round : Int32) (v_over : Int32) (v_host : Int32) (v_paidInAll : Int32) (v_lot : Int32) (v_hall_chairs : Int32) (v_hall_guests : Int32) (v_hall_dishes : Int32) (v_hall_pride : Nat → Int32) (v_hall_speed : Nat → Int32) (v_hall_payer : Nat → Int32) (v_hall_cost : Nat → Int32) (v_coins : Nat → Int32) (v_chairOf : Nat → Int32) (v_tired : Nat → Int32) (v_hosted : Nat → Int32) (v_owed : Nat → Int32) (v_paid : Nat → Int32) (x1 : Int32) (x2 : Int32) (o_r : Int32) (o_sitting : Int32) (o_taken : Int32) (o_served : Int32) (o_round : Int32) (o_over : Int32) (o_host : Int32) (o_paidInAll : Int32) (o_lot : Int32) (o_coins : Nat → Int32) (o_chairOf : Nat → Int32) (o_tired : Nat → Int32) (o_hosted : Nat → Int32) (o_owed : Nat → Int32) (o_paid : Nat → Int32) (hf : fX1_goDrawn v_hidden v_hall_chairs v_hall_guests v_hall_dishes v_hall_pride v_hall_speed v_hall_payer v_hall_cost v_sitting v_taken v_served v_round v_over v_host v_paidInAll v_lot v_coins v_chairOf v_tired v_hosted v_owed v_paid x1 x2 = some (o_r, o_sitting, o_taken, o_served, o_round, o_over, o_host, o_paidInAll, o_lot, o_coins, o_chairOf, o_tired, o_hosted, o_owed, o_paid)) : Met l yX1_goDrawn uX1_goDrawn ({ frames := 4, cells := 0, slots := 0, locals := 90 }) (va_Pc [.ref h_this, .int x1, .int x2] (fun U => U.heap.size = sz ∧ va_P (dC, dI) vwCl [oX1 h_this h_hall h_coins h_chairOf h_tired h_hosted h_owed h_paid v_sitting v_taken v_served v_hidden v_round v_over v_host v_paidInAll v_lot, oX2 h_hall h_hall_guestName h_hall_coins h_hall_pride h_hall_speed h_hall_place h_hall_payer h_hall_dishName h_hall_cost v_hall_chairs v_hall_guests v_hall_dishes, aI cI h_hall_pride 7 v_hall_pride, aI cI h_hall_speed 7 v_hall_speed, aI cI h_hall_payer 7 v_hall_payer, aI cI h_hall_cost 6 v_hall_cost, aI cI h_coins 7 v_coins, aI cI h_chairOf 7 v_chairOf, aI cI h_tired 7 v_tired, aI cI h_hosted 7 v_hosted, aI cI h_owed 7 v_owed, aI cI h_paid 7 v_paid] U.heap ∧ va_K (dC, dI) vwCl (TYS cI cJ cB cZ cF cG) U ∧ va_D (fun _ => True) [oX1 h_this h_hall h_coins h_chairOf h_tired h_hosted h_owed h_paid v_sitting v_taken v_served v_hidden v_round v_over v_host v_paidInAll v_lot, oX2 h_hall h_hall_guestName h_hall_coins h_hall_pride h_hall_speed h_hall_place h_hall_payer h_hall_dishName h_hall_cost v_hall_chairs v_hall_guests v_hall_dishes, aI cI h_hall_pride 7 v_hall_pride, aI cI h_hall_speed 7 v_hall_speed, aI cI h_hall_payer 7 v_hall_payer, aI cI h_hall_cost 6 v_hall_cost, aI cI h_coins 7 v_coins, aI cI h_chairOf 7 v_chairOf, aI cI h_tired 7 v_tired, aI cI h_hosted 7 v_hosted, aI cI h_owed 7 v_owed, aI cI h_paid 7 v_paid])) (PQi dC dI cI cJ cB cZ cF cG (va_A [oX1 h_this h_hall h_coins h_chairOf h_tired h_hosted h_owed h_paid v_sitting v_taken v_served v_hidden v_round v_over v_host v_paidInAll v_lot, oX2 h_hall h_hall_guestName h_hall_coins h_hall_pride h_hall_speed h_hall_place h_hall_payer h_hall_dishName h_hall_cost v_hall_chairs v_hall_guests v_hall_dishes, aI cI h_hall_pride 7 v_hall_pride, aI cI h_hall_speed 7 v_hall_speed, aI cI h_hall_payer 7 v_hall_payer, aI cI h_hall_cost 6 v_hall_cost, aI cI h_coins 7 v_coins, aI cI h_chairOf 7 v_chairOf, aI cI h_tired 7 v_tired, aI cI h_hosted 7 v_hosted, aI cI h_owed 7 v_owed, aI cI h_paid 7 v_paid] sz) o_r [oX1 h_this h_hall h_coins h_chairOf h_tired h_hosted h_owed h_paid o_sitting o_taken o_served v_hidden o_round o_over o_host o_paidInAll o_lot, oX2 h_hall h_hall_guestName h_hall_coins h_hall_pride h_hall_speed h_hall_place h_hall_payer h_hall_dishName h_hall_cost v_hall_chairs v_hall_guests v_hall_dishes, aI cI h_hall_pride 7 v_hall_pride, aI cI h_hall_speed 7 v_hall_speed, aI cI h_hall_payer 7 v_hall_payer, aI cI h_hall_cost 6 v_hall_cost, aI cI h_coins 7 o_coins, aI cI h_chairOf 7 o_chairOf, aI cI h_tired 7 o_tired, aI cI h_hosted 7 o_hosted, aI cI h_owed 7 o_owed, aI cI h_paid 7 o_paid]) 0 0 (va_A [oX1 h_this h_hall h_coins h_chairOf h_tired h_hosted h_owed h_paid v_sitting v_taken v_served v_hidden v_round v_over v_host v_paidInAll v_lot, oX2 h_hall h_hall_guestName h_hall_coins h_hall_pride h_hall_speed h_hall_place h_hall_payer h_hall_dishName h_hall_cost v_hall_chairs v_hall_guests v_hall_dishes, aI cI h_hall_pride 7 v_hall_pride, aI cI h_hall_speed 7 v_hall_speed, aI cI h_hall_payer 7 v_hall_payer, aI cI h_hall_cost 6 v_hall_cost, aI cI h_coins 7 v_coins, aI cI h_chairOf 7 v_chairOf, aI cI h_tired 7 v_tired, aI cI h_hosted 7 v_hosted, aI cI h_owed 7 v_owed, aI cI h_paid 7 v_paid] sz) := by
  refine Met.ofW (cc := cX1_goDrawn) (maxL := 4) (ret := (some .int)) (by decide) rfl ?_
  intro p e s m args below meth c s₁ B hml hv
  obtain ⟨rfl, hsz, hP, hK, hD0⟩ := hv
  have hx := B.exec
  have hb := B.bytes
  have hr := B.returns
  have hts := atoms_spec (ws := uX1_goDrawn) B.pre
  have hown : s.vm.findClass RX1 = some m.cls := findClass_of_methodNamed B.named
  have hlocks := B.notSynchronized
  subst hsz
  have hD := hD0.self (sz := s.heap.size)
  generalize hAe : va_A [oX1 h_this h_hall h_coins h_chairOf h_tired h_hosted h_owed h_paid v_sitting v_taken v_served v_hidden v_round v_over v_host v_paidInAll v_lot, oX2 h_hall h_hall_guestName h_hall_coins h_hall_pride h_hall_speed h_hall_place h_hall_payer h_hall_dishName h_hall_cost v_hall_chairs v_hall_guests v_hall_dishes, aI cI h_hall_pride 7 v_hall_pride, aI cI h_hall_speed 7 v_hall_speed, aI cI h_hall_payer 7 v_hall_payer, aI cI h_hall_cost 6 v_hall_cost, aI cI h_coins 7 v_coins, aI cI h_chairOf 7 v_chairOf, aI cI h_tired 7 v_tired, aI cI h_hosted 7 v_hosted, aI cI h_owed 7 v_owed, aI cI h_paid 7 v_paid] s.heap.size = A at hD ⊢
  have hA : ∀ q : Nat, s.heap.size ≤ q → A q := fun q h => by rw [← hAe]; exact Or.inr h
  have hS : va_S A s.heap s.heap [] := va_S.rf
  have hl := lv_entry ([.ref h_this, .int x1, .int x2]) (n := 4) (Nat.le_of_ble_eq_true rfl)
  rw [lg_entry_eq]
  generalize (lg_sl ([.ref h_this, .int x1, .int x2]) ++ List.replicate (4 - (lg_sl ([.ref h_this, .int x1, .int x2])).length) Slot.unset).toArray = ls at hl ⊢
  have hl : lv_has ls 4 [(0, .ref h_this), (1, .int x1), (2, .int x2)] := hl
  exact tX1_goDrawn hA ⟨hx, hb, hr, hml, hown, hts, hlocks⟩ ⟨Nat.le_refl _, Nat.le_refl _⟩ h_this h_hall h_hall_pride h_hall_speed h_hall_payer h_hall_cost h_coins h_chairOf h_tired h_hosted h_owed h_paid h_hall_guestName h_hall_coins h_hall_place h_hall_dishName v_hidden v_hall_chairs v_hall_guests v_hall_dishes v_hall_pride v_hall_speed v_hall_payer v_hall_cost o_r o_sitting o_taken o_served o_round o_over o_host o_paidInAll o_lot o_coins o_chairOf o_tired o_hosted o_owed o_paid v_sitting v_taken v_served v_round v_over v_host v_paidInAll v_lot v_coins v_chairOf v_tired v_hosted v_owed v_paid x1 x2 hf _ _ ⟨hK, hP, hD, hS⟩ ls hl
