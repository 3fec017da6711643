def XB : List Cond := [.castable "java/util/NoSuchElementException" "java/util/NoSuchElementException", .declares (Bundle.initS "java/lang/RuntimeException"), .declares (Bundle.initS "java/lang/Exception"), .declares (Bundle.initS Bundle.tN)]
theorem XA_bad : ∀ w ∈ XA.filter (fun w => !goodWord w), w ∈ XB := by decide +kernel
theorem XB_t : ∀ w ∈ XB, w.onTables = true := by decide +kernel
theorem XB_c : ∀ w ∈ XB, (∃ a b, w = .castable a b) ∨ ∃ x, w = .declares x := fun w h => by
  rcases List.mem_cons.mp h with rfl | h
  · exact Or.inl ⟨_, _, rfl⟩
  · rcases List.mem_cons.mp h with rfl | h
    · exact Or.inr ⟨_, rfl⟩
    · rcases List.mem_cons.mp h with rfl | h
      · exact Or.inr ⟨_, rfl⟩
      · exact Or.inr ⟨_, List.mem_singleton.mp h⟩
theorem XA_ot : ∀ w ∈ Cond.classLink RX11 140 "java/util/NoSuchElementException" :: Cond.initialized "java/util/NoSuchElementException" :: XA, vx_ot w = true := by decide +kernel
theorem XN_fit : ∀ n ∈ XN, Bundle.fit n = true := by decide +kernel
def CX (U : State) : Prop := ∀ w ∈ XB, w.before #[] U = true
theorem CX.word {a : Array Value} {u U : State} (h : u.vm.Alike U.vm) (c : CX u) : ∀ w ∈ XB, w.before a U = true := by
  intro w hw
  have h0 := c w hw
  have h1 : w.before #[] (u.setVm U.vm) = true := by
    rcases XB_c w hw with ⟨x, y, rfl⟩ | ⟨x, rfl⟩
    · rw [Cond.castable_setVm h]; exact h0
    · rw [Cond.declares_setVm h]; exact h0
  exact va_tabs (u := u.setVm U.vm) (XB_t w hw) rfl h1
def ThE (A : Nat → Prop) (U : State) (H : Heap) (t1 t2 t3 : String) (s1 s2 s3 : Nat) : Prop :=
  vx_Zq Bundle.tN "UNASSIGNED_STACK" Bundle.steD A U H ∧ vx_Zq Bundle.tN "SUPPRESSED_SENTINEL" Bundle.listD A U H ∧ CX U ∧ vk_R RX11 142 t1 s1 U ∧ vk_R RX11 178 t2 s2 U ∧ vk_R RX11 315 t3 s3 U
theorem ThE.warm {A : Nat → Prop} {u U : State} {H : Heap} {t1 t2 t3 : String} {s1 s2 s3 : Nat} (hW : u.WarmedH U.vm) (h : ThE A u H t1 t2 t3 s1 s2 s3) : ThE A U H t1 t2 t3 s1 s2 s3 :=
  ⟨h.1.moved hW.alike, h.2.1.moved hW.alike, CX.word hW.alike h.2.2.1, h.2.2.2.1.warm hW, h.2.2.2.2.1.warm hW, h.2.2.2.2.2.warm hW⟩
theorem ThE.call {A : Nat → Prop} {U : State} {g : JFrame} {mk : MethodId} {a : Array Value} {H : Heap} {t1 t2 t3 : String} {s1 s2 s3 : Nat} (h : ThE A U H t1 t2 t3 s1 s2 s3) : ThE A (U.calling g mk a) H t1 t2 t3 s1 s2 s3 :=
  ⟨h.1.moved (u := U) (Vm.Alike.refl U.vm), h.2.1.moved (u := U) (Vm.Alike.refl U.vm), CX.word (u := U) (Vm.Alike.refl U.vm) h.2.2.1, h.2.2.2.1.same (u := U) rfl, h.2.2.2.2.1.same (u := U) rfl, h.2.2.2.2.2.same (u := U) rfl⟩
theorem ThE.at {A B : Nat → Prop} {U : State} {H H1 : Heap} {t1 t2 t3 : String} {s1 s2 s3 : Nat} (h : ThE A U H t1 t2 t3 s1 s2 s3) (hq : ∀ a : Nat, a < H.size → ¬ A a → H1[a]? = H[a]?) (hAB : ∀ q, B q → A q) : ThE B U H1 t1 t2 t3 s1 s2 s3 :=
  ⟨(h.1.kept hq).narrow hAB, (h.2.1.kept hq).narrow hAB, h.2.2⟩
abbrev XQ (dC : Nat → ClassId) (dI : Nat → Nat → Nat) (cI cJ cB cZ cF cG : ClassId) (A : Nat → Prop) (wo : va_W) : String → State → State → Prop :=
  vx_X (fun (_ : Unit) => True) (fun E _ t => E = "java/util/NoSuchElementException" ∧ va_P (dC, dI) vwCl wo t.heap ∧ va_K (dC, dI) vwCl (TYS cI cJ cB cZ cF cG) t ∧ va_D A wo) A
theorem XQ.mk {dC : Nat → ClassId} {dI : Nat → Nat → Nat} {cI cJ cB cZ cF cG : ClassId} {A : Nat → Prop} {wo : va_W} {s : State} {H : Heap} {locs : List Loc} (hK : va_K (dC, dI) vwCl (TYS cI cJ cB cZ cF cG) s) (hP : va_P (dC, dI) vwCl wo H) (hD : va_D A wo) (hS : va_S A s.heap H locs) (t : State) (hvm : s.vm.Alike t.vm) (hz : H.size ≤ t.heap.size) (hk : ∀ q : Nat, q < H.size → t.heap[q]? = H[q]?) : XQ dC dI cI cJ cB cZ cF cG A wo "java/util/NoSuchElementException" s t :=
  ⟨(), trivial, ⟨rfl, hP.kept (fun k q h => hk _ (vx_lt hP h)), va_K.moved hvm hK, hD⟩, Nat.le_trans hS.1 hz, fun q h1 h2 => (hk q (Nat.lt_of_lt_of_le h1 hS.1)).trans (hS.2.1 q h1 h2)⟩
def uT_guest : List Cond := .code yX11_guest cX11_guest 3 (some .int) :: (wsU ++ XA.filter goodWord)
set_option maxHeartbeats 4000000 in
set_option maxRecDepth 100000 in
theorem xX11_guest (l : Launch) (hnt : l.stackTraces = false) (dC : Nat → ClassId) (dI : Nat → Nat → Nat) (cI cJ cB cZ cF cG : ClassId) (h_this h_tape h_written h_hallNow h_feast h_hallText h_acts h_seer h_ledger h_saying h_sayingText h_images h_hallNow_guestName h_hallNow_coins h_hallNow_pride h_hallNow_speed h_hallNow_place h_hallNow_payer h_hallNow_dishName h_hallNow_cost : Nat) (sz : Nat) (v_lastFault v_hallNow_chairs v_hallNow_guests v_hallNow_dishes : Int32) (x1 x2 : Int32) (t1 t2 t3 : String) (s1 s2 s3 : Nat) (r_1 : Int32) (ho : fX2_hasGuest v_hallNow_guests x1 = some r_1) (hcase : r_1 = 0 ∨ (x2.toInt < 0 ∨ 9 < x2.toInt)) : vx_Met l yX11_guest uT_guest ({ frames := 6, cells := 1, slots := 6, locals := 110 }) (va_Pc [.ref h_this, .int x1, .int x2] (fun U => U.heap.size = sz ∧ va_P (dC, dI) vwCl [oX11 h_this h_tape h_written h_hallNow h_feast h_hallText h_acts h_seer h_ledger h_saying h_sayingText h_images v_lastFault, oX2 h_hallNow h_hallNow_guestName h_hallNow_coins h_hallNow_pride h_hallNow_speed h_hallNow_place h_hallNow_payer h_hallNow_dishName h_hallNow_cost v_hallNow_chairs v_hallNow_guests v_hallNow_dishes] U.heap ∧ va_K (dC, dI) vwCl (TYS cI cJ cB cZ cF cG) U ∧ va_D (fun _ => True) [oX11 h_this h_tape h_written h_hallNow h_feast h_hallText h_acts h_seer h_ledger h_saying h_sayingText h_images v_lastFault, oX2 h_hallNow h_hallNow_guestName h_hallNow_coins h_hallNow_pride h_hallNow_speed h_hallNow_place h_hallNow_payer h_hallNow_dishName h_hallNow_cost v_hallNow_chairs v_hallNow_guests v_hallNow_dishes] ∧ ThE (va_A [oX11 h_this h_tape h_written h_hallNow h_feast h_hallText h_acts h_seer h_ledger h_saying h_sayingText h_images v_lastFault, oX2 h_hallNow h_hallNow_guestName h_hallNow_coins h_hallNow_pride h_hallNow_speed h_hallNow_place h_hallNow_payer h_hallNow_dishName h_hallNow_cost v_hallNow_chairs v_hallNow_guests v_hallNow_dishes] sz) U U.heap t1 t2 t3 s1 s2 s3)) (fun _ _ _ _ => False) (XQ dC dI cI cJ cB cZ cF cG (va_A [oX11 h_this h_tape h_written h_hallNow h_feast h_hallText h_acts h_seer h_ledger h_saying h_sayingText h_images v_lastFault, oX2 h_hallNow h_hallNow_guestName h_hallNow_coins h_hallNow_pride h_hallNow_speed h_hallNow_place h_hallNow_payer h_hallNow_dishName h_hallNow_cost v_hallNow_chairs v_hallNow_guests v_hallNow_dishes] sz) [oX11 h_this h_tape h_written h_hallNow h_feast h_hallText h_acts h_seer h_ledger h_saying h_sayingText h_images v_lastFault, oX2 h_hallNow h_hallNow_guestName h_hallNow_coins h_hallNow_pride h_hallNow_speed h_hallNow_place h_hallNow_payer h_hallNow_dishName h_hallNow_cost v_hallNow_chairs v_hallNow_guests v_hallNow_dishes]) 1 6 (va_A [oX11 h_this h_tape h_written h_hallNow h_feast h_hallText h_acts h_seer h_ledger h_saying h_sayingText h_images v_lastFault, oX2 h_hallNow h_hallNow_guestName h_hallNow_coins h_hallNow_pride h_hallNow_speed h_hallNow_place h_hallNow_payer h_hallNow_dishName h_hallNow_cost v_hallNow_chairs v_hallNow_guests v_hallNow_dishes] sz) := by
  refine vx_ofW (cc := cX11_guest) (maxL := 3) (ret := (some .int)) (by decide) rfl ?_
  intro p e s m args below meth c s₁ B hml htab hv
  obtain ⟨rfl, hsz, hP, hK, hD0, hT⟩ := hv
  have hx := B.exec
  have hb := B.bytes
  have hts9 := atoms_spec (ws := uT_guest) B.pre
  have hts : ∀ w ∈ uX11_guest, w.before _ s = true := fun w h => hts9 w ((List.mem_cons.mp h).elim (fun e => List.mem_cons.mpr (Or.inl e)) (fun h => List.mem_cons_of_mem _ (List.mem_append_left _ h)))
  have hat : ∀ w ∈ XA, w.before _ s = true := vx_hat (fun w h => hts9 w (List.mem_cons_of_mem _ (List.mem_append_right _ h))) XA_bad (CX.word (u := s) (Vm.Alike.refl s.vm) hT.2.2.1)
  have hown : s.vm.findClass RX11 = some m.cls := findClass_of_methodNamed B.named
  have hlocks := B.notSynchronized
  have hR : 6 ≤ (headSpec uT_guest ({ frames := 6, cells := 1, slots := 6, locals := 110 })).room.frames ∧ 110 ≤ (headSpec uT_guest ({ frames := 6, cells := 1, slots := 6, locals := 110 })).room.locals := ⟨Nat.le_refl _, Nat.le_refl _⟩
  subst hsz
  have hD := hD0.self (sz := s.heap.size)
  obtain ⟨hT1, hT2, hT3, hT4, hT5, hT6⟩ := hT
  generalize hAe : va_A [oX11 h_this h_tape h_written h_hallNow h_feast h_hallText h_acts h_seer h_ledger h_saying h_sayingText h_images v_lastFault, oX2 h_hallNow h_hallNow_guestName h_hallNow_coins h_hallNow_pride h_hallNow_speed h_hallNow_place h_hallNow_payer h_hallNow_dishName h_hallNow_cost v_hallNow_chairs v_hallNow_guests v_hallNow_dishes] s.heap.size = A at hD hT1 hT2 ⊢
  have hA : ∀ q : Nat, s.heap.size ≤ q → A q := fun q h => by rw [← hAe]; exact Or.inr h
  have hS : va_S A s.heap s.heap [] := va_S.rf
  have hl := lv_entry ([.ref h_this, .int x1, .int x2]) (n := 3) (Nat.le_of_ble_eq_true rfl)
  rw [lg_entry_eq]
  generalize (lg_sl ([.ref h_this, .int x1, .int x2]) ++ List.replicate (3 - (lg_sl ([.ref h_this, .int x1, .int x2])).length) Slot.unset).toArray = ls at hl ⊢
  have hl : lv_has ls 3 [(0, .ref h_this), (1, .int x1), (2, .int x2)] := hl
  refine lv_aload_n hx hb dX11_guest_0 rfl (lv_at hl 0 rfl) ?_
  refine va_get (D := (dC, dI)) (ci := 11) (v := .ref h_hallNow) (C := RX11) (T := TX11) (N := 12) hx hb hts (fun w h => List.mem_cons_of_mem _ (inU_11 w h)) hown hK hP 0 rfl rfl 2 (by decide) (hts _ (List.mem_cons_of_mem _ U_24)) (fun _ h9 => h9) rfl dX11_guest_1 ?_
  refine lv_iload_n hx hb dX11_guest_4 rfl (lv_at hl 1 rfl) ?_
  have hPc := hP.sub (ws' := [oX2 h_hallNow h_hallNow_guestName h_hallNow_coins h_hallNow_pride h_hallNow_speed h_hallNow_place h_hallNow_payer h_hallNow_dishName h_hallNow_cost v_hallNow_chairs v_hallNow_guests v_hallNow_dishes]) [1] rfl
  have hDc := hD.sub (ws' := [oX2 h_hallNow h_hallNow_guestName h_hallNow_coins h_hallNow_pride h_hallNow_speed h_hallNow_place h_hallNow_payer h_hallNow_dishName h_hallNow_cost v_hallNow_chairs v_hallNow_guests v_hallNow_dishes]) [1] (by decide) rfl
  have hFc := va_free (wc := [oX2 h_hallNow h_hallNow_guestName h_hallNow_coins h_hallNow_pride h_hallNow_speed h_hallNow_place h_hallNow_payer h_hallNow_dishName h_hallNow_cost v_hallNow_chairs v_hallNow_guests v_hallNow_dishes]) hD hS hA [1] rfl
  refine va_calli (va_runV (As := [.int x1]) (rest := []) ⟨hx, hb, hml, hown, hts⟩ (mX2_hasGuest l dC dI cI cJ cB cZ cF cG h_hallNow h_hallNow_guestName h_hallNow_coins h_hallNow_pride h_hallNow_speed h_hallNow_place h_hallNow_payer h_hallNow_dishName h_hallNow_cost s.heap.size v_hallNow_chairs v_hallNow_guests v_hallNow_dishes x1 r_1 ho) (cwV 1 hts (goodV U_585 U_586 U_587 U_23 U_588) rfl rfl rfl (by decide +kernel) ⟨Nat.le_trans (by decide) hR.1, Nat.le_trans (Nat.le_of_ble_eq_true rfl) hR.2⟩) ⟨fun a U g mk q => by obtain ⟨q0, q1, qP, qK, qD⟩ := q; exact ⟨q0, q1, qP, va_K.moved (u := U) (U := U.calling g mk a) (Vm.Alike.refl U.vm) qK, qD⟩, va_recv hK hPc (ci := 2) (q0 := 0) rfl rfl, fun U hU hW => ⟨rfl, by rw [hU], by rw [hU]; exact hPc, va_K.moved hW.alike hK, hDc.weaken (fun _ _ _ _ => trivial)⟩⟩ rfl rfl hl.1 rfl (lv_room (Nat.le_of_ble_eq_true rfl)) dX11_guest_5 ⟨Nat.zero_le _, Nat.zero_le _⟩) hS (fun q _ h => hFc q h) hFc (fun rz u t H1 locs ht hvm hw hB hz1 hk1 hS => ?_)
  obtain ⟨hP1, hK1, hD1⟩ := hB
  obtain ⟨hw, hz_1⟩ := hw
  have hw := hw.symm; subst hw
  rw [ht] at hP1
  obtain ⟨hP, hD⟩ := va_join (wr := [oX11 h_this h_tape h_written h_hallNow h_feast h_hallText h_acts h_seer h_ledger h_saying h_sayingText h_images v_lastFault]) (w1 := [oX2 h_hallNow h_hallNow_guestName h_hallNow_coins h_hallNow_pride h_hallNow_speed h_hallNow_place h_hallNow_payer h_hallNow_dishName h_hallNow_cost v_hallNow_chairs v_hallNow_guests v_hallNow_dishes]) hP hD [1] [0] rfl rfl (by decide) (by decide) hk1 hFc hP1 hD1
  generalize H1 = H at hP hS ⊢
  have hP := hP.sub (ws' := [oX11 h_this h_tape h_written h_hallNow h_feast h_hallText h_acts h_seer h_ledger h_saying h_sayingText h_images v_lastFault, oX2 h_hallNow h_hallNow_guestName h_hallNow_coins h_hallNow_pride h_hallNow_speed h_hallNow_place h_hallNow_payer h_hallNow_dishName h_hallNow_cost v_hallNow_chairs v_hallNow_guests v_hallNow_dishes]) [0, 1] rfl
  have hD := hD.sub (ws' := [oX11 h_this h_tape h_written h_hallNow h_feast h_hallText h_acts h_seer h_ledger h_saying h_sayingText h_images v_lastFault, oX2 h_hallNow h_hallNow_guestName h_hallNow_coins h_hallNow_pride h_hallNow_speed h_hallNow_place h_hallNow_payer h_hallNow_dishName h_hallNow_cost v_hallNow_chairs v_hallNow_guests v_hallNow_dishes]) [0, 1] (by decide) rfl
  refine lv_if_ne (tgt := 21) hx hb dX11_guest_8 (by decide) (fun hc => ?_) (fun hc => ?_)
  · refine lv_iload_n hx hb dX11_guest_21 rfl (lv_at hl 2 rfl) ?_
    refine lv_tableOut (tgt := 183) hx hb dX11_guest_22 (hcase.elim (fun h => absurd h hc) (fun h => by omega)) (by decide) ?_
    exact vx_throwSX (A := A) (names := XN) (ik := 140) (is := 178) (ic := 144) (cls := "java/util/NoSuchElementException") (Ys := "java/lang/RuntimeException") (ix := 13) (rx := six13) hx hb hnt s13_0 s13_1 s13_2 s13_5 hown (by decide +kernel) (by decide +kernel) XN_fit (hts _ (List.mem_cons_of_mem _ U_574)) (hts _ (List.mem_cons_of_mem _ U_575)) hT5 hat XA_ot hT1 hT2 hS (hl.1.trans hml.symm) dX11_guest_183 dX11_guest_186 dX11_guest_187 dX11_guest_189 dX11_guest_192 (fun x hx9 => (htab x hx9).elim) (Nat.lt_of_lt_of_le (by decide) hR.1) (Nat.le_trans (by decide) hR.2) (Nat.le_refl _) (Nat.le_refl _) hlocks (XQ.mk hK hP hD hS) hS.2.2 (Nat.le_refl _) (Nat.le_refl _)
  · exact vx_throwSX (A := A) (names := XN) (ik := 140) (is := 142) (ic := 144) (cls := "java/util/NoSuchElementException") (Ys := "java/lang/RuntimeException") (ix := 13) (rx := six13) hx hb hnt s13_0 s13_1 s13_2 s13_5 hown (by decide +kernel) (by decide +kernel) XN_fit (hts _ (List.mem_cons_of_mem _ U_574)) (hts _ (List.mem_cons_of_mem _ U_575)) hT4 hat XA_ot hT1 hT2 hS (hl.1.trans hml.symm) dX11_guest_11 dX11_guest_14 dX11_guest_15 dX11_guest_17 dX11_guest_20 (fun x hx9 => (htab x hx9).elim) (Nat.lt_of_lt_of_le (by decide) hR.1) (Nat.le_trans (by decide) hR.2) (Nat.le_refl _) (Nat.le_refl _) hlocks (XQ.mk hK hP hD hS) hS.2.2 (Nat.le_refl _) (Nat.le_refl _)
def uT_mean : List Cond := .code yX11_mean cX11_mean 5 (some .int) :: (wsU ++ XA.filter goodWord)
set_option maxHeartbeats 4000000 in
set_option maxRecDepth 100000 in
theorem xX11_mean (l : Launch) (hnt : l.stackTraces = false) (dC : Nat → ClassId) (dI : Nat → Nat → Nat) (cI cJ cB cZ cF cG : ClassId) (h_this h_tape h_written h_hallNow h_feast h_hallText h_acts h_seer h_ledger h_saying h_sayingText h_images h_hallNow_guestName h_hallNow_coins h_hallNow_pride h_hallNow_speed h_hallNow_place h_hallNow_payer h_hallNow_dishName h_hallNow_cost : Nat) (sz : Nat) (v_lastFault v_hallNow_chairs v_hallNow_guests v_hallNow_dishes : Int32) (x1 : Int32) (t1 t2 t3 : String) (s1 s2 s3 : Nat) (hcase : v_hallNow_guests < 1 ∨ x1 < 0 ∨ ¬ x1 ≤ 1) : vx_Met l yX11_mean uT_mean ({ frames := 6, cells := 1, slots := 6, locals := 110 }) (va_Pc [.ref h_this, .int x1] (fun U => U.heap.size = sz ∧ va_P (dC, dI) vwCl [oX11 h_this h_tape h_written h_hallNow h_feast h_hallText h_acts h_seer h_ledger h_saying h_sayingText h_images v_lastFault, oX2 h_hallNow h_hallNow_guestName h_hallNow_coins h_hallNow_pride h_hallNow_speed h_hallNow_place h_hallNow_payer h_hallNow_dishName h_hallNow_cost v_hallNow_chairs v_hallNow_guests v_hallNow_dishes] U.heap ∧ va_K (dC, dI) vwCl (TYS cI cJ cB cZ cF cG) U ∧ va_D (fun _ => True) [oX11 h_this h_tape h_written h_hallNow h_feast h_hallText h_acts h_seer h_ledger h_saying h_sayingText h_images v_lastFault, oX2 h_hallNow h_hallNow_guestName h_hallNow_coins h_hallNow_pride h_hallNow_speed h_hallNow_place h_hallNow_payer h_hallNow_dishName h_hallNow_cost v_hallNow_chairs v_hallNow_guests v_hallNow_dishes] ∧ ThE (va_A [oX11 h_this h_tape h_written h_hallNow h_feast h_hallText h_acts h_seer h_ledger h_saying h_sayingText h_images v_lastFault, oX2 h_hallNow h_hallNow_guestName h_hallNow_coins h_hallNow_pride h_hallNow_speed h_hallNow_place h_hallNow_payer h_hallNow_dishName h_hallNow_cost v_hallNow_chairs v_hallNow_guests v_hallNow_dishes] sz) U U.heap t1 t2 t3 s1 s2 s3)) (fun _ _ _ _ => False) (XQ dC dI cI cJ cB cZ cF cG (va_A [oX11 h_this h_tape h_written h_hallNow h_feast h_hallText h_acts h_seer h_ledger h_saying h_sayingText h_images v_lastFault, oX2 h_hallNow h_hallNow_guestName h_hallNow_coins h_hallNow_pride h_hallNow_speed h_hallNow_place h_hallNow_payer h_hallNow_dishName h_hallNow_cost v_hallNow_chairs v_hallNow_guests v_hallNow_dishes] sz) [oX11 h_this h_tape h_written h_hallNow h_feast h_hallText h_acts h_seer h_ledger h_saying h_sayingText h_images v_lastFault, oX2 h_hallNow h_hallNow_guestName h_hallNow_coins h_hallNow_pride h_hallNow_speed h_hallNow_place h_hallNow_payer h_hallNow_dishName h_hallNow_cost v_hallNow_chairs v_hallNow_guests v_hallNow_dishes]) 1 6 (va_A [oX11 h_this h_tape h_written h_hallNow h_feast h_hallText h_acts h_seer h_ledger h_saying h_sayingText h_images v_lastFault, oX2 h_hallNow h_hallNow_guestName h_hallNow_coins h_hallNow_pride h_hallNow_speed h_hallNow_place h_hallNow_payer h_hallNow_dishName h_hallNow_cost v_hallNow_chairs v_hallNow_guests v_hallNow_dishes] sz) := by
  refine vx_ofW (cc := cX11_mean) (maxL := 5) (ret := (some .int)) (by decide) rfl ?_
  intro p e s m args below meth c s₁ B hml htab hv
  obtain ⟨rfl, hsz, hP, hK, hD0, hT⟩ := hv
  have hx := B.exec
  have hb := B.bytes
  have hts9 := atoms_spec (ws := uT_mean) B.pre
  have hts : ∀ w ∈ uX11_mean, w.before _ s = true := fun w h => hts9 w ((List.mem_cons.mp h).elim (fun e => List.mem_cons.mpr (Or.inl e)) (fun h => List.mem_cons_of_mem _ (List.mem_append_left _ h)))
  have hat : ∀ w ∈ XA, w.before _ s = true := vx_hat (fun w h => hts9 w (List.mem_cons_of_mem _ (List.mem_append_right _ h))) XA_bad (CX.word (u := s) (Vm.Alike.refl s.vm) hT.2.2.1)
  have hown : s.vm.findClass RX11 = some m.cls := findClass_of_methodNamed B.named
  have hlocks := B.notSynchronized
  have hR : 6 ≤ (headSpec uT_mean ({ frames := 6, cells := 1, slots := 6, locals := 110 })).room.frames ∧ 110 ≤ (headSpec uT_mean ({ frames := 6, cells := 1, slots := 6, locals := 110 })).room.locals := ⟨Nat.le_refl _, Nat.le_refl _⟩
  subst hsz
  have hD := hD0.self (sz := s.heap.size)
  obtain ⟨hT1, hT2, hT3, hT4, hT5, hT6⟩ := hT
  generalize hAe : va_A [oX11 h_this h_tape h_written h_hallNow h_feast h_hallText h_acts h_seer h_ledger h_saying h_sayingText h_images v_lastFault, oX2 h_hallNow h_hallNow_guestName h_hallNow_coins h_hallNow_pride h_hallNow_speed h_hallNow_place h_hallNow_payer h_hallNow_dishName h_hallNow_cost v_hallNow_chairs v_hallNow_guests v_hallNow_dishes] s.heap.size = A at hD hT1 hT2 ⊢
  have hA : ∀ q : Nat, s.heap.size ≤ q → A q := fun q h => by rw [← hAe]; exact Or.inr h
  have hS : va_S A s.heap s.heap [] := va_S.rf
  have hl := lv_entry ([.ref h_this, .int x1]) (n := 5) (Nat.le_of_ble_eq_true rfl)
  rw [lg_entry_eq]
  generalize (lg_sl ([.ref h_this, .int x1]) ++ List.replicate (5 - (lg_sl ([.ref h_this, .int x1])).length) Slot.unset).toArray = ls at hl ⊢
  have hl : lv_has ls 5 [(0, .ref h_this), (1, .int x1)] := hl
  refine lv_aload_n hx hb dX11_mean_0 rfl (lv_at hl 0 rfl) ?_
  refine va_get (D := (dC, dI)) (ci := 11) (v := .ref h_hallNow) (C := RX11) (T := TX11) (N := 12) hx hb hts (fun w h => List.mem_cons_of_mem _ (inU_11 w h)) hown hK hP 0 rfl rfl 2 (by decide) (hts _ (List.mem_cons_of_mem _ U_24)) (fun _ h9 => h9) rfl dX11_mean_1 ?_
  refine va_get (D := (dC, dI)) (ci := 2) (v := .int v_hallNow_guests) (C := RX2) (T := TX2) (N := 11) hx hb hts (fun w h => List.mem_cons_of_mem _ (inU_2 w h)) hown hK hP 1 rfl rfl 9 (by decide) (hts _ (List.mem_cons_of_mem _ U_1139)) (fun _ h9 => h9) rfl dX11_mean_4 ?_
  refine lv_istore_n (lv' := [(2, .int v_hallNow_guests), (0, .ref h_this), (1, .int x1)]) hx hb dX11_mean_7 rfl hl (by decide) rfl (fun ls hl => ?_)
  refine lv_iload_n hx hb dX11_mean_8 rfl (lv_at hl 0 rfl) ?_
  refine z_pc (pc' := 9) rfl ?_
  refine lv_iconst (v := 1) hx hb dX11_mean_9 (by decide) ?_
  refine lv_icmp_lt (tgt := 22) hx hb dX11_mean_10 (by decide) (fun hc => ?_) (fun hc1 => ?_)
  · exact vx_throwSWX (A := A) (names := XN) (ik := 140) (is := 315) (ic := 144) (cls := "java/util/NoSuchElementException") (Ys := "java/lang/RuntimeException") (ix := 13) (rx := six13) hx hb hnt s13_0 s13_1 s13_2 s13_5 hown (by decide +kernel) (by decide +kernel) XN_fit (hts _ (List.mem_cons_of_mem _ U_574)) (hts _ (List.mem_cons_of_mem _ U_575)) hT6 hat XA_ot hT1 hT2 hS (hl.1.trans hml.symm) dX11_mean_22 dX11_mean_25 dX11_mean_26 dX11_mean_29 dX11_mean_32 (fun x hx9 => (htab x hx9).elim) (Nat.lt_of_lt_of_le (by decide) hR.1) (Nat.le_trans (by decide) hR.2) (Nat.le_refl _) (Nat.le_refl _) hlocks (XQ.mk hK hP hD hS) hS.2.2 (Nat.le_refl _) (Nat.le_refl _)
  · refine lv_iload_n hx hb dX11_mean_13 rfl (lv_at hl 2 rfl) ?_
    refine lv_if_lt (tgt := 22) hx hb dX11_mean_14 (by decide) (fun hc => ?_) (fun hc2 => ?_)
    · exact vx_throwSWX (A := A) (names := XN) (ik := 140) (is := 315) (ic := 144) (cls := "java/util/NoSuchElementException") (Ys := "java/lang/RuntimeException") (ix := 13) (rx := six13) hx hb hnt s13_0 s13_1 s13_2 s13_5 hown (by decide +kernel) (by decide +kernel) XN_fit (hts _ (List.mem_cons_of_mem _ U_574)) (hts _ (List.mem_cons_of_mem _ U_575)) hT6 hat XA_ot hT1 hT2 hS (hl.1.trans hml.symm) dX11_mean_22 dX11_mean_25 dX11_mean_26 dX11_mean_29 dX11_mean_32 (fun x hx9 => (htab x hx9).elim) (Nat.lt_of_lt_of_le (by decide) hR.1) (Nat.le_trans (by decide) hR.2) (Nat.le_refl _) (Nat.le_refl _) hlocks (XQ.mk hK hP hD hS) hS.2.2 (Nat.le_refl _) (Nat.le_refl _)
    · refine lv_iload_n hx hb dX11_mean_17 rfl (lv_at hl 2 rfl) ?_
      refine lv_iconst (v := 1) hx hb dX11_mean_18 (by decide) ?_
      refine lv_icmp_le (tgt := 33) hx hb dX11_mean_19 (by decide) (fun hc => ?_) (fun hc => ?_)
      · exact absurd hcase (fun h => h.elim hc1 (fun h => h.elim hc2 (fun h => h hc)))
      · exact vx_throwSWX (A := A) (names := XN) (ik := 140) (is := 315) (ic := 144) (cls := "java/util/NoSuchElementException") (Ys := "java/lang/RuntimeException") (ix := 13) (rx := six13) hx hb hnt s13_0 s13_1 s13_2 s13_5 hown (by decide +kernel) (by decide +kernel) XN_fit (hts _ (List.mem_cons_of_mem _ U_574)) (hts _ (List.mem_cons_of_mem _ U_575)) hT6 hat XA_ot hT1 hT2 hS (hl.1.trans hml.symm) dX11_mean_22 dX11_mean_25 dX11_mean_26 dX11_mean_29 dX11_mean_32 (fun x hx9 => (htab x hx9).elim) (Nat.lt_of_lt_of_le (by decide) hR.1) (Nat.le_trans (by decide) hR.2) (Nat.le_refl _) (Nat.le_refl _) hlocks (XQ.mk hK hP hD hS) hS.2.2 (Nat.le_refl _) (Nat.le_refl _)
