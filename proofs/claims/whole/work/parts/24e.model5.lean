-- LastSeatModel.isLeaf(IIII)Z
def uX12_isLeaf : List Cond := .code yX12_isLeaf cX12_isLeaf 6 (some .boolean) :: wsU
set_option maxHeartbeats 4000000 in
set_option maxRecDepth 100000 in
theorem tX12_isLeaf_185 {p : Program} {l : Launch} {e : Env} {R : Room} {s : State} {m : MethodId} {args : Array Value} {below : List Frame} {meth : Method} {c : Code} {dC : Nat → ClassId} {dI : Nat → Nat → Nat} {cI cJ cB cZ cF cG : ClassId} {A : Nat → Prop} (hA : ∀ q : Nat, s.heap.size ≤ q → A q) (C0 : Cx p s m meth c args cX12_isLeaf 6 (some .boolean) RX12 uX12_isLeaf) (hR : 2 ≤ R.frames ∧ 42 ≤ R.locals) (h_this : Nat) (h_s : Nat) (h_tape : Nat) (h_h : Nat) (h_read : Nat) (h_names : Nat) (h_reserved : Nat) (h_undone : Nat) (h_before : Nat) (h_purse : Nat) (h_hostRow : Nat) (h_text : Nat) (h_toldAt : Nat) (h_stack : Nat) (h_truths : Nat) (h_imaged : Nat) (h_namesKept : Nat) (h_areKept : Nat) (v_thrown : Int32) (v_length : Int32) (v_size : Int32) (v_p : Int32) (v_limit : Int32) (v_token : Int32) (v_at : Int32) (v_span : Int32) (v_number : Int32) (v_fault : Int32) (v_faultAt : Int32) (v_word : Int64) (v_got : Int32) (v_lines : Int32) (v_hasChairs : Int32) (v_undoMany : Int32) (v_hostIn : Int32) (v_nextMany : Int32) (v_trickSet : Int32) (v_pushSet : Int32) (v_hasTrick : Int32) (v_hasPush : Int32) (v_hostMany : Int32) (v_menuSet : Int32) (v_watchTired : Int32) (v_hasProud : Int32) (v_textMany : Int32) (v_seed : Int32) (v_toldMany : Int32) (v_hasTold : Int32) (v_codes : Int32) (v_ones : Int32) (v_top : Int32) (v_deep : Int32) (v_isWhole : Int32) (v_s : Nat → Int32) (o_r : Int32) :
    ∀ (x3 : Int32) (x4 : Int32) (y0 : Int32), bX12_isLeaf_185 v_s x3 x4 y0 = some o_r → ∀ (H : Heap) (locs : List Loc), Wd dC dI cI cJ cB cZ cF cG A s H locs [oX12 h_this v_thrown h_tape v_length v_size v_p v_limit h_s h_h h_read h_names h_reserved v_token v_at v_span v_number v_fault v_faultAt v_word v_got v_lines v_hasChairs h_undone h_before v_undoMany v_hostIn v_nextMany v_trickSet v_pushSet v_hasTrick v_hasPush h_purse h_hostRow v_hostMany v_menuSet v_watchTired v_hasProud h_text v_textMany v_seed v_toldMany h_toldAt v_hasTold h_stack v_codes v_ones v_top v_deep v_isWhole h_truths h_imaged h_namesKept h_areKept, aI cI h_s 273 v_s] → ∀ (ls : Array Slot), lv_has ls 6 [(3, .int x3), (4, .int x4)] → W p l e R s m args below meth c H locs 0 0 (MQ below (PQz dC dI cI cJ cB cZ cF cG A o_r [oX12 h_this v_thrown h_tape v_length v_size v_p v_limit h_s h_h h_read h_names h_reserved v_token v_at v_span v_number v_fault v_faultAt v_word v_got v_lines v_hasChairs h_undone h_before v_undoMany v_hostIn v_nextMany v_trickSet v_pushSet v_hasTrick v_hasPush h_purse h_hostRow v_hostMany v_menuSet v_watchTired v_hasProud h_text v_textMany v_seed v_toldMany h_toldAt v_hasTold h_stack v_codes v_ones v_top v_deep v_isWhole h_truths h_imaged h_namesKept h_areKept, aI cI h_s 273 v_s]) args s 0 0 A) (F0 m 185 ls [.int y0]) := by
  obtain ⟨hx, hb, hrt, hml, hown, hts, hlocks⟩ := id C0
  intro x3 x4 y0 hr H locs hW ls hl
  obtain ⟨hK, hP, hD, hS⟩ := hW
  have hr : (if x3 = 60 then if x4 ≤ y0 then some 0 else some 1 else if x3 = 61 then if y0 = x4 then some 1 else some 0 else if y0 ≤ x4 then some 0 else some 1 : Option (Int32)) = some o_r := hr
  refine lv_istore (lv' := [(5, .int y0), (3, .int x3), (4, .int x4)]) hx hb dX12_isLeaf_185 hl (by decide) rfl (fun ls hl => ?_)
  refine lv_iload_n hx hb dX12_isLeaf_187 rfl (lv_at hl 1 rfl) ?_
  refine lv_bipush (v := 60) hx hb dX12_isLeaf_188 (by decide) ?_
  refine lv_icmp_ne (tgt := 208) hx hb dX12_isLeaf_190 (by decide) (fun hc => ?_) (fun hc => ?_)
  · have hr := iteN hc hr
    refine lv_iload_n hx hb dX12_isLeaf_208 rfl (lv_at hl 1 rfl) ?_
    refine lv_bipush (v := 61) hx hb dX12_isLeaf_209 (by decide) ?_
    refine lv_icmp_ne (tgt := 229) hx hb dX12_isLeaf_211 (by decide) (fun hc => ?_) (fun hc => ?_)
    · have hr := iteN hc hr
      refine lv_iload hx hb dX12_isLeaf_229 (lv_at hl 0 rfl) ?_
      refine lv_iload hx hb dX12_isLeaf_231 (lv_at hl 2 rfl) ?_
      refine lv_icmp_le (tgt := 240) hx hb dX12_isLeaf_233 (by decide) (fun hc => ?_) (fun hc => ?_)
      · have hr := iteP hc hr
        refine lv_iconst (v := 0) hx hb dX12_isLeaf_240 (by decide) ?_
        have q0 := Option.some.inj hr
        subst q0
        exact W.zret (v := 0) hx hb hrt rfl (fun t ht hW => ⟨⟨0, (), rfl, ⟨rfl, rfl⟩, by rw [ht]; exact hP, va_K.moved hW.alike hK, hD⟩, hS.F ht⟩) hS.2.2 dX12_isLeaf_241 hlocks
      · have hr := iteN hc hr
        refine lv_iconst (v := 1) hx hb dX12_isLeaf_236 (by decide) ?_
        refine lv_goto (tgt := 241) hx hb dX12_isLeaf_237 (by decide) ?_
        have q0 := Option.some.inj hr
        subst q0
        exact W.zret (v := 1) hx hb hrt rfl (fun t ht hW => ⟨⟨1, (), rfl, ⟨rfl, rfl⟩, by rw [ht]; exact hP, va_K.moved hW.alike hK, hD⟩, hS.F ht⟩) hS.2.2 dX12_isLeaf_241 hlocks
    · have hr := iteP hc hr
      refine lv_iload hx hb dX12_isLeaf_214 (lv_at hl 0 rfl) ?_
      refine lv_iload hx hb dX12_isLeaf_216 (lv_at hl 2 rfl) ?_
      refine lv_icmp_ne (tgt := 225) hx hb dX12_isLeaf_218 (by decide) (fun hc => ?_) (fun hc => ?_)
      · have hr := iteN hc hr
        refine lv_iconst (v := 0) hx hb dX12_isLeaf_225 (by decide) ?_
        refine lv_goto (tgt := 241) hx hb dX12_isLeaf_226 (by decide) ?_
        have q0 := Option.some.inj hr
        subst q0
        exact W.zret (v := 0) hx hb hrt rfl (fun t ht hW => ⟨⟨0, (), rfl, ⟨rfl, rfl⟩, by rw [ht]; exact hP, va_K.moved hW.alike hK, hD⟩, hS.F ht⟩) hS.2.2 dX12_isLeaf_241 hlocks
      · have hr := iteP hc hr
        refine lv_iconst (v := 1) hx hb dX12_isLeaf_221 (by decide) ?_
        refine lv_goto (tgt := 241) hx hb dX12_isLeaf_222 (by decide) ?_
        have q0 := Option.some.inj hr
        subst q0
        exact W.zret (v := 1) hx hb hrt rfl (fun t ht hW => ⟨⟨1, (), rfl, ⟨rfl, rfl⟩, by rw [ht]; exact hP, va_K.moved hW.alike hK, hD⟩, hS.F ht⟩) hS.2.2 dX12_isLeaf_241 hlocks
  · have hr := iteP hc hr
    refine lv_iload hx hb dX12_isLeaf_193 (lv_at hl 0 rfl) ?_
    refine lv_iload hx hb dX12_isLeaf_195 (lv_at hl 2 rfl) ?_
    refine lv_icmp_ge (tgt := 204) hx hb dX12_isLeaf_197 (by decide) (fun hc => ?_) (fun hc => ?_)
    · have hr := iteP hc hr
      refine lv_iconst (v := 0) hx hb dX12_isLeaf_204 (by decide) ?_
      refine lv_goto (tgt := 241) hx hb dX12_isLeaf_205 (by decide) ?_
      have q0 := Option.some.inj hr
      subst q0
      exact W.zret (v := 0) hx hb hrt rfl (fun t ht hW => ⟨⟨0, (), rfl, ⟨rfl, rfl⟩, by rw [ht]; exact hP, va_K.moved hW.alike hK, hD⟩, hS.F ht⟩) hS.2.2 dX12_isLeaf_241 hlocks
    · have hr := iteN hc hr
      refine lv_iconst (v := 1) hx hb dX12_isLeaf_200 (by decide) ?_
      refine lv_goto (tgt := 241) hx hb dX12_isLeaf_201 (by decide) ?_
      have q0 := Option.some.inj hr
      subst q0
      exact W.zret (v := 1) hx hb hrt rfl (fun t ht hW => ⟨⟨1, (), rfl, ⟨rfl, rfl⟩, by rw [ht]; exact hP, va_K.moved hW.alike hK, hD⟩, hS.F ht⟩) hS.2.2 dX12_isLeaf_241 hlocks
set_option maxHeartbeats 4000000 in
set_option maxRecDepth 100000 in
theorem tX12_isLeaf {p : Program} {l : Launch} {e : Env} {R : Room} {s : State} {m : MethodId} {args : Array Value} {below : List Frame} {meth : Method} {c : Code} {dC : Nat → ClassId} {dI : Nat → Nat → Nat} {cI cJ cB cZ cF cG : ClassId} {A : Nat → Prop} (hA : ∀ q : Nat, s.heap.size ≤ q → A q) (C0 : Cx p s m meth c args cX12_isLeaf 6 (some .boolean) RX12 uX12_isLeaf) (hR : 2 ≤ R.frames ∧ 42 ≤ R.locals) (h_this : Nat) (h_s : Nat) (h_tape : Nat) (h_h : Nat) (h_read : Nat) (h_names : Nat) (h_reserved : Nat) (h_undone : Nat) (h_before : Nat) (h_purse : Nat) (h_hostRow : Nat) (h_text : Nat) (h_toldAt : Nat) (h_stack : Nat) (h_truths : Nat) (h_imaged : Nat) (h_namesKept : Nat) (h_areKept : Nat) (v_thrown : Int32) (v_length : Int32) (v_size : Int32) (v_p : Int32) (v_limit : Int32) (v_token : Int32) (v_at : Int32) (v_span : Int32) (v_number : Int32) (v_fault : Int32) (v_faultAt : Int32) (v_word : Int64) (v_got : Int32) (v_lines : Int32) (v_hasChairs : Int32) (v_undoMany : Int32) (v_hostIn : Int32) (v_nextMany : Int32) (v_trickSet : Int32) (v_pushSet : Int32) (v_hasTrick : Int32) (v_hasPush : Int32) (v_hostMany : Int32) (v_menuSet : Int32) (v_watchTired : Int32) (v_hasProud : Int32) (v_textMany : Int32) (v_seed : Int32) (v_toldMany : Int32) (v_hasTold : Int32) (v_codes : Int32) (v_ones : Int32) (v_top : Int32) (v_deep : Int32) (v_isWhole : Int32) (v_s : Nat → Int32) (o_r : Int32) :
    ∀ (x1 : Int32) (x2 : Int32) (x3 : Int32) (x4 : Int32), fX12_isLeaf v_s x1 x2 x3 x4 = some o_r → ∀ (H : Heap) (locs : List Loc), Wd dC dI cI cJ cB cZ cF cG A s H locs [oX12 h_this v_thrown h_tape v_length v_size v_p v_limit h_s h_h h_read h_names h_reserved v_token v_at v_span v_number v_fault v_faultAt v_word v_got v_lines v_hasChairs h_undone h_before v_undoMany v_hostIn v_nextMany v_trickSet v_pushSet v_hasTrick v_hasPush h_purse h_hostRow v_hostMany v_menuSet v_watchTired v_hasProud h_text v_textMany v_seed v_toldMany h_toldAt v_hasTold h_stack v_codes v_ones v_top v_deep v_isWhole h_truths h_imaged h_namesKept h_areKept, aI cI h_s 273 v_s] → ∀ (ls : Array Slot), lv_has ls 6 [(0, .ref h_this), (1, .int x1), (2, .int x2), (3, .int x3), (4, .int x4)] → W p l e R s m args below meth c H locs 0 0 (MQ below (PQz dC dI cI cJ cB cZ cF cG A o_r [oX12 h_this v_thrown h_tape v_length v_size v_p v_limit h_s h_h h_read h_names h_reserved v_token v_at v_span v_number v_fault v_faultAt v_word v_got v_lines v_hasChairs h_undone h_before v_undoMany v_hostIn v_nextMany v_trickSet v_pushSet v_hasTrick v_hasPush h_purse h_hostRow v_hostMany v_menuSet v_watchTired v_hasProud h_text v_textMany v_seed v_toldMany h_toldAt v_hasTold h_stack v_codes v_ones v_top v_deep v_isWhole h_truths h_imaged h_namesKept h_areKept, aI cI h_s 273 v_s]) args s 0 0 A) (F0 m 0 ls []) := by
  obtain ⟨hx, hb, hrt, hml, hown, hts, hlocks⟩ := id C0
  intro x1 x2 x3 x4 hr H locs hW ls hl
  obtain ⟨hK, hP, hD, hS⟩ := hW
  have hr : (if x2 = 0 then (fX12_doesSit v_s x1).bind (fun r_1 => some r_1) else if x2 = 1 then gI (78 + x1) 273 (if (v_s (Int32.toNatClampNeg (78 + x1))) ≤ 0 then some 0 else some 1) else if x2 = 2 then gI (64 + x1) 273 (gI (10 + x1) 273 (if (v_s (Int32.toNatClampNeg (64 + x1))) < (v_s (Int32.toNatClampNeg (10 + x1))) then some 0 else some 1)) else if x2 = 3 then gI (56 + x1) 273 (gI (56 + x4) 273 (if (v_s (Int32.toNatClampNeg (56 + x1))) = (v_s (Int32.toNatClampNeg (56 + x4))) then some 1 else some 0)) else if x2 = 4 then (fX12_payerOf v_s x4).bind (fun r_2 => if r_2 = x1 then some 1 else some 0) else if x2 = 5 then gI (49 + x1) 273 (bX12_isLeaf_185 v_s x3 x4 (v_s (Int32.toNatClampNeg (49 + x1)))) else if x2 = 6 then gI (64 + x1) 273 (bX12_isLeaf_185 v_s x3 x4 (v_s (Int32.toNatClampNeg (64 + x1)))) else if x2 = 7 then gI (71 + x1) 273 (bX12_isLeaf_185 v_s x3 x4 (v_s (Int32.toNatClampNeg (71 + x1)))) else bX12_isLeaf_185 v_s x3 x4 x1 : Option (Int32)) = some o_r := hr
  refine lv_iload_n hx hb dX12_isLeaf_0 rfl (lv_at hl 2 rfl) ?_
  by_cases hc0 : x2 = 0
  · have hr := iteP hc0 hr
    refine lv_tableIn (tgt := 36) hx hb dX12_isLeaf_1 (by rw [hc0]; decide) (by rw [hc0]; decide) (by rw [hc0]; rfl) (by decide) ?_
    refine lv_aload_n hx hb dX12_isLeaf_36 rfl (lv_at hl 0 rfl) ?_
    refine lv_iload_n hx hb dX12_isLeaf_37 rfl (lv_at hl 1 rfl) ?_
    obtain ⟨r_1, ho, hr⟩ := bind_s hr
    have hPc := hP.sub (ws' := [oX12 h_this v_thrown h_tape v_length v_size v_p v_limit h_s h_h h_read h_names h_reserved v_token v_at v_span v_number v_fault v_faultAt v_word v_got v_lines v_hasChairs h_undone h_before v_undoMany v_hostIn v_nextMany v_trickSet v_pushSet v_hasTrick v_hasPush h_purse h_hostRow v_hostMany v_menuSet v_watchTired v_hasProud h_text v_textMany v_seed v_toldMany h_toldAt v_hasTold h_stack v_codes v_ones v_top v_deep v_isWhole h_truths h_imaged h_namesKept h_areKept, aI cI h_s 273 v_s]) [0, 1] rfl
    have hDc := hD.sub (ws' := [oX12 h_this v_thrown h_tape v_length v_size v_p v_limit h_s h_h h_read h_names h_reserved v_token v_at v_span v_number v_fault v_faultAt v_word v_got v_lines v_hasChairs h_undone h_before v_undoMany v_hostIn v_nextMany v_trickSet v_pushSet v_hasTrick v_hasPush h_purse h_hostRow v_hostMany v_menuSet v_watchTired v_hasProud h_text v_textMany v_seed v_toldMany h_toldAt v_hasTold h_stack v_codes v_ones v_top v_deep v_isWhole h_truths h_imaged h_namesKept h_areKept, aI cI h_s 273 v_s]) [0, 1] (by decide) rfl
    have hFc := va_free (wc := [oX12 h_this v_thrown h_tape v_length v_size v_p v_limit h_s h_h h_read h_names h_reserved v_token v_at v_span v_number v_fault v_faultAt v_word v_got v_lines v_hasChairs h_undone h_before v_undoMany v_hostIn v_nextMany v_trickSet v_pushSet v_hasTrick v_hasPush h_purse h_hostRow v_hostMany v_menuSet v_watchTired v_hasProud h_text v_textMany v_seed v_toldMany h_toldAt v_hasTold h_stack v_codes v_ones v_top v_deep v_isWhole h_truths h_imaged h_namesKept h_areKept, aI cI h_s 273 v_s]) hD hS hA [0, 1] rfl
    refine va_calli (va_runV (As := [.int x1]) (rest := []) ⟨hx, hb, hml, hown, hts⟩ (mX12_doesSit l dC dI cI cJ cB cZ cF cG h_this h_s h_tape h_h h_read h_names h_reserved h_undone h_before h_purse h_hostRow h_text h_toldAt h_stack h_truths h_imaged h_namesKept h_areKept H.size v_thrown v_length v_size v_p v_limit v_token v_at v_span v_number v_fault v_faultAt v_word v_got v_lines v_hasChairs v_undoMany v_hostIn v_nextMany v_trickSet v_pushSet v_hasTrick v_hasPush v_hostMany v_menuSet v_watchTired v_hasProud v_textMany v_seed v_toldMany v_hasTold v_codes v_ones v_top v_deep v_isWhole v_s x1 r_1 ho) (cwV 1 hts (goodV U_644 U_645 U_646 U_5 U_647) rfl rfl rfl (by decide +kernel) ⟨Nat.le_trans (by decide) hR.1, Nat.le_trans (Nat.le_of_ble_eq_true rfl) hR.2⟩) ⟨fun a U g mk q => by obtain ⟨q0, q1, qP, qK, qD⟩ := q; exact ⟨q0, q1, qP, va_K.moved (u := U) (U := U.calling g mk a) (Vm.Alike.refl U.vm) qK, qD⟩, va_recv hK hPc (ci := 12) (q0 := 0) rfl rfl, fun U hU hW => ⟨rfl, by rw [hU], by rw [hU]; exact hPc, va_K.moved hW.alike hK, hDc.weaken (fun _ _ _ _ => trivial)⟩⟩ rfl rfl hl.1 rfl (lv_room (Nat.le_of_ble_eq_true rfl)) dX12_isLeaf_38 ⟨Nat.zero_le _, Nat.zero_le _⟩) hS (fun q _ h => hFc q h) hFc (fun rz u t H1 locs ht hvm hw hB hz1 hk1 hS => ?_)
    obtain ⟨hP1, hK1, hD1⟩ := hB
    obtain ⟨hw, hz_1⟩ := hw
    have hw := hw.symm; subst hw
    rw [ht] at hP1
    obtain ⟨hP, hD⟩ := va_join (wr := []) (w1 := [oX12 h_this v_thrown h_tape v_length v_size v_p v_limit h_s h_h h_read h_names h_reserved v_token v_at v_span v_number v_fault v_faultAt v_word v_got v_lines v_hasChairs h_undone h_before v_undoMany v_hostIn v_nextMany v_trickSet v_pushSet v_hasTrick v_hasPush h_purse h_hostRow v_hostMany v_menuSet v_watchTired v_hasProud h_text v_textMany v_seed v_toldMany h_toldAt v_hasTold h_stack v_codes v_ones v_top v_deep v_isWhole h_truths h_imaged h_namesKept h_areKept, aI cI h_s 273 v_s]) hP hD [0, 1] [] rfl rfl (by decide) (by decide) hk1 hFc hP1 hD1
    generalize H1 = H at hP hS ⊢
    have hP : va_P (dC, dI) vwCl [oX12 h_this v_thrown h_tape v_length v_size v_p v_limit h_s h_h h_read h_names h_reserved v_token v_at v_span v_number v_fault v_faultAt v_word v_got v_lines v_hasChairs h_undone h_before v_undoMany v_hostIn v_nextMany v_trickSet v_pushSet v_hasTrick v_hasPush h_purse h_hostRow v_hostMany v_menuSet v_watchTired v_hasProud h_text v_textMany v_seed v_toldMany h_toldAt v_hasTold h_stack v_codes v_ones v_top v_deep v_isWhole h_truths h_imaged h_namesKept h_areKept, aI cI h_s 273 v_s] H := hP
    have hD : va_D A [oX12 h_this v_thrown h_tape v_length v_size v_p v_limit h_s h_h h_read h_names h_reserved v_token v_at v_span v_number v_fault v_faultAt v_word v_got v_lines v_hasChairs h_undone h_before v_undoMany v_hostIn v_nextMany v_trickSet v_pushSet v_hasTrick v_hasPush h_purse h_hostRow v_hostMany v_menuSet v_watchTired v_hasProud h_text v_textMany v_seed v_toldMany h_toldAt v_hasTold h_stack v_codes v_ones v_top v_deep v_isWhole h_truths h_imaged h_namesKept h_areKept, aI cI h_s 273 v_s] := hD
    have q0 := Option.some.inj hr
    subst q0
    exact W.zret (v := r_1) hx hb hrt hz_1 (fun t ht hW => ⟨⟨r_1, (), rfl, ⟨rfl, hz_1⟩, by rw [ht]; exact hP, va_K.moved hW.alike hK, hD⟩, hS.F ht⟩) hS.2.2 dX12_isLeaf_41 hlocks
  have hr := iteN hc0 hr
  by_cases hc1 : x2 = 1
  · have hr := iteP hc1 hr
    refine lv_tableIn (tgt := 42) hx hb dX12_isLeaf_1 (by rw [hc1]; decide) (by rw [hc1]; decide) (by rw [hc1]; rfl) (by decide) ?_
    refine lv_aload_n hx hb dX12_isLeaf_42 rfl (lv_at hl 0 rfl) ?_
    refine va_get (D := (dC, dI)) (ci := 12) (v := .ref h_s) (C := RX12) (T := TX12) (N := 52) hx hb hts (fun w h => List.mem_cons_of_mem _ (inU_12 w h)) hown hK hP 0 rfl rfl 6 (by decide) (hts _ (List.mem_cons_of_mem _ U_225)) (fun _ h9 => h9) rfl dX12_isLeaf_43 ?_
    refine lv_bipush (v := 78) hx hb dX12_isLeaf_46 (by decide) ?_
    refine lv_iload_n hx hb dX12_isLeaf_48 rfl (lv_at hl 1 rfl) ?_
    refine lv_iadd hx hb dX12_isLeaf_49 ?_
    refine z_pc (pc' := 50) rfl ?_
    obtain ⟨hg, hr⟩ := gI_s hr
    refine z_iald hx hb hK hP 1 0 rfl rfl hg rfl dX12_isLeaf_50 ?_
    refine lv_if_le (tgt := 58) hx hb dX12_isLeaf_51 (by decide) (fun hc => ?_) (fun hc => ?_)
    · have hr := iteP hc hr
      refine lv_iconst (v := 0) hx hb dX12_isLeaf_58 (by decide) ?_
      have q0 := Option.some.inj hr
      subst q0
      exact W.zret (v := 0) hx hb hrt rfl (fun t ht hW => ⟨⟨0, (), rfl, ⟨rfl, rfl⟩, by rw [ht]; exact hP, va_K.moved hW.alike hK, hD⟩, hS.F ht⟩) hS.2.2 dX12_isLeaf_59 hlocks
    · have hr := iteN hc hr
      refine lv_iconst (v := 1) hx hb dX12_isLeaf_54 (by decide) ?_
      refine lv_goto (tgt := 59) hx hb dX12_isLeaf_55 (by decide) ?_
      have q0 := Option.some.inj hr
      subst q0
      exact W.zret (v := 1) hx hb hrt rfl (fun t ht hW => ⟨⟨1, (), rfl, ⟨rfl, rfl⟩, by rw [ht]; exact hP, va_K.moved hW.alike hK, hD⟩, hS.F ht⟩) hS.2.2 dX12_isLeaf_59 hlocks
  have hr := iteN hc1 hr
  by_cases hc2 : x2 = 2
  · have hr := iteP hc2 hr
    refine lv_tableIn (tgt := 60) hx hb dX12_isLeaf_1 (by rw [hc2]; decide) (by rw [hc2]; decide) (by rw [hc2]; rfl) (by decide) ?_
    refine lv_aload_n hx hb dX12_isLeaf_60 rfl (lv_at hl 0 rfl) ?_
    refine va_get (D := (dC, dI)) (ci := 12) (v := .ref h_s) (C := RX12) (T := TX12) (N := 52) hx hb hts (fun w h => List.mem_cons_of_mem _ (inU_12 w h)) hown hK hP 0 rfl rfl 6 (by decide) (hts _ (List.mem_cons_of_mem _ U_225)) (fun _ h9 => h9) rfl dX12_isLeaf_61 ?_
    refine lv_bipush (v := 64) hx hb dX12_isLeaf_64 (by decide) ?_
    refine lv_iload_n hx hb dX12_isLeaf_66 rfl (lv_at hl 1 rfl) ?_
    refine lv_iadd hx hb dX12_isLeaf_67 ?_
    refine z_pc (pc' := 68) rfl ?_
    obtain ⟨hg, hr⟩ := gI_s hr
    refine z_iald hx hb hK hP 1 0 rfl rfl hg rfl dX12_isLeaf_68 ?_
    refine lv_aload_n hx hb dX12_isLeaf_69 rfl (lv_at hl 0 rfl) ?_
    refine va_get (D := (dC, dI)) (ci := 12) (v := .ref h_s) (C := RX12) (T := TX12) (N := 52) hx hb hts (fun w h => List.mem_cons_of_mem _ (inU_12 w h)) hown hK hP 0 rfl rfl 6 (by decide) (hts _ (List.mem_cons_of_mem _ U_225)) (fun _ h9 => h9) rfl dX12_isLeaf_70 ?_
    refine lv_bipush (v := 10) hx hb dX12_isLeaf_73 (by decide) ?_
    refine lv_iload_n hx hb dX12_isLeaf_75 rfl (lv_at hl 1 rfl) ?_
    refine lv_iadd hx hb dX12_isLeaf_76 ?_
    refine z_pc (pc' := 77) rfl ?_
    obtain ⟨hg, hr⟩ := gI_s hr
    refine z_iald hx hb hK hP 1 0 rfl rfl hg rfl dX12_isLeaf_77 ?_
    refine lv_icmp_lt (tgt := 85) hx hb dX12_isLeaf_78 (by decide) (fun hc => ?_) (fun hc => ?_)
    · have hr := iteP hc hr
      refine lv_iconst (v := 0) hx hb dX12_isLeaf_85 (by decide) ?_
      have q0 := Option.some.inj hr
      subst q0
      exact W.zret (v := 0) hx hb hrt rfl (fun t ht hW => ⟨⟨0, (), rfl, ⟨rfl, rfl⟩, by rw [ht]; exact hP, va_K.moved hW.alike hK, hD⟩, hS.F ht⟩) hS.2.2 dX12_isLeaf_86 hlocks
    · have hr := iteN hc hr
      refine lv_iconst (v := 1) hx hb dX12_isLeaf_81 (by decide) ?_
      refine lv_goto (tgt := 86) hx hb dX12_isLeaf_82 (by decide) ?_
      have q0 := Option.some.inj hr
      subst q0
      exact W.zret (v := 1) hx hb hrt rfl (fun t ht hW => ⟨⟨1, (), rfl, ⟨rfl, rfl⟩, by rw [ht]; exact hP, va_K.moved hW.alike hK, hD⟩, hS.F ht⟩) hS.2.2 dX12_isLeaf_86 hlocks
  have hr := iteN hc2 hr
  by_cases hc3 : x2 = 3
  · have hr := iteP hc3 hr
    refine lv_tableIn (tgt := 87) hx hb dX12_isLeaf_1 (by rw [hc3]; decide) (by rw [hc3]; decide) (by rw [hc3]; rfl) (by decide) ?_
    refine lv_aload_n hx hb dX12_isLeaf_87 rfl (lv_at hl 0 rfl) ?_
    refine va_get (D := (dC, dI)) (ci := 12) (v := .ref h_s) (C := RX12) (T := TX12) (N := 52) hx hb hts (fun w h => List.mem_cons_of_mem _ (inU_12 w h)) hown hK hP 0 rfl rfl 6 (by decide) (hts _ (List.mem_cons_of_mem _ U_225)) (fun _ h9 => h9) rfl dX12_isLeaf_88 ?_
    refine lv_bipush (v := 56) hx hb dX12_isLeaf_91 (by decide) ?_
    refine lv_iload_n hx hb dX12_isLeaf_93 rfl (lv_at hl 1 rfl) ?_
    refine lv_iadd hx hb dX12_isLeaf_94 ?_
    refine z_pc (pc' := 95) rfl ?_
    obtain ⟨hg, hr⟩ := gI_s hr
    refine z_iald hx hb hK hP 1 0 rfl rfl hg rfl dX12_isLeaf_95 ?_
    refine lv_aload_n hx hb dX12_isLeaf_96 rfl (lv_at hl 0 rfl) ?_
    refine va_get (D := (dC, dI)) (ci := 12) (v := .ref h_s) (C := RX12) (T := TX12) (N := 52) hx hb hts (fun w h => List.mem_cons_of_mem _ (inU_12 w h)) hown hK hP 0 rfl rfl 6 (by decide) (hts _ (List.mem_cons_of_mem _ U_225)) (fun _ h9 => h9) rfl dX12_isLeaf_97 ?_
    refine lv_bipush (v := 56) hx hb dX12_isLeaf_100 (by decide) ?_
    refine lv_iload hx hb dX12_isLeaf_102 (lv_at hl 4 rfl) ?_
    refine lv_iadd hx hb dX12_isLeaf_104 ?_
    refine z_pc (pc' := 105) rfl ?_
    obtain ⟨hg, hr⟩ := gI_s hr
    refine z_iald hx hb hK hP 1 0 rfl rfl hg rfl dX12_isLeaf_105 ?_
    refine lv_icmp_ne (tgt := 113) hx hb dX12_isLeaf_106 (by decide) (fun hc => ?_) (fun hc => ?_)
    · have hr := iteN hc hr
      refine lv_iconst (v := 0) hx hb dX12_isLeaf_113 (by decide) ?_
      have q0 := Option.some.inj hr
      subst q0
      exact W.zret (v := 0) hx hb hrt rfl (fun t ht hW => ⟨⟨0, (), rfl, ⟨rfl, rfl⟩, by rw [ht]; exact hP, va_K.moved hW.alike hK, hD⟩, hS.F ht⟩) hS.2.2 dX12_isLeaf_114 hlocks
    · have hr := iteP hc hr
      refine lv_iconst (v := 1) hx hb dX12_isLeaf_109 (by decide) ?_
      refine lv_goto (tgt := 114) hx hb dX12_isLeaf_110 (by decide) ?_
      have q0 := Option.some.inj hr
      subst q0
      exact W.zret (v := 1) hx hb hrt rfl (fun t ht hW => ⟨⟨1, (), rfl, ⟨rfl, rfl⟩, by rw [ht]; exact hP, va_K.moved hW.alike hK, hD⟩, hS.F ht⟩) hS.2.2 dX12_isLeaf_114 hlocks
  have hr := iteN hc3 hr
  by_cases hc4 : x2 = 4
  · have hr := iteP hc4 hr
    refine lv_tableIn (tgt := 115) hx hb dX12_isLeaf_1 (by rw [hc4]; decide) (by rw [hc4]; decide) (by rw [hc4]; rfl) (by decide) ?_
    refine lv_aload_n hx hb dX12_isLeaf_115 rfl (lv_at hl 0 rfl) ?_
    refine lv_iload hx hb dX12_isLeaf_116 (lv_at hl 4 rfl) ?_
    obtain ⟨r_2, ho, hr⟩ := bind_s hr
    have hPc := hP.sub (ws' := [oX12 h_this v_thrown h_tape v_length v_size v_p v_limit h_s h_h h_read h_names h_reserved v_token v_at v_span v_number v_fault v_faultAt v_word v_got v_lines v_hasChairs h_undone h_before v_undoMany v_hostIn v_nextMany v_trickSet v_pushSet v_hasTrick v_hasPush h_purse h_hostRow v_hostMany v_menuSet v_watchTired v_hasProud h_text v_textMany v_seed v_toldMany h_toldAt v_hasTold h_stack v_codes v_ones v_top v_deep v_isWhole h_truths h_imaged h_namesKept h_areKept, aI cI h_s 273 v_s]) [0, 1] rfl
    have hDc := hD.sub (ws' := [oX12 h_this v_thrown h_tape v_length v_size v_p v_limit h_s h_h h_read h_names h_reserved v_token v_at v_span v_number v_fault v_faultAt v_word v_got v_lines v_hasChairs h_undone h_before v_undoMany v_hostIn v_nextMany v_trickSet v_pushSet v_hasTrick v_hasPush h_purse h_hostRow v_hostMany v_menuSet v_watchTired v_hasProud h_text v_textMany v_seed v_toldMany h_toldAt v_hasTold h_stack v_codes v_ones v_top v_deep v_isWhole h_truths h_imaged h_namesKept h_areKept, aI cI h_s 273 v_s]) [0, 1] (by decide) rfl
    have hFc := va_free (wc := [oX12 h_this v_thrown h_tape v_length v_size v_p v_limit h_s h_h h_read h_names h_reserved v_token v_at v_span v_number v_fault v_faultAt v_word v_got v_lines v_hasChairs h_undone h_before v_undoMany v_hostIn v_nextMany v_trickSet v_pushSet v_hasTrick v_hasPush h_purse h_hostRow v_hostMany v_menuSet v_watchTired v_hasProud h_text v_textMany v_seed v_toldMany h_toldAt v_hasTold h_stack v_codes v_ones v_top v_deep v_isWhole h_truths h_imaged h_namesKept h_areKept, aI cI h_s 273 v_s]) hD hS hA [0, 1] rfl
    refine va_calli (va_runV (As := [.int x4]) (rest := []) ⟨hx, hb, hml, hown, hts⟩ (mX12_payerOf l dC dI cI cJ cB cZ cF cG h_this h_s h_tape h_h h_read h_names h_reserved h_undone h_before h_purse h_hostRow h_text h_toldAt h_stack h_truths h_imaged h_namesKept h_areKept H.size v_thrown v_length v_size v_p v_limit v_token v_at v_span v_number v_fault v_faultAt v_word v_got v_lines v_hasChairs v_undoMany v_hostIn v_nextMany v_trickSet v_pushSet v_hasTrick v_hasPush v_hostMany v_menuSet v_watchTired v_hasProud v_textMany v_seed v_toldMany v_hasTold v_codes v_ones v_top v_deep v_isWhole v_s x4 r_2 ho) (cwV 1 hts (goodV U_605 U_606 U_607 U_5 U_608) rfl rfl rfl (by decide +kernel) ⟨Nat.le_trans (by decide) hR.1, Nat.le_trans (Nat.le_of_ble_eq_true rfl) hR.2⟩) ⟨fun a U g mk q => by obtain ⟨q0, q1, qP, qK, qD⟩ := q; exact ⟨q0, q1, qP, va_K.moved (u := U) (U := U.calling g mk a) (Vm.Alike.refl U.vm) qK, qD⟩, va_recv hK hPc (ci := 12) (q0 := 0) rfl rfl, fun U hU hW => ⟨rfl, by rw [hU], by rw [hU]; exact hPc, va_K.moved hW.alike hK, hDc.weaken (fun _ _ _ _ => trivial)⟩⟩ rfl rfl hl.1 rfl (lv_room (Nat.le_of_ble_eq_true rfl)) dX12_isLeaf_118 ⟨Nat.zero_le _, Nat.zero_le _⟩) hS (fun q _ h => hFc q h) hFc (fun rz u t H1 locs ht hvm hw hB hz1 hk1 hS => ?_)
    obtain ⟨hP1, hK1, hD1⟩ := hB
    have hw := hw.symm; subst hw
    rw [ht] at hP1
    obtain ⟨hP, hD⟩ := va_join (wr := []) (w1 := [oX12 h_this v_thrown h_tape v_length v_size v_p v_limit h_s h_h h_read h_names h_reserved v_token v_at v_span v_number v_fault v_faultAt v_word v_got v_lines v_hasChairs h_undone h_before v_undoMany v_hostIn v_nextMany v_trickSet v_pushSet v_hasTrick v_hasPush h_purse h_hostRow v_hostMany v_menuSet v_watchTired v_hasProud h_text v_textMany v_seed v_toldMany h_toldAt v_hasTold h_stack v_codes v_ones v_top v_deep v_isWhole h_truths h_imaged h_namesKept h_areKept, aI cI h_s 273 v_s]) hP hD [0, 1] [] rfl rfl (by decide) (by decide) hk1 hFc hP1 hD1
    generalize H1 = H at hP hS ⊢
    have hP : va_P (dC, dI) vwCl [oX12 h_this v_thrown h_tape v_length v_size v_p v_limit h_s h_h h_read h_names h_reserved v_token v_at v_span v_number v_fault v_faultAt v_word v_got v_lines v_hasChairs h_undone h_before v_undoMany v_hostIn v_nextMany v_trickSet v_pushSet v_hasTrick v_hasPush h_purse h_hostRow v_hostMany v_menuSet v_watchTired v_hasProud h_text v_textMany v_seed v_toldMany h_toldAt v_hasTold h_stack v_codes v_ones v_top v_deep v_isWhole h_truths h_imaged h_namesKept h_areKept, aI cI h_s 273 v_s] H := hP
    have hD : va_D A [oX12 h_this v_thrown h_tape v_length v_size v_p v_limit h_s h_h h_read h_names h_reserved v_token v_at v_span v_number v_fault v_faultAt v_word v_got v_lines v_hasChairs h_undone h_before v_undoMany v_hostIn v_nextMany v_trickSet v_pushSet v_hasTrick v_hasPush h_purse h_hostRow v_hostMany v_menuSet v_watchTired v_hasProud h_text v_textMany v_seed v_toldMany h_toldAt v_hasTold h_stack v_codes v_ones v_top v_deep v_isWhole h_truths h_imaged h_namesKept h_areKept, aI cI h_s 273 v_s] := hD
    refine lv_iload_n hx hb dX12_isLeaf_121 rfl (lv_at hl 1 rfl) ?_
    refine lv_icmp_ne (tgt := 129) hx hb dX12_isLeaf_122 (by decide) (fun hc => ?_) (fun hc => ?_)
    · have hr := iteN hc hr
      refine lv_iconst (v := 0) hx hb dX12_isLeaf_129 (by decide) ?_
      have q0 := Option.some.inj hr
      subst q0
      exact W.zret (v := 0) hx hb hrt rfl (fun t ht hW => ⟨⟨0, (), rfl, ⟨rfl, rfl⟩, by rw [ht]; exact hP, va_K.moved hW.alike hK, hD⟩, hS.F ht⟩) hS.2.2 dX12_isLeaf_130 hlocks
    · have hr := iteP hc hr
      refine lv_iconst (v := 1) hx hb dX12_isLeaf_125 (by decide) ?_
      refine lv_goto (tgt := 130) hx hb dX12_isLeaf_126 (by decide) ?_
      have q0 := Option.some.inj hr
      subst q0
      exact W.zret (v := 1) hx hb hrt rfl (fun t ht hW => ⟨⟨1, (), rfl, ⟨rfl, rfl⟩, by rw [ht]; exact hP, va_K.moved hW.alike hK, hD⟩, hS.F ht⟩) hS.2.2 dX12_isLeaf_130 hlocks
  have hr := iteN hc4 hr
  refine lv_tableOut (tgt := 131) hx hb dX12_isLeaf_1 (by have q0 := swN (k := 0) hc0 (by decide); have q1 := swN (k := 1) hc1 (by decide); have q2 := swN (k := 2) hc2 (by decide); have q3 := swN (k := 3) hc3 (by decide); have q4 := swN (k := 4) hc4 (by decide); omega) (by decide) ?_
  refine lv_iload_n hx hb dX12_isLeaf_131 rfl (lv_at hl 2 rfl) ?_
  refine lv_iconst (v := 5) hx hb dX12_isLeaf_132 (by decide) ?_
  refine lv_icmp_ne (tgt := 148) hx hb dX12_isLeaf_133 (by decide) (fun hc => ?_) (fun hc => ?_)
  · have hr := iteN hc hr
    refine lv_iload_n hx hb dX12_isLeaf_148 rfl (lv_at hl 2 rfl) ?_
    refine lv_bipush (v := 6) hx hb dX12_isLeaf_149 (by decide) ?_
    refine lv_icmp_ne (tgt := 166) hx hb dX12_isLeaf_151 (by decide) (fun hc => ?_) (fun hc => ?_)
    · have hr := iteN hc hr
      refine lv_iload_n hx hb dX12_isLeaf_166 rfl (lv_at hl 2 rfl) ?_
      refine lv_bipush (v := 7) hx hb dX12_isLeaf_167 (by decide) ?_
      refine lv_icmp_ne (tgt := 184) hx hb dX12_isLeaf_169 (by decide) (fun hc => ?_) (fun hc => ?_)
      · have hr := iteN hc hr
        refine lv_iload_n hx hb dX12_isLeaf_184 rfl (lv_at hl 1 rfl) ?_
        exact tX12_isLeaf_185 hA C0 hR h_this h_s h_tape h_h h_read h_names h_reserved h_undone h_before h_purse h_hostRow h_text h_toldAt h_stack h_truths h_imaged h_namesKept h_areKept v_thrown v_length v_size v_p v_limit v_token v_at v_span v_number v_fault v_faultAt v_word v_got v_lines v_hasChairs v_undoMany v_hostIn v_nextMany v_trickSet v_pushSet v_hasTrick v_hasPush v_hostMany v_menuSet v_watchTired v_hasProud v_textMany v_seed v_toldMany v_hasTold v_codes v_ones v_top v_deep v_isWhole v_s o_r x3 x4 x1 hr _ _ ⟨hK, hP, hD, hS⟩ ls (lv_sub hl [3, 4] rfl)
      · have hr := iteP hc hr
        refine lv_aload_n hx hb dX12_isLeaf_172 rfl (lv_at hl 0 rfl) ?_
        refine va_get (D := (dC, dI)) (ci := 12) (v := .ref h_s) (C := RX12) (T := TX12) (N := 52) hx hb hts (fun w h => List.mem_cons_of_mem _ (inU_12 w h)) hown hK hP 0 rfl rfl 6 (by decide) (hts _ (List.mem_cons_of_mem _ U_225)) (fun _ h9 => h9) rfl dX12_isLeaf_173 ?_
        refine lv_bipush (v := 71) hx hb dX12_isLeaf_176 (by decide) ?_
        refine lv_iload_n hx hb dX12_isLeaf_178 rfl (lv_at hl 1 rfl) ?_
        refine lv_iadd hx hb dX12_isLeaf_179 ?_
        refine z_pc (pc' := 180) rfl ?_
        obtain ⟨hg, hr⟩ := gI_s hr
        refine z_iald hx hb hK hP 1 0 rfl rfl hg rfl dX12_isLeaf_180 ?_
        refine lv_goto (tgt := 185) hx hb dX12_isLeaf_181 (by decide) ?_
        exact tX12_isLeaf_185 hA C0 hR h_this h_s h_tape h_h h_read h_names h_reserved h_undone h_before h_purse h_hostRow h_text h_toldAt h_stack h_truths h_imaged h_namesKept h_areKept v_thrown v_length v_size v_p v_limit v_token v_at v_span v_number v_fault v_faultAt v_word v_got v_lines v_hasChairs v_undoMany v_hostIn v_nextMany v_trickSet v_pushSet v_hasTrick v_hasPush v_hostMany v_menuSet v_watchTired v_hasProud v_textMany v_seed v_toldMany v_hasTold v_codes v_ones v_top v_deep v_isWhole v_s o_r x3 x4 (v_s (Int32.toNatClampNeg (71 + x1))) hr _ _ ⟨hK, hP, hD, hS⟩ ls (lv_sub hl [3, 4] rfl)
    · have hr := iteP hc hr
      refine lv_aload_n hx hb dX12_isLeaf_154 rfl (lv_at hl 0 rfl) ?_
      refine va_get (D := (dC, dI)) (ci := 12) (v := .ref h_s) (C := RX12) (T := TX12) (N := 52) hx hb hts (fun w h => List.mem_cons_of_mem _ (inU_12 w h)) hown hK hP 0 rfl rfl 6 (by decide) (hts _ (List.mem_cons_of_mem _ U_225)) (fun _ h9 => h9) rfl dX12_isLeaf_155 ?_
      refine lv_bipush (v := 64) hx hb dX12_isLeaf_158 (by decide) ?_
      refine lv_iload_n hx hb dX12_isLeaf_160 rfl (lv_at hl 1 rfl) ?_
      refine lv_iadd hx hb dX12_isLeaf_161 ?_
      refine z_pc (pc' := 162) rfl ?_
      obtain ⟨hg, hr⟩ := gI_s hr
      refine z_iald hx hb hK hP 1 0 rfl rfl hg rfl dX12_isLeaf_162 ?_
      refine lv_goto (tgt := 185) hx hb dX12_isLeaf_163 (by decide) ?_
      exact tX12_isLeaf_185 hA C0 hR h_this h_s h_tape h_h h_read h_names h_reserved h_undone h_before h_purse h_hostRow h_text h_toldAt h_stack h_truths h_imaged h_namesKept h_areKept v_thrown v_length v_size v_p v_limit v_token v_at v_span v_number v_fault v_faultAt v_word v_got v_lines v_hasChairs v_undoMany v_hostIn v_nextMany v_trickSet v_pushSet v_hasTrick v_hasPush v_hostMany v_menuSet v_watchTired v_hasProud v_textMany v_seed v_toldMany v_hasTold v_codes v_ones v_top v_deep v_isWhole v_s o_r x3 x4 (v_s (Int32.toNatClampNeg (64 + x1))) hr _ _ ⟨hK, hP, hD, hS⟩ ls (lv_sub hl [3, 4] rfl)
  · have hr := iteP hc hr
    refine lv_aload_n hx hb dX12_isLeaf_136 rfl (lv_at hl 0 rfl) ?_
    refine va_get (D := (dC, dI)) (ci := 12) (v := .ref h_s) (C := RX12) (T := TX12) (N := 52) hx hb hts (fun w h => List.mem_cons_of_mem _ (inU_12 w h)) hown hK hP 0 rfl rfl 6 (by decide) (hts _ (List.mem_cons_of_mem _ U_225)) (fun _ h9 => h9) rfl dX12_isLeaf_137 ?_
    refine lv_bipush (v := 49) hx hb dX12_isLeaf_140 (by decide) ?_
    refine lv_iload_n hx hb dX12_isLeaf_142 rfl (lv_at hl 1 rfl) ?_
    refine lv_iadd hx hb dX12_isLeaf_143 ?_
    refine z_pc (pc' := 144) rfl ?_
    obtain ⟨hg, hr⟩ := gI_s hr
    refine z_iald hx hb hK hP 1 0 rfl rfl hg rfl dX12_isLeaf_144 ?_
    refine lv_goto (tgt := 185) hx hb dX12_isLeaf_145 (by decide) ?_
    exact tX12_isLeaf_185 hA C0 hR h_this h_s h_tape h_h h_read h_names h_reserved h_undone h_before h_purse h_hostRow h_text h_toldAt h_stack h_truths h_imaged h_namesKept h_areKept v_thrown v_length v_size v_p v_limit v_token v_at v_span v_number v_fault v_faultAt v_word v_got v_lines v_hasChairs v_undoMany v_hostIn v_nextMany v_trickSet v_pushSet v_hasTrick v_hasPush v_hostMany v_menuSet v_watchTired v_hasProud v_textMany v_seed v_toldMany v_hasTold v_codes v_ones v_top v_deep v_isWhole v_s o_r x3 x4 (v_s (Int32.toNatClampNeg (49 + x1))) hr _ _ ⟨hK, hP, hD, hS⟩ ls (lv_sub hl [3, 4] rfl)
set_option maxHeartbeats 4000000 in
set_option maxRecDepth 100000 in
theorem mX12_isLeaf (l : Launch) (dC : Nat → ClassId) (dI : Nat → Nat → Nat) (cI cJ cB cZ cF cG : ClassId) (h_this : Nat) (h_s : Nat) (h_tape : Nat) (h_h : Nat) (h_read : Nat) (h_names : Nat) (h_reserved : Nat) (h_undone : Nat) (h_before : Nat) (h_purse : Nat) (h_hostRow : Nat) (h_text : Nat) (h_toldAt : Nat) (h_stack : Nat) (h_truths : Nat) (h_imaged : Nat) (h_namesKept : Nat) (h_areKept : Nat) (sz : Nat) (v_thrown : Int32) (v_length : Int32) (v_size : Int32) (v_p : Int32) (v_limit : Int32) (v_token : Int32) (v_at : Int32) (v_span : Int32) (v_number : Int32) (v_fault : Int32) (v_faultAt : Int32) (v_word : Int64) (v_got : Int32) (v_lines : Int32) (v_hasChairs : Int32) (v_undoMany : Int32) (v_hostIn : Int32) (v_nextMany : Int32) (v_trickSet : Int32) (v_pushSet : Int32) (v_hasTrick : Int32) (v_hasPush : Int32) (v_hostMany : Int32) (v_menuSet : Int32) (v_watchTired : Int32) (v_hasProud : Int32) (v_textMany : Int32) (v_seed : Int32) (v_toldMany : Int32) (v_hasTold : Int32) (v_codes : Int32) (v_ones : Int32) (v_top : Int32) (v_deep : Int32) (v_isWhole : Int32) (v_s : Nat → Int32) (x1 : Int32) (x2 : Int32) (x3 : Int32) (x4 : Int32) (o_r : Int32) (hf : fX12_isLeaf v_s x1 x2 x3 x4 = some o_r) : Met l yX12_isLeaf uX12_isLeaf ({ frames := 2, cells := 0, slots := 0, locals := 42 }) (va_Pc [.ref h_this, .int x1, .int x2, .int x3, .int x4] (fun U => U.heap.size = sz ∧ va_P (dC, dI) vwCl [oX12 h_this v_thrown h_tape v_length v_size v_p v_limit h_s h_h h_read h_names h_reserved v_token v_at v_span v_number v_fault v_faultAt v_word v_got v_lines v_hasChairs h_undone h_before v_undoMany v_hostIn v_nextMany v_trickSet v_pushSet v_hasTrick v_hasPush h_purse h_hostRow v_hostMany v_menuSet v_watchTired v_hasProud h_text v_textMany v_seed v_toldMany h_toldAt v_hasTold h_stack v_codes v_ones v_top v_deep v_isWhole h_truths h_imaged h_namesKept h_areKept, aI cI h_s 273 v_s] U.heap ∧ va_K (dC, dI) vwCl (TYS cI cJ cB cZ cF cG) U ∧ va_D (fun _ => True) [oX12 h_this v_thrown h_tape v_length v_size v_p v_limit h_s h_h h_read h_names h_reserved v_token v_at v_span v_number v_fault v_faultAt v_word v_got v_lines v_hasChairs h_undone h_before v_undoMany v_hostIn v_nextMany v_trickSet v_pushSet v_hasTrick v_hasPush h_purse h_hostRow v_hostMany v_menuSet v_watchTired v_hasProud h_text v_textMany v_seed v_toldMany h_toldAt v_hasTold h_stack v_codes v_ones v_top v_deep v_isWhole h_truths h_imaged h_namesKept h_areKept, aI cI h_s 273 v_s])) (PQz dC dI cI cJ cB cZ cF cG (va_A [oX12 h_this v_thrown h_tape v_length v_size v_p v_limit h_s h_h h_read h_names h_reserved v_token v_at v_span v_number v_fault v_faultAt v_word v_got v_lines v_hasChairs h_undone h_before v_undoMany v_hostIn v_nextMany v_trickSet v_pushSet v_hasTrick v_hasPush h_purse h_hostRow v_hostMany v_menuSet v_watchTired v_hasProud h_text v_textMany v_seed v_toldMany h_toldAt v_hasTold h_stack v_codes v_ones v_top v_deep v_isWhole h_truths h_imaged h_namesKept h_areKept, aI cI h_s 273 v_s] sz) o_r [oX12 h_this v_thrown h_tape v_length v_size v_p v_limit h_s h_h h_read h_names h_reserved v_token v_at v_span v_number v_fault v_faultAt v_word v_got v_lines v_hasChairs h_undone h_before v_undoMany v_hostIn v_nextMany v_trickSet v_pushSet v_hasTrick v_hasPush h_purse h_hostRow v_hostMany v_menuSet v_watchTired v_hasProud h_text v_textMany v_seed v_toldMany h_toldAt v_hasTold h_stack v_codes v_ones v_top v_deep v_isWhole h_truths h_imaged h_namesKept h_areKept, aI cI h_s 273 v_s]) 0 0 (va_A [oX12 h_this v_thrown h_tape v_length v_size v_p v_limit h_s h_h h_read h_names h_reserved v_token v_at v_span v_number v_fault v_faultAt v_word v_got v_lines v_hasChairs h_undone h_before v_undoMany v_hostIn v_nextMany v_trickSet v_pushSet v_hasTrick v_hasPush h_purse h_hostRow v_hostMany v_menuSet v_watchTired v_hasProud h_text v_textMany v_seed v_toldMany h_toldAt v_hasTold h_stack v_codes v_ones v_top v_deep v_isWhole h_truths h_imaged h_namesKept h_areKept, aI cI h_s 273 v_s] sz) := by
  refine Met.ofW (cc := cX12_isLeaf) (maxL := 6) (ret := (some .boolean)) (by decide) rfl ?_
  intro p e s m args below meth c s₁ B hml hv
  obtain ⟨rfl, hsz, hP, hK, hD0⟩ := hv
  have hx := B.exec
  have hb := B.bytes
  have hr := B.returns
  have hts := atoms_spec (ws := uX12_isLeaf) B.pre
  have hown : s.vm.findClass RX12 = some m.cls := findClass_of_methodNamed B.named
  have hlocks := B.notSynchronized
  subst hsz
  have hD := hD0.self (sz := s.heap.size)
  generalize hAe : va_A [oX12 h_this v_thrown h_tape v_length v_size v_p v_limit h_s h_h h_read h_names h_reserved v_token v_at v_span v_number v_fault v_faultAt v_word v_got v_lines v_hasChairs h_undone h_before v_undoMany v_hostIn v_nextMany v_trickSet v_pushSet v_hasTrick v_hasPush h_purse h_hostRow v_hostMany v_menuSet v_watchTired v_hasProud h_text v_textMany v_seed v_toldMany h_toldAt v_hasTold h_stack v_codes v_ones v_top v_deep v_isWhole h_truths h_imaged h_namesKept h_areKept, aI cI h_s 273 v_s] s.heap.size = A at hD ⊢
  have hA : ∀ q : Nat, s.heap.size ≤ q → A q := fun q h => by rw [← hAe]; exact Or.inr h
  have hS : va_S A s.heap s.heap [] := va_S.rf
  have hl := lv_entry ([.ref h_this, .int x1, .int x2, .int x3, .int x4]) (n := 6) (Nat.le_of_ble_eq_true rfl)
  rw [lg_entry_eq]
  generalize (lg_sl ([.ref h_this, .int x1, .int x2, .int x3, .int x4]) ++ List.replicate (6 - (lg_sl ([.ref h_this, .int x1, .int x2, .int x3, .int x4])).length) Slot.unset).toArray = ls at hl ⊢
  have hl : lv_has ls 6 [(0, .ref h_this), (1, .int x1), (2, .int x2), (3, .int x3), (4, .int x4)] := hl
  exact tX12_isLeaf hA ⟨hx, hb, hr, hml, hown, hts, hlocks⟩ ⟨Nat.le_refl _, Nat.le_refl _⟩ h_this h_s h_tape h_h h_read h_names h_reserved h_undone h_before h_purse h_hostRow h_text h_toldAt h_stack h_truths h_imaged h_namesKept h_areKept v_thrown v_length v_size v_p v_limit v_token v_at v_span v_number v_fault v_faultAt v_word v_got v_lines v_hasChairs v_undoMany v_hostIn v_nextMany v_trickSet v_pushSet v_hasTrick v_hasPush v_hostMany v_menuSet v_watchTired v_hasProud v_textMany v_seed v_toldMany v_hasTold v_codes v_ones v_top v_deep v_isWhole v_s o_r x1 x2 x3 x4 hf _ _ ⟨hK, hP, hD, hS⟩ ls hl
-- LastSeatModel.isSaid(I)Z
def uX12_isSaid : List Cond := .code yX12_isSaid cX12_isSaid 5 (some .boolean) :: wsU
set_option maxHeartbeats 4000000 in
set_option maxRecDepth 100000 in
theorem tX12_isSaid_86 {p : Program} {l : Launch} {e : Env} {R : Room} {s : State} {m : MethodId} {args : Array Value} {below : List Frame} {meth : Method} {c : Code} {dC : Nat → ClassId} {dI : Nat → Nat → Nat} {cI cJ cB cZ cF cG : ClassId} {A : Nat → Prop} {k4 : (Nat → Int32) → Int32 → Int32 → Int32 → Option (Int32 × (Nat → Int32))} (hA : ∀ q : Nat, s.heap.size ≤ q → A q) (C0 : Cx p s m meth c args cX12_isSaid 5 (some .boolean) RX12 uX12_isSaid) (hR : 3 ≤ R.frames ∧ 67 ≤ R.locals) (h_this : Nat) (h_s : Nat) (h_truths : Nat) (h_tape : Nat) (h_h : Nat) (h_read : Nat) (h_names : Nat) (h_reserved : Nat) (h_undone : Nat) (h_before : Nat) (h_purse : Nat) (h_hostRow : Nat) (h_text : Nat) (h_toldAt : Nat) (h_stack : Nat) (h_imaged : Nat) (h_namesKept : Nat) (h_areKept : Nat) (v_thrown : Int32) (v_length : Int32) (v_size : Int32) (v_p : Int32) (v_limit : Int32) (v_token : Int32) (v_at : Int32) (v_span : Int32) (v_number : Int32) (v_fault : Int32) (v_faultAt : Int32) (v_word : Int64) (v_got : Int32) (v_lines : Int32) (v_hasChairs : Int32) (v_undoMany : Int32) (v_hostIn : Int32) (v_nextMany : Int32) (v_trickSet : Int32) (v_pushSet : Int32) (v_hasTrick : Int32) (v_hasPush : Int32) (v_hostMany : Int32) (v_menuSet : Int32) (v_watchTired : Int32) (v_hasProud : Int32) (v_textMany : Int32) (v_seed : Int32) (v_toldMany : Int32) (v_hasTold : Int32) (v_codes : Int32) (v_ones : Int32) (v_top : Int32) (v_deep : Int32) (v_isWhole : Int32) (v_s : Nat → Int32) (o_r : Int32) (o_truths : Nat → Int32) (hk4 : ∀ (v_truths : Nat → Int32) (x1 : Int32) (x2 : Int32) (x3 : Int32), k4 v_truths x1 x2 x3 = some (o_r, o_truths) → ∀ (H : Heap) (locs : List Loc), Wd dC dI cI cJ cB cZ cF cG A s H locs [oX12 h_this v_thrown h_tape v_length v_size v_p v_limit h_s h_h h_read h_names h_reserved v_token v_at v_span v_number v_fault v_faultAt v_word v_got v_lines v_hasChairs h_undone h_before v_undoMany v_hostIn v_nextMany v_trickSet v_pushSet v_hasTrick v_hasPush h_purse h_hostRow v_hostMany v_menuSet v_watchTired v_hasProud h_text v_textMany v_seed v_toldMany h_toldAt v_hasTold h_stack v_codes v_ones v_top v_deep v_isWhole h_truths h_imaged h_namesKept h_areKept, aI cI h_s 273 v_s, aZ cZ h_truths 45 v_truths] → ∀ (ls : Array Slot), lv_has ls 5 [(0, .ref h_this), (1, .int x1), (2, .int x2), (3, .int x3)] → W p l e R s m args below meth c H locs 0 0 (MQ below (PQz dC dI cI cJ cB cZ cF cG A o_r [oX12 h_this v_thrown h_tape v_length v_size v_p v_limit h_s h_h h_read h_names h_reserved v_token v_at v_span v_number v_fault v_faultAt v_word v_got v_lines v_hasChairs h_undone h_before v_undoMany v_hostIn v_nextMany v_trickSet v_pushSet v_hasTrick v_hasPush h_purse h_hostRow v_hostMany v_menuSet v_watchTired v_hasProud h_text v_textMany v_seed v_toldMany h_toldAt v_hasTold h_stack v_codes v_ones v_top v_deep v_isWhole h_truths h_imaged h_namesKept h_areKept, aI cI h_s 273 v_s, aZ cZ h_truths 45 o_truths]) args s 0 0 A) (F0 m 4 ls [])) :
    ∀ (v_truths : Nat → Int32) (x1 : Int32) (x2 : Int32) (x3 : Int32) (x4 : Int32), bX12_isSaid_86 v_s k4 v_truths x1 x2 x3 x4 = some (o_r, o_truths) → ∀ (H : Heap) (locs : List Loc), Wd dC dI cI cJ cB cZ cF cG A s H locs [oX12 h_this v_thrown h_tape v_length v_size v_p v_limit h_s h_h h_read h_names h_reserved v_token v_at v_span v_number v_fault v_faultAt v_word v_got v_lines v_hasChairs h_undone h_before v_undoMany v_hostIn v_nextMany v_trickSet v_pushSet v_hasTrick v_hasPush h_purse h_hostRow v_hostMany v_menuSet v_watchTired v_hasProud h_text v_textMany v_seed v_toldMany h_toldAt v_hasTold h_stack v_codes v_ones v_top v_deep v_isWhole h_truths h_imaged h_namesKept h_areKept, aI cI h_s 273 v_s, aZ cZ h_truths 45 v_truths] → ∀ (ls : Array Slot), lv_has ls 5 [(0, .ref h_this), (1, .int x1), (2, .int x2), (3, .int x3), (4, .int x4)] → W p l e R s m args below meth c H locs 0 0 (MQ below (PQz dC dI cI cJ cB cZ cF cG A o_r [oX12 h_this v_thrown h_tape v_length v_size v_p v_limit h_s h_h h_read h_names h_reserved v_token v_at v_span v_number v_fault v_faultAt v_word v_got v_lines v_hasChairs h_undone h_before v_undoMany v_hostIn v_nextMany v_trickSet v_pushSet v_hasTrick v_hasPush h_purse h_hostRow v_hostMany v_menuSet v_watchTired v_hasProud h_text v_textMany v_seed v_toldMany h_toldAt v_hasTold h_stack v_codes v_ones v_top v_deep v_isWhole h_truths h_imaged h_namesKept h_areKept, aI cI h_s 273 v_s, aZ cZ h_truths 45 o_truths]) args s 0 0 A) (F0 m 86 ls []) := by
  obtain ⟨hx, hb, hrt, hml, hown, hts, hlocks⟩ := id C0
  intro v_truths x1 x2 x3 x4 hr H locs hW ls hl
  obtain ⟨hK, hP, hD, hS⟩ := hW
  have hr : (gI x4 273 (if (v_s (Int32.toNatClampNeg x4)) = 21 then gI ((x2 + (-1)) - 1) 45 (if (v_truths (Int32.toNatClampNeg ((x2 + (-1)) - 1))) = 0 then gI ((x2 + (-1)) - 1) 45 (nmv (upd v_truths (Int32.toNatClampNeg ((x2 + (-1)) - 1)) (vp_nar .boolean 0)) (fun w4 => k4 w4 x1 (x2 + (-1)) (x3 + 1))) else gI (x2 + (-1)) 45 (if (v_truths (Int32.toNatClampNeg (x2 + (-1)))) = 0 then gI ((x2 + (-1)) - 1) 45 (nmv (upd v_truths (Int32.toNatClampNeg ((x2 + (-1)) - 1)) (vp_nar .boolean 0)) (fun w5 => k4 w5 x1 (x2 + (-1)) (x3 + 1))) else gI ((x2 + (-1)) - 1) 45 (nmv (upd v_truths (Int32.toNatClampNeg ((x2 + (-1)) - 1)) (vp_nar .boolean 1)) (fun w6 => k4 w6 x1 (x2 + (-1)) (x3 + 1))))) else gI ((x2 + (-1)) - 1) 45 (if (v_truths (Int32.toNatClampNeg ((x2 + (-1)) - 1))) = 0 then gI (x2 + (-1)) 45 (if (v_truths (Int32.toNatClampNeg (x2 + (-1)))) = 0 then gI ((x2 + (-1)) - 1) 45 (nmv (upd v_truths (Int32.toNatClampNeg ((x2 + (-1)) - 1)) (vp_nar .boolean 0)) (fun w2 => k4 w2 x1 (x2 + (-1)) (x3 + 1))) else gI ((x2 + (-1)) - 1) 45 (nmv (upd v_truths (Int32.toNatClampNeg ((x2 + (-1)) - 1)) (vp_nar .boolean 1)) (fun w3 => k4 w3 x1 (x2 + (-1)) (x3 + 1)))) else gI ((x2 + (-1)) - 1) 45 (nmv (upd v_truths (Int32.toNatClampNeg ((x2 + (-1)) - 1)) (vp_nar .boolean 1)) (fun w1 => k4 w1 x1 (x2 + (-1)) (x3 + 1))))) : Option (Int32 × (Nat → Int32))) = some (o_r, o_truths) := hr
  refine lv_iinc (v := (x2 + (-1))) (lv' := [(2, .int (x2 + (-1))), (0, .ref h_this), (1, .int x1), (3, .int x3), (4, .int x4)]) hx hb dX12_isSaid_86 hl (k := 2) rfl rfl (by decide) rfl (fun ls hl => ?_)
  refine lv_aload_n hx hb dX12_isSaid_89 rfl (lv_at hl 1 rfl) ?_
  refine va_get (D := (dC, dI)) (ci := 12) (v := .ref h_truths) (C := RX12) (T := TX12) (N := 52) hx hb hts (fun w h => List.mem_cons_of_mem _ (inU_12 w h)) hown hK hP 0 rfl rfl 48 (by decide) (hts _ (List.mem_cons_of_mem _ U_241)) (fun _ h9 => h9) rfl dX12_isSaid_90 ?_
  refine lv_iload_n hx hb dX12_isSaid_93 rfl (lv_at hl 0 rfl) ?_
  refine lv_iconst (v := 1) hx hb dX12_isSaid_94 (by decide) ?_
  refine z_pc (pc' := 95) rfl ?_
  refine lv_isub hx hb dX12_isSaid_95 ?_
  refine lv_aload_n hx hb dX12_isSaid_96 rfl (lv_at hl 1 rfl) ?_
  refine va_get (D := (dC, dI)) (ci := 12) (v := .ref h_s) (C := RX12) (T := TX12) (N := 52) hx hb hts (fun w h => List.mem_cons_of_mem _ (inU_12 w h)) hown hK hP 0 rfl rfl 6 (by decide) (hts _ (List.mem_cons_of_mem _ U_225)) (fun _ h9 => h9) rfl dX12_isSaid_97 ?_
  refine lv_iload hx hb dX12_isSaid_100 (lv_at hl 4 rfl) ?_
  obtain ⟨hg, hr⟩ := gI_s hr
  refine z_iald hx hb hK hP 1 0 rfl rfl hg rfl dX12_isSaid_102 ?_
  refine lv_bipush (v := 21) hx hb dX12_isSaid_103 (by decide) ?_
  refine z_pc (pc' := 105) rfl ?_
  refine lv_icmp_ne (tgt := 136) hx hb dX12_isSaid_105 (by decide) (fun hc => ?_) (fun hc => ?_)
  · have hr := iteN hc hr
    refine lv_aload_n hx hb dX12_isSaid_136 rfl (lv_at hl 1 rfl) ?_
    refine va_get (D := (dC, dI)) (ci := 12) (v := .ref h_truths) (C := RX12) (T := TX12) (N := 52) hx hb hts (fun w h => List.mem_cons_of_mem _ (inU_12 w h)) hown hK hP 0 rfl rfl 48 (by decide) (hts _ (List.mem_cons_of_mem _ U_241)) (fun _ h9 => h9) rfl dX12_isSaid_137 ?_
    refine lv_iload_n hx hb dX12_isSaid_140 rfl (lv_at hl 0 rfl) ?_
    refine lv_iconst (v := 1) hx hb dX12_isSaid_141 (by decide) ?_
    refine lv_isub hx hb dX12_isSaid_142 ?_
    refine z_pc (pc' := 143) rfl ?_
    obtain ⟨hg, hr⟩ := gI_s hr
    refine z_zald hx hb hK hP 2 3 rfl rfl hg rfl dX12_isSaid_143 ?_
    refine lv_if_ne (tgt := 156) hx hb dX12_isSaid_144 (by decide) (fun hc => ?_) (fun hc => ?_)
    · have hr := iteN hc hr
      refine lv_iconst (v := 1) hx hb dX12_isSaid_156 (by decide) ?_
      refine lv_goto (tgt := 161) hx hb dX12_isSaid_157 (by decide) ?_
      obtain ⟨hg, hr⟩ := gI_s hr
      obtain ⟨w1, hw1, hr⟩ := nm_s hr
      refine z_zast hx hb hK hP hD hS 2 3 rfl rfl hg rfl hw1 dX12_isSaid_161 (fun H locs hP hD hS => ?_)
      have hP : va_P (dC, dI) vwCl [oX12 h_this v_thrown h_tape v_length v_size v_p v_limit h_s h_h h_read h_names h_reserved v_token v_at v_span v_number v_fault v_faultAt v_word v_got v_lines v_hasChairs h_undone h_before v_undoMany v_hostIn v_nextMany v_trickSet v_pushSet v_hasTrick v_hasPush h_purse h_hostRow v_hostMany v_menuSet v_watchTired v_hasProud h_text v_textMany v_seed v_toldMany h_toldAt v_hasTold h_stack v_codes v_ones v_top v_deep v_isWhole h_truths h_imaged h_namesKept h_areKept, aI cI h_s 273 v_s, aZ cZ h_truths 45 w1] H := hP
      have hD : va_D A [oX12 h_this v_thrown h_tape v_length v_size v_p v_limit h_s h_h h_read h_names h_reserved v_token v_at v_span v_number v_fault v_faultAt v_word v_got v_lines v_hasChairs h_undone h_before v_undoMany v_hostIn v_nextMany v_trickSet v_pushSet v_hasTrick v_hasPush h_purse h_hostRow v_hostMany v_menuSet v_watchTired v_hasProud h_text v_textMany v_seed v_toldMany h_toldAt v_hasTold h_stack v_codes v_ones v_top v_deep v_isWhole h_truths h_imaged h_namesKept h_areKept, aI cI h_s 273 v_s, aZ cZ h_truths 45 w1] := hD
      refine lv_goto (tgt := 204) hx hb dX12_isSaid_162 (by decide) ?_
      refine lv_iinc (v := (x3 + 1)) (lv' := [(3, .int (x3 + 1)), (2, .int (x2 + (-1))), (0, .ref h_this), (1, .int x1), (4, .int x4)]) hx hb dX12_isSaid_204 hl (k := 3) rfl rfl (by decide) rfl (fun ls hl => ?_)
      refine z_pc (pc' := 207) rfl ?_
      refine lv_goto (tgt := 4) hx hb dX12_isSaid_207 (by decide) ?_
      exact hk4 w1 x1 (x2 + (-1)) (x3 + 1) hr _ _ ⟨hK, hP, hD, hS⟩ ls (lv_sub hl [2, 3, 1, 0] rfl)
    · have hr := iteP hc hr
      refine lv_aload_n hx hb dX12_isSaid_147 rfl (lv_at hl 1 rfl) ?_
      refine va_get (D := (dC, dI)) (ci := 12) (v := .ref h_truths) (C := RX12) (T := TX12) (N := 52) hx hb hts (fun w h => List.mem_cons_of_mem _ (inU_12 w h)) hown hK hP 0 rfl rfl 48 (by decide) (hts _ (List.mem_cons_of_mem _ U_241)) (fun _ h9 => h9) rfl dX12_isSaid_148 ?_
      refine lv_iload_n hx hb dX12_isSaid_151 rfl (lv_at hl 0 rfl) ?_
      obtain ⟨hg, hr⟩ := gI_s hr
      refine z_zald hx hb hK hP 2 3 rfl rfl hg rfl dX12_isSaid_152 ?_
      refine lv_if_eq (tgt := 160) hx hb dX12_isSaid_153 (by decide) (fun hc => ?_) (fun hc => ?_)
      · have hr := iteP hc hr
        refine lv_iconst (v := 0) hx hb dX12_isSaid_160 (by decide) ?_
        obtain ⟨hg, hr⟩ := gI_s hr
        obtain ⟨w2, hw2, hr⟩ := nm_s hr
        refine z_zast hx hb hK hP hD hS 2 3 rfl rfl hg rfl hw2 dX12_isSaid_161 (fun H locs hP hD hS => ?_)
        have hP : va_P (dC, dI) vwCl [oX12 h_this v_thrown h_tape v_length v_size v_p v_limit h_s h_h h_read h_names h_reserved v_token v_at v_span v_number v_fault v_faultAt v_word v_got v_lines v_hasChairs h_undone h_before v_undoMany v_hostIn v_nextMany v_trickSet v_pushSet v_hasTrick v_hasPush h_purse h_hostRow v_hostMany v_menuSet v_watchTired v_hasProud h_text v_textMany v_seed v_toldMany h_toldAt v_hasTold h_stack v_codes v_ones v_top v_deep v_isWhole h_truths h_imaged h_namesKept h_areKept, aI cI h_s 273 v_s, aZ cZ h_truths 45 w2] H := hP
        have hD : va_D A [oX12 h_this v_thrown h_tape v_length v_size v_p v_limit h_s h_h h_read h_names h_reserved v_token v_at v_span v_number v_fault v_faultAt v_word v_got v_lines v_hasChairs h_undone h_before v_undoMany v_hostIn v_nextMany v_trickSet v_pushSet v_hasTrick v_hasPush h_purse h_hostRow v_hostMany v_menuSet v_watchTired v_hasProud h_text v_textMany v_seed v_toldMany h_toldAt v_hasTold h_stack v_codes v_ones v_top v_deep v_isWhole h_truths h_imaged h_namesKept h_areKept, aI cI h_s 273 v_s, aZ cZ h_truths 45 w2] := hD
        refine lv_goto (tgt := 204) hx hb dX12_isSaid_162 (by decide) ?_
        refine lv_iinc (v := (x3 + 1)) (lv' := [(3, .int (x3 + 1)), (2, .int (x2 + (-1))), (0, .ref h_this), (1, .int x1), (4, .int x4)]) hx hb dX12_isSaid_204 hl (k := 3) rfl rfl (by decide) rfl (fun ls hl => ?_)
        refine lv_goto (tgt := 4) hx hb dX12_isSaid_207 (by decide) ?_
        exact hk4 w2 x1 (x2 + (-1)) (x3 + 1) hr _ _ ⟨hK, hP, hD, hS⟩ ls (lv_sub hl [2, 3, 1, 0] rfl)
      · have hr := iteN hc hr
        refine lv_iconst (v := 1) hx hb dX12_isSaid_156 (by decide) ?_
        refine lv_goto (tgt := 161) hx hb dX12_isSaid_157 (by decide) ?_
        obtain ⟨hg, hr⟩ := gI_s hr
        obtain ⟨w3, hw3, hr⟩ := nm_s hr
        refine z_zast hx hb hK hP hD hS 2 3 rfl rfl hg rfl hw3 dX12_isSaid_161 (fun H locs hP hD hS => ?_)
        have hP : va_P (dC, dI) vwCl [oX12 h_this v_thrown h_tape v_length v_size v_p v_limit h_s h_h h_read h_names h_reserved v_token v_at v_span v_number v_fault v_faultAt v_word v_got v_lines v_hasChairs h_undone h_before v_undoMany v_hostIn v_nextMany v_trickSet v_pushSet v_hasTrick v_hasPush h_purse h_hostRow v_hostMany v_menuSet v_watchTired v_hasProud h_text v_textMany v_seed v_toldMany h_toldAt v_hasTold h_stack v_codes v_ones v_top v_deep v_isWhole h_truths h_imaged h_namesKept h_areKept, aI cI h_s 273 v_s, aZ cZ h_truths 45 w3] H := hP
        have hD : va_D A [oX12 h_this v_thrown h_tape v_length v_size v_p v_limit h_s h_h h_read h_names h_reserved v_token v_at v_span v_number v_fault v_faultAt v_word v_got v_lines v_hasChairs h_undone h_before v_undoMany v_hostIn v_nextMany v_trickSet v_pushSet v_hasTrick v_hasPush h_purse h_hostRow v_hostMany v_menuSet v_watchTired v_hasProud h_text v_textMany v_seed v_toldMany h_toldAt v_hasTold h_stack v_codes v_ones v_top v_deep v_isWhole h_truths h_imaged h_namesKept h_areKept, aI cI h_s 273 v_s, aZ cZ h_truths 45 w3] := hD
        refine lv_goto (tgt := 204) hx hb dX12_isSaid_162 (by decide) ?_
        refine lv_iinc (v := (x3 + 1)) (lv' := [(3, .int (x3 + 1)), (2, .int (x2 + (-1))), (0, .ref h_this), (1, .int x1), (4, .int x4)]) hx hb dX12_isSaid_204 hl (k := 3) rfl rfl (by decide) rfl (fun ls hl => ?_)
        refine z_pc (pc' := 207) rfl ?_
        refine lv_goto (tgt := 4) hx hb dX12_isSaid_207 (by decide) ?_
        exact hk4 w3 x1 (x2 + (-1)) (x3 + 1) hr _ _ ⟨hK, hP, hD, hS⟩ ls (lv_sub hl [2, 3, 1, 0] rfl)
  · have hr := iteP hc hr
    refine lv_aload_n hx hb dX12_isSaid_108 rfl (lv_at hl 1 rfl) ?_
    refine va_get (D := (dC, dI)) (ci := 12) (v := .ref h_truths) (C := RX12) (T := TX12) (N := 52) hx hb hts (fun w h => List.mem_cons_of_mem _ (inU_12 w h)) hown hK hP 0 rfl rfl 48 (by decide) (hts _ (List.mem_cons_of_mem _ U_241)) (fun _ h9 => h9) rfl dX12_isSaid_109 ?_
    refine lv_iload_n hx hb dX12_isSaid_112 rfl (lv_at hl 0 rfl) ?_
    refine lv_iconst (v := 1) hx hb dX12_isSaid_113 (by decide) ?_
    refine lv_isub hx hb dX12_isSaid_114 ?_
    refine z_pc (pc' := 115) rfl ?_
    obtain ⟨hg, hr⟩ := gI_s hr
    refine z_zald hx hb hK hP 2 3 rfl rfl hg rfl dX12_isSaid_115 ?_
    refine lv_if_eq (tgt := 132) hx hb dX12_isSaid_116 (by decide) (fun hc => ?_) (fun hc => ?_)
    · have hr := iteP hc hr
      refine lv_iconst (v := 0) hx hb dX12_isSaid_132 (by decide) ?_
      refine lv_goto (tgt := 161) hx hb dX12_isSaid_133 (by decide) ?_
      obtain ⟨hg, hr⟩ := gI_s hr
      obtain ⟨w4, hw4, hr⟩ := nm_s hr
      refine z_zast hx hb hK hP hD hS 2 3 rfl rfl hg rfl hw4 dX12_isSaid_161 (fun H locs hP hD hS => ?_)
      have hP : va_P (dC, dI) vwCl [oX12 h_this v_thrown h_tape v_length v_size v_p v_limit h_s h_h h_read h_names h_reserved v_token v_at v_span v_number v_fault v_faultAt v_word v_got v_lines v_hasChairs h_undone h_before v_undoMany v_hostIn v_nextMany v_trickSet v_pushSet v_hasTrick v_hasPush h_purse h_hostRow v_hostMany v_menuSet v_watchTired v_hasProud h_text v_textMany v_seed v_toldMany h_toldAt v_hasTold h_stack v_codes v_ones v_top v_deep v_isWhole h_truths h_imaged h_namesKept h_areKept, aI cI h_s 273 v_s, aZ cZ h_truths 45 w4] H := hP
      have hD : va_D A [oX12 h_this v_thrown h_tape v_length v_size v_p v_limit h_s h_h h_read h_names h_reserved v_token v_at v_span v_number v_fault v_faultAt v_word v_got v_lines v_hasChairs h_undone h_before v_undoMany v_hostIn v_nextMany v_trickSet v_pushSet v_hasTrick v_hasPush h_purse h_hostRow v_hostMany v_menuSet v_watchTired v_hasProud h_text v_textMany v_seed v_toldMany h_toldAt v_hasTold h_stack v_codes v_ones v_top v_deep v_isWhole h_truths h_imaged h_namesKept h_areKept, aI cI h_s 273 v_s, aZ cZ h_truths 45 w4] := hD
      refine lv_goto (tgt := 204) hx hb dX12_isSaid_162 (by decide) ?_
      refine lv_iinc (v := (x3 + 1)) (lv' := [(3, .int (x3 + 1)), (2, .int (x2 + (-1))), (0, .ref h_this), (1, .int x1), (4, .int x4)]) hx hb dX12_isSaid_204 hl (k := 3) rfl rfl (by decide) rfl (fun ls hl => ?_)
      refine z_pc (pc' := 207) rfl ?_
      refine lv_goto (tgt := 4) hx hb dX12_isSaid_207 (by decide) ?_
      exact hk4 w4 x1 (x2 + (-1)) (x3 + 1) hr _ _ ⟨hK, hP, hD, hS⟩ ls (lv_sub hl [2, 3, 1, 0] rfl)
    · have hr := iteN hc hr
      refine lv_aload_n hx hb dX12_isSaid_119 rfl (lv_at hl 1 rfl) ?_
      refine va_get (D := (dC, dI)) (ci := 12) (v := .ref h_truths) (C := RX12) (T := TX12) (N := 52) hx hb hts (fun w h => List.mem_cons_of_mem _ (inU_12 w h)) hown hK hP 0 rfl rfl 48 (by decide) (hts _ (List.mem_cons_of_mem _ U_241)) (fun _ h9 => h9) rfl dX12_isSaid_120 ?_
      refine lv_iload_n hx hb dX12_isSaid_123 rfl (lv_at hl 0 rfl) ?_
      obtain ⟨hg, hr⟩ := gI_s hr
      refine z_zald hx hb hK hP 2 3 rfl rfl hg rfl dX12_isSaid_124 ?_
      refine lv_if_eq (tgt := 132) hx hb dX12_isSaid_125 (by decide) (fun hc => ?_) (fun hc => ?_)
      · have hr := iteP hc hr
        refine lv_iconst (v := 0) hx hb dX12_isSaid_132 (by decide) ?_
        refine lv_goto (tgt := 161) hx hb dX12_isSaid_133 (by decide) ?_
        obtain ⟨hg, hr⟩ := gI_s hr
        obtain ⟨w5, hw5, hr⟩ := nm_s hr
        refine z_zast hx hb hK hP hD hS 2 3 rfl rfl hg rfl hw5 dX12_isSaid_161 (fun H locs hP hD hS => ?_)
        have hP : va_P (dC, dI) vwCl [oX12 h_this v_thrown h_tape v_length v_size v_p v_limit h_s h_h h_read h_names h_reserved v_token v_at v_span v_number v_fault v_faultAt v_word v_got v_lines v_hasChairs h_undone h_before v_undoMany v_hostIn v_nextMany v_trickSet v_pushSet v_hasTrick v_hasPush h_purse h_hostRow v_hostMany v_menuSet v_watchTired v_hasProud h_text v_textMany v_seed v_toldMany h_toldAt v_hasTold h_stack v_codes v_ones v_top v_deep v_isWhole h_truths h_imaged h_namesKept h_areKept, aI cI h_s 273 v_s, aZ cZ h_truths 45 w5] H := hP
        have hD : va_D A [oX12 h_this v_thrown h_tape v_length v_size v_p v_limit h_s h_h h_read h_names h_reserved v_token v_at v_span v_number v_fault v_faultAt v_word v_got v_lines v_hasChairs h_undone h_before v_undoMany v_hostIn v_nextMany v_trickSet v_pushSet v_hasTrick v_hasPush h_purse h_hostRow v_hostMany v_menuSet v_watchTired v_hasProud h_text v_textMany v_seed v_toldMany h_toldAt v_hasTold h_stack v_codes v_ones v_top v_deep v_isWhole h_truths h_imaged h_namesKept h_areKept, aI cI h_s 273 v_s, aZ cZ h_truths 45 w5] := hD
        refine lv_goto (tgt := 204) hx hb dX12_isSaid_162 (by decide) ?_
        refine lv_iinc (v := (x3 + 1)) (lv' := [(3, .int (x3 + 1)), (2, .int (x2 + (-1))), (0, .ref h_this), (1, .int x1), (4, .int x4)]) hx hb dX12_isSaid_204 hl (k := 3) rfl rfl (by decide) rfl (fun ls hl => ?_)
        refine z_pc (pc' := 207) rfl ?_
        refine lv_goto (tgt := 4) hx hb dX12_isSaid_207 (by decide) ?_
        exact hk4 w5 x1 (x2 + (-1)) (x3 + 1) hr _ _ ⟨hK, hP, hD, hS⟩ ls (lv_sub hl [2, 3, 1, 0] rfl)
      · have hr := iteN hc hr
        refine lv_iconst (v := 1) hx hb dX12_isSaid_128 (by decide) ?_
        refine lv_goto (tgt := 161) hx hb dX12_isSaid_129 (by decide) ?_
        obtain ⟨hg, hr⟩ := gI_s hr
        obtain ⟨w6, hw6, hr⟩ := nm_s hr
        refine z_zast hx hb hK hP hD hS 2 3 rfl rfl hg rfl hw6 dX12_isSaid_161 (fun H locs hP hD hS => ?_)
        have hP : va_P (dC, dI) vwCl [oX12 h_this v_thrown h_tape v_length v_size v_p v_limit h_s h_h h_read h_names h_reserved v_token v_at v_span v_number v_fault v_faultAt v_word v_got v_lines v_hasChairs h_undone h_before v_undoMany v_hostIn v_nextMany v_trickSet v_pushSet v_hasTrick v_hasPush h_purse h_hostRow v_hostMany v_menuSet v_watchTired v_hasProud h_text v_textMany v_seed v_toldMany h_toldAt v_hasTold h_stack v_codes v_ones v_top v_deep v_isWhole h_truths h_imaged h_namesKept h_areKept, aI cI h_s 273 v_s, aZ cZ h_truths 45 w6] H := hP
        have hD : va_D A [oX12 h_this v_thrown h_tape v_length v_size v_p v_limit h_s h_h h_read h_names h_reserved v_token v_at v_span v_number v_fault v_faultAt v_word v_got v_lines v_hasChairs h_undone h_before v_undoMany v_hostIn v_nextMany v_trickSet v_pushSet v_hasTrick v_hasPush h_purse h_hostRow v_hostMany v_menuSet v_watchTired v_hasProud h_text v_textMany v_seed v_toldMany h_toldAt v_hasTold h_stack v_codes v_ones v_top v_deep v_isWhole h_truths h_imaged h_namesKept h_areKept, aI cI h_s 273 v_s, aZ cZ h_truths 45 w6] := hD
        refine lv_goto (tgt := 204) hx hb dX12_isSaid_162 (by decide) ?_
        refine lv_iinc (v := (x3 + 1)) (lv' := [(3, .int (x3 + 1)), (2, .int (x2 + (-1))), (0, .ref h_this), (1, .int x1), (4, .int x4)]) hx hb dX12_isSaid_204 hl (k := 3) rfl rfl (by decide) rfl (fun ls hl => ?_)
        refine z_pc (pc' := 207) rfl ?_
        refine lv_goto (tgt := 4) hx hb dX12_isSaid_207 (by decide) ?_
        exact hk4 w6 x1 (x2 + (-1)) (x3 + 1) hr _ _ ⟨hK, hP, hD, hS⟩ ls (lv_sub hl [2, 3, 1, 0] rfl)
set_option maxHeartbeats 4000000 in
set_option maxRecDepth 100000 in
theorem tX12_isSaid_4 {p : Program} {l : Launch} {e : Env} {R : Room} {s : State} {m : MethodId} {args : Array Value} {below : List Frame} {meth : Method} {c : Code} {dC : Nat → ClassId} {dI : Nat → Nat → Nat} {cI cJ cB cZ cF cG : ClassId} {A : Nat → Prop} (hA : ∀ q : Nat, s.heap.size ≤ q → A q) (C0 : Cx p s m meth c args cX12_isSaid 5 (some .boolean) RX12 uX12_isSaid) (hR : 3 ≤ R.frames ∧ 67 ≤ R.locals) (h_this : Nat) (h_s : Nat) (h_truths : Nat) (h_tape : Nat) (h_h : Nat) (h_read : Nat) (h_names : Nat) (h_reserved : Nat) (h_undone : Nat) (h_before : Nat) (h_purse : Nat) (h_hostRow : Nat) (h_text : Nat) (h_toldAt : Nat) (h_stack : Nat) (h_imaged : Nat) (h_namesKept : Nat) (h_areKept : Nat) (v_thrown : Int32) (v_length : Int32) (v_size : Int32) (v_p : Int32) (v_limit : Int32) (v_token : Int32) (v_at : Int32) (v_span : Int32) (v_number : Int32) (v_fault : Int32) (v_faultAt : Int32) (v_word : Int64) (v_got : Int32) (v_lines : Int32) (v_hasChairs : Int32) (v_undoMany : Int32) (v_hostIn : Int32) (v_nextMany : Int32) (v_trickSet : Int32) (v_pushSet : Int32) (v_hasTrick : Int32) (v_hasPush : Int32) (v_hostMany : Int32) (v_menuSet : Int32) (v_watchTired : Int32) (v_hasProud : Int32) (v_textMany : Int32) (v_seed : Int32) (v_toldMany : Int32) (v_hasTold : Int32) (v_codes : Int32) (v_ones : Int32) (v_top : Int32) (v_deep : Int32) (v_isWhole : Int32) (v_s : Nat → Int32) (o_r : Int32) (o_truths : Nat → Int32) :
    ∀ n : Nat, ∀ (v_truths : Nat → Int32) (x1 : Int32) (x2 : Int32) (x3 : Int32), lX12_isSaid_4 v_s n v_truths x1 x2 x3 = some (o_r, o_truths) → ∀ (H : Heap) (locs : List Loc), Wd dC dI cI cJ cB cZ cF cG A s H locs [oX12 h_this v_thrown h_tape v_length v_size v_p v_limit h_s h_h h_read h_names h_reserved v_token v_at v_span v_number v_fault v_faultAt v_word v_got v_lines v_hasChairs h_undone h_before v_undoMany v_hostIn v_nextMany v_trickSet v_pushSet v_hasTrick v_hasPush h_purse h_hostRow v_hostMany v_menuSet v_watchTired v_hasProud h_text v_textMany v_seed v_toldMany h_toldAt v_hasTold h_stack v_codes v_ones v_top v_deep v_isWhole h_truths h_imaged h_namesKept h_areKept, aI cI h_s 273 v_s, aZ cZ h_truths 45 v_truths] → ∀ (ls : Array Slot), lv_has ls 5 [(0, .ref h_this), (1, .int x1), (2, .int x2), (3, .int x3)] → W p l e R s m args below meth c H locs 0 0 (MQ below (PQz dC dI cI cJ cB cZ cF cG A o_r [oX12 h_this v_thrown h_tape v_length v_size v_p v_limit h_s h_h h_read h_names h_reserved v_token v_at v_span v_number v_fault v_faultAt v_word v_got v_lines v_hasChairs h_undone h_before v_undoMany v_hostIn v_nextMany v_trickSet v_pushSet v_hasTrick v_hasPush h_purse h_hostRow v_hostMany v_menuSet v_watchTired v_hasProud h_text v_textMany v_seed v_toldMany h_toldAt v_hasTold h_stack v_codes v_ones v_top v_deep v_isWhole h_truths h_imaged h_namesKept h_areKept, aI cI h_s 273 v_s, aZ cZ h_truths 45 o_truths]) args s 0 0 A) (F0 m 4 ls []) := by
  obtain ⟨hx, hb, hrt, hml, hown, hts, hlocks⟩ := id C0
  intro n
  induction n with
  | zero =>
    intro v_truths x1 x2 x3 hr
    exact nomatch (show (none : Option (Int32 × (Nat → Int32))) = some _ from hr)
  | succ n ih =>
    intro v_truths x1 x2 x3 hr H locs hW ls hl
    obtain ⟨hK, hP, hD, hS⟩ := hW
    have hr : (if (v_s 92) ≤ x3 then gB (v_truths 0) (some ((v_truths 0), v_truths)) else gI (93 + (3 * x3)) 273 (if (v_s (Int32.toNatClampNeg (93 + (3 * x3)))) = 20 then gI (x2 - 1) 45 (if (v_truths (Int32.toNatClampNeg (x2 - 1))) = 0 then gI (x2 - 1) 45 (nmv (upd v_truths (Int32.toNatClampNeg (x2 - 1)) (vp_nar .boolean 1)) (fun w10 => lX12_isSaid_4 v_s n w10 x1 x2 (x3 + 1))) else gI (x2 - 1) 45 (nmv (upd v_truths (Int32.toNatClampNeg (x2 - 1)) (vp_nar .boolean 0)) (fun w9 => lX12_isSaid_4 v_s n w9 x1 x2 (x3 + 1)))) else gI (93 + (3 * x3)) 273 (if (v_s (Int32.toNatClampNeg (93 + (3 * x3)))) = 21 then bX12_isSaid_86 v_s (lX12_isSaid_4 v_s n) v_truths x1 x2 x3 (93 + (3 * x3)) else gI (93 + (3 * x3)) 273 (if (v_s (Int32.toNatClampNeg (93 + (3 * x3)))) = 22 then bX12_isSaid_86 v_s (lX12_isSaid_4 v_s n) v_truths x1 x2 x3 (93 + (3 * x3)) else gI (93 + (3 * x3)) 273 (gI ((93 + (3 * x3)) + 1) 273 (gI ((93 + (3 * x3)) + 2) 273 (nmv (v_s (Int32.toNatClampNeg ((93 + (3 * x3)) + 2))) (fun w7 => (fX12_isLeaf v_s x1 (v_s (Int32.toNatClampNeg (93 + (3 * x3)))) (v_s (Int32.toNatClampNeg ((93 + (3 * x3)) + 1))) w7).bind (fun r_1 => gI x2 45 (nmv (upd v_truths (Int32.toNatClampNeg x2) (vp_nar .boolean r_1)) (fun w8 => lX12_isSaid_4 v_s n w8 x1 (x2 + 1) (x3 + 1))))))))))) : Option (Int32 × (Nat → Int32))) = some (o_r, o_truths) := hr
    refine lv_iload_n hx hb dX12_isSaid_4 rfl (lv_at hl 3 rfl) ?_
    refine lv_aload_n hx hb dX12_isSaid_5 rfl (lv_at hl 0 rfl) ?_
    refine va_get (D := (dC, dI)) (ci := 12) (v := .ref h_s) (C := RX12) (T := TX12) (N := 52) hx hb hts (fun w h => List.mem_cons_of_mem _ (inU_12 w h)) hown hK hP 0 rfl rfl 6 (by decide) (hts _ (List.mem_cons_of_mem _ U_225)) (fun _ h9 => h9) rfl dX12_isSaid_6 ?_
    refine lv_bipush (v := 92) hx hb dX12_isSaid_9 (by decide) ?_
    refine z_iald hx hb hK hP 1 0 rfl rfl (z_inL (by decide)) (show Int32.toNatClampNeg 92 = 92 by decide) dX12_isSaid_11 ?_
    refine z_pc (pc' := 12) rfl ?_
    refine lv_icmp_ge (tgt := 210) hx hb dX12_isSaid_12 (by decide) (fun hc => ?_) (fun hc => ?_)
    · have hr := iteP hc hr
      refine lv_aload_n hx hb dX12_isSaid_210 rfl (lv_at hl 0 rfl) ?_
      refine va_get (D := (dC, dI)) (ci := 12) (v := .ref h_truths) (C := RX12) (T := TX12) (N := 52) hx hb hts (fun w h => List.mem_cons_of_mem _ (inU_12 w h)) hown hK hP 0 rfl rfl 48 (by decide) (hts _ (List.mem_cons_of_mem _ U_241)) (fun _ h9 => h9) rfl dX12_isSaid_211 ?_
      refine lv_iconst (v := 0) hx hb dX12_isSaid_214 (by decide) ?_
      refine z_zald hx hb hK hP 2 3 rfl rfl (z_inL (by decide)) (show Int32.toNatClampNeg 0 = 0 by decide) dX12_isSaid_215 ?_
      obtain ⟨hzb, hr⟩ := gB_s hr
      have q0 := Option.some.inj hr
      obtain ⟨e0, q1⟩ := Prod.mk.inj q0
      subst e0; subst q1
      exact W.zret (v := (v_truths 0)) hx hb hrt hzb (fun t ht hW => ⟨⟨(v_truths 0), (), rfl, ⟨rfl, hzb⟩, by rw [ht]; exact hP, va_K.moved hW.alike hK, hD⟩, hS.F ht⟩) hS.2.2 dX12_isSaid_216 hlocks
    · have hr := iteN hc hr
      refine lv_bipush (v := 93) hx hb dX12_isSaid_15 (by decide) ?_
      refine lv_iconst (v := 3) hx hb dX12_isSaid_17 (by decide) ?_
      refine lv_iload_n hx hb dX12_isSaid_18 rfl (lv_at hl 3 rfl) ?_
      refine lv_imul hx hb dX12_isSaid_19 ?_
      refine lv_iadd hx hb dX12_isSaid_20 ?_
      refine z_pc (pc' := 21) rfl ?_
      refine lv_istore (lv' := [(4, .int (93 + (3 * x3))), (0, .ref h_this), (1, .int x1), (2, .int x2), (3, .int x3)]) hx hb dX12_isSaid_21 hl (by decide) rfl (fun ls hl => ?_)
      refine lv_aload_n hx hb dX12_isSaid_23 rfl (lv_at hl 1 rfl) ?_
      refine va_get (D := (dC, dI)) (ci := 12) (v := .ref h_s) (C := RX12) (T := TX12) (N := 52) hx hb hts (fun w h => List.mem_cons_of_mem _ (inU_12 w h)) hown hK hP 0 rfl rfl 6 (by decide) (hts _ (List.mem_cons_of_mem _ U_225)) (fun _ h9 => h9) rfl dX12_isSaid_24 ?_
      refine lv_iload hx hb dX12_isSaid_27 (lv_at hl 0 rfl) ?_
      obtain ⟨hg, hr⟩ := gI_s hr
      refine z_iald hx hb hK hP 1 0 rfl rfl hg rfl dX12_isSaid_29 ?_
      refine lv_bipush (v := 20) hx hb dX12_isSaid_30 (by decide) ?_
      refine z_pc (pc' := 32) rfl ?_
      refine lv_icmp_ne (tgt := 62) hx hb dX12_isSaid_32 (by decide) (fun hc => ?_) (fun hc => ?_)
      · have hr := iteN hc hr
        refine lv_aload_n hx hb dX12_isSaid_62 rfl (lv_at hl 1 rfl) ?_
        refine va_get (D := (dC, dI)) (ci := 12) (v := .ref h_s) (C := RX12) (T := TX12) (N := 52) hx hb hts (fun w h => List.mem_cons_of_mem _ (inU_12 w h)) hown hK hP 0 rfl rfl 6 (by decide) (hts _ (List.mem_cons_of_mem _ U_225)) (fun _ h9 => h9) rfl dX12_isSaid_63 ?_
        refine lv_iload hx hb dX12_isSaid_66 (lv_at hl 0 rfl) ?_
        obtain ⟨hg, hr⟩ := gI_s hr
        refine z_iald hx hb hK hP 1 0 rfl rfl hg rfl dX12_isSaid_68 ?_
        refine lv_bipush (v := 21) hx hb dX12_isSaid_69 (by decide) ?_
        refine z_pc (pc' := 71) rfl ?_
        refine lv_icmp_eq (tgt := 86) hx hb dX12_isSaid_71 (by decide) (fun hc => ?_) (fun hc => ?_)
        · have hr := iteP hc hr
          exact tX12_isSaid_86 hA C0 hR h_this h_s h_truths h_tape h_h h_read h_names h_reserved h_undone h_before h_purse h_hostRow h_text h_toldAt h_stack h_imaged h_namesKept h_areKept v_thrown v_length v_size v_p v_limit v_token v_at v_span v_number v_fault v_faultAt v_word v_got v_lines v_hasChairs v_undoMany v_hostIn v_nextMany v_trickSet v_pushSet v_hasTrick v_hasPush v_hostMany v_menuSet v_watchTired v_hasProud v_textMany v_seed v_toldMany v_hasTold v_codes v_ones v_top v_deep v_isWhole v_s o_r o_truths ih v_truths x1 x2 x3 (93 + (3 * x3)) hr _ _ ⟨hK, hP, hD, hS⟩ ls (lv_sub hl [1, 2, 3, 4, 0] rfl)
        · have hr := iteN hc hr
          refine lv_aload_n hx hb dX12_isSaid_74 rfl (lv_at hl 1 rfl) ?_
          refine va_get (D := (dC, dI)) (ci := 12) (v := .ref h_s) (C := RX12) (T := TX12) (N := 52) hx hb hts (fun w h => List.mem_cons_of_mem _ (inU_12 w h)) hown hK hP 0 rfl rfl 6 (by decide) (hts _ (List.mem_cons_of_mem _ U_225)) (fun _ h9 => h9) rfl dX12_isSaid_75 ?_
          refine lv_iload hx hb dX12_isSaid_78 (lv_at hl 0 rfl) ?_
          obtain ⟨hg, hr⟩ := gI_s hr
          refine z_iald hx hb hK hP 1 0 rfl rfl hg rfl dX12_isSaid_80 ?_
          refine lv_bipush (v := 22) hx hb dX12_isSaid_81 (by decide) ?_
          refine z_pc (pc' := 83) rfl ?_
          refine lv_icmp_ne (tgt := 165) hx hb dX12_isSaid_83 (by decide) (fun hc => ?_) (fun hc => ?_)
          · have hr := iteN hc hr
            refine lv_aload_n hx hb dX12_isSaid_165 rfl (lv_at hl 1 rfl) ?_
            refine va_get (D := (dC, dI)) (ci := 12) (v := .ref h_truths) (C := RX12) (T := TX12) (N := 52) hx hb hts (fun w h => List.mem_cons_of_mem _ (inU_12 w h)) hown hK hP 0 rfl rfl 48 (by decide) (hts _ (List.mem_cons_of_mem _ U_241)) (fun _ h9 => h9) rfl dX12_isSaid_166 ?_
            refine lv_iload_n hx hb dX12_isSaid_169 rfl (lv_at hl 3 rfl) ?_
            refine lv_aload_n hx hb dX12_isSaid_170 rfl (lv_at hl 1 rfl) ?_
            refine lv_iload_n hx hb dX12_isSaid_171 rfl (lv_at hl 2 rfl) ?_
            refine z_pc (pc' := 172) rfl ?_
            refine lv_aload_n hx hb dX12_isSaid_172 rfl (lv_at hl 1 rfl) ?_
            refine va_get (D := (dC, dI)) (ci := 12) (v := .ref h_s) (C := RX12) (T := TX12) (N := 52) hx hb hts (fun w h => List.mem_cons_of_mem _ (inU_12 w h)) hown hK hP 0 rfl rfl 6 (by decide) (hts _ (List.mem_cons_of_mem _ U_225)) (fun _ h9 => h9) rfl dX12_isSaid_173 ?_
            refine lv_iload hx hb dX12_isSaid_176 (lv_at hl 0 rfl) ?_
            obtain ⟨hg, hr⟩ := gI_s hr
            refine z_iald hx hb hK hP 1 0 rfl rfl hg rfl dX12_isSaid_178 ?_
            refine lv_aload_n hx hb dX12_isSaid_179 rfl (lv_at hl 1 rfl) ?_
            refine va_get (D := (dC, dI)) (ci := 12) (v := .ref h_s) (C := RX12) (T := TX12) (N := 52) hx hb hts (fun w h => List.mem_cons_of_mem _ (inU_12 w h)) hown hK hP 0 rfl rfl 6 (by decide) (hts _ (List.mem_cons_of_mem _ U_225)) (fun _ h9 => h9) rfl dX12_isSaid_180 ?_
            refine z_pc (pc' := 183) rfl ?_
            refine lv_iload hx hb dX12_isSaid_183 (lv_at hl 0 rfl) ?_
            refine lv_iconst (v := 1) hx hb dX12_isSaid_185 (by decide) ?_
            refine lv_iadd hx hb dX12_isSaid_186 ?_
            obtain ⟨hg, hr⟩ := gI_s hr
            refine z_iald hx hb hK hP 1 0 rfl rfl hg rfl dX12_isSaid_187 ?_
            refine lv_aload_n hx hb dX12_isSaid_188 rfl (lv_at hl 1 rfl) ?_
            refine va_get (D := (dC, dI)) (ci := 12) (v := .ref h_s) (C := RX12) (T := TX12) (N := 52) hx hb hts (fun w h => List.mem_cons_of_mem _ (inU_12 w h)) hown hK hP 0 rfl rfl 6 (by decide) (hts _ (List.mem_cons_of_mem _ U_225)) (fun _ h9 => h9) rfl dX12_isSaid_189 ?_
            refine z_pc (pc' := 192) rfl ?_
            refine lv_iload hx hb dX12_isSaid_192 (lv_at hl 0 rfl) ?_
            refine lv_iconst (v := 2) hx hb dX12_isSaid_194 (by decide) ?_
            refine lv_iadd hx hb dX12_isSaid_195 ?_
            obtain ⟨hg, hr⟩ := gI_s hr
            refine z_iald hx hb hK hP 1 0 rfl rfl hg rfl dX12_isSaid_196 ?_
            obtain ⟨w7, hw7, hr⟩ := nm_s hr
            refine z_topi hw7 ?_
            obtain ⟨r_1, ho, hr⟩ := bind_s hr
            have hPc := hP.sub (ws' := [oX12 h_this v_thrown h_tape v_length v_size v_p v_limit h_s h_h h_read h_names h_reserved v_token v_at v_span v_number v_fault v_faultAt v_word v_got v_lines v_hasChairs h_undone h_before v_undoMany v_hostIn v_nextMany v_trickSet v_pushSet v_hasTrick v_hasPush h_purse h_hostRow v_hostMany v_menuSet v_watchTired v_hasProud h_text v_textMany v_seed v_toldMany h_toldAt v_hasTold h_stack v_codes v_ones v_top v_deep v_isWhole h_truths h_imaged h_namesKept h_areKept, aI cI h_s 273 v_s]) [0, 1] rfl
            have hDc := hD.sub (ws' := [oX12 h_this v_thrown h_tape v_length v_size v_p v_limit h_s h_h h_read h_names h_reserved v_token v_at v_span v_number v_fault v_faultAt v_word v_got v_lines v_hasChairs h_undone h_before v_undoMany v_hostIn v_nextMany v_trickSet v_pushSet v_hasTrick v_hasPush h_purse h_hostRow v_hostMany v_menuSet v_watchTired v_hasProud h_text v_textMany v_seed v_toldMany h_toldAt v_hasTold h_stack v_codes v_ones v_top v_deep v_isWhole h_truths h_imaged h_namesKept h_areKept, aI cI h_s 273 v_s]) [0, 1] (by decide) rfl
            have hFc := va_free (wc := [oX12 h_this v_thrown h_tape v_length v_size v_p v_limit h_s h_h h_read h_names h_reserved v_token v_at v_span v_number v_fault v_faultAt v_word v_got v_lines v_hasChairs h_undone h_before v_undoMany v_hostIn v_nextMany v_trickSet v_pushSet v_hasTrick v_hasPush h_purse h_hostRow v_hostMany v_menuSet v_watchTired v_hasProud h_text v_textMany v_seed v_toldMany h_toldAt v_hasTold h_stack v_codes v_ones v_top v_deep v_isWhole h_truths h_imaged h_namesKept h_areKept, aI cI h_s 273 v_s]) hD hS hA [0, 1] rfl
            refine va_calli (va_runV (As := [.int x1, .int (v_s (Int32.toNatClampNeg (93 + (3 * x3)))), .int (v_s (Int32.toNatClampNeg ((93 + (3 * x3)) + 1))), .int w7]) (rest := [.int x2, .ref h_truths]) ⟨hx, hb, hml, hown, hts⟩ (mX12_isLeaf l dC dI cI cJ cB cZ cF cG h_this h_s h_tape h_h h_read h_names h_reserved h_undone h_before h_purse h_hostRow h_text h_toldAt h_stack h_truths h_imaged h_namesKept h_areKept H.size v_thrown v_length v_size v_p v_limit v_token v_at v_span v_number v_fault v_faultAt v_word v_got v_lines v_hasChairs v_undoMany v_hostIn v_nextMany v_trickSet v_pushSet v_hasTrick v_hasPush v_hostMany v_menuSet v_watchTired v_hasProud v_textMany v_seed v_toldMany v_hasTold v_codes v_ones v_top v_deep v_isWhole v_s x1 (v_s (Int32.toNatClampNeg (93 + (3 * x3)))) (v_s (Int32.toNatClampNeg ((93 + (3 * x3)) + 1))) w7 r_1 ho) (cwV 4 hts (goodV U_1472 U_1473 U_1474 U_5 U_1475) rfl rfl rfl (by decide +kernel) ⟨Nat.le_trans (by decide) hR.1, Nat.le_trans (Nat.le_of_ble_eq_true rfl) hR.2⟩) ⟨fun a U g mk q => by obtain ⟨q0, q1, qP, qK, qD⟩ := q; exact ⟨q0, q1, qP, va_K.moved (u := U) (U := U.calling g mk a) (Vm.Alike.refl U.vm) qK, qD⟩, va_recv hK hPc (ci := 12) (q0 := 0) rfl rfl, fun U hU hW => ⟨rfl, by rw [hU], by rw [hU]; exact hPc, va_K.moved hW.alike hK, hDc.weaken (fun _ _ _ _ => trivial)⟩⟩ rfl rfl hl.1 rfl (lv_room (Nat.le_of_ble_eq_true rfl)) dX12_isSaid_197 ⟨Nat.zero_le _, Nat.zero_le _⟩) hS (fun q _ h => hFc q h) hFc (fun rz u t H1 locs ht hvm hw hB hz1 hk1 hS => ?_)
            obtain ⟨hP1, hK1, hD1⟩ := hB
            obtain ⟨hw, hz_1⟩ := hw
            have hw := hw.symm; subst hw
            rw [ht] at hP1
            obtain ⟨hP, hD⟩ := va_join (wr := [aZ cZ h_truths 45 v_truths]) (w1 := [oX12 h_this v_thrown h_tape v_length v_size v_p v_limit h_s h_h h_read h_names h_reserved v_token v_at v_span v_number v_fault v_faultAt v_word v_got v_lines v_hasChairs h_undone h_before v_undoMany v_hostIn v_nextMany v_trickSet v_pushSet v_hasTrick v_hasPush h_purse h_hostRow v_hostMany v_menuSet v_watchTired v_hasProud h_text v_textMany v_seed v_toldMany h_toldAt v_hasTold h_stack v_codes v_ones v_top v_deep v_isWhole h_truths h_imaged h_namesKept h_areKept, aI cI h_s 273 v_s]) hP hD [0, 1] [2] rfl rfl (by decide) (by decide) hk1 hFc hP1 hD1
            generalize H1 = H at hP hS ⊢
            have hP := hP.sub (ws' := [oX12 h_this v_thrown h_tape v_length v_size v_p v_limit h_s h_h h_read h_names h_reserved v_token v_at v_span v_number v_fault v_faultAt v_word v_got v_lines v_hasChairs h_undone h_before v_undoMany v_hostIn v_nextMany v_trickSet v_pushSet v_hasTrick v_hasPush h_purse h_hostRow v_hostMany v_menuSet v_watchTired v_hasProud h_text v_textMany v_seed v_toldMany h_toldAt v_hasTold h_stack v_codes v_ones v_top v_deep v_isWhole h_truths h_imaged h_namesKept h_areKept, aI cI h_s 273 v_s, aZ cZ h_truths 45 v_truths]) [1, 2, 0] rfl
            have hD := hD.sub (ws' := [oX12 h_this v_thrown h_tape v_length v_size v_p v_limit h_s h_h h_read h_names h_reserved v_token v_at v_span v_number v_fault v_faultAt v_word v_got v_lines v_hasChairs h_undone h_before v_undoMany v_hostIn v_nextMany v_trickSet v_pushSet v_hasTrick v_hasPush h_purse h_hostRow v_hostMany v_menuSet v_watchTired v_hasProud h_text v_textMany v_seed v_toldMany h_toldAt v_hasTold h_stack v_codes v_ones v_top v_deep v_isWhole h_truths h_imaged h_namesKept h_areKept, aI cI h_s 273 v_s, aZ cZ h_truths 45 v_truths]) [1, 2, 0] (by decide) rfl
            obtain ⟨hg, hr⟩ := gI_s hr
            obtain ⟨w8, hw8, hr⟩ := nm_s hr
            refine z_zast hx hb hK hP hD hS 2 3 rfl rfl hg rfl hw8 dX12_isSaid_200 (fun H locs hP hD hS => ?_)
            have hP : va_P (dC, dI) vwCl [oX12 h_this v_thrown h_tape v_length v_size v_p v_limit h_s h_h h_read h_names h_reserved v_token v_at v_span v_number v_fault v_faultAt v_word v_got v_lines v_hasChairs h_undone h_before v_undoMany v_hostIn v_nextMany v_trickSet v_pushSet v_hasTrick v_hasPush h_purse h_hostRow v_hostMany v_menuSet v_watchTired v_hasProud h_text v_textMany v_seed v_toldMany h_toldAt v_hasTold h_stack v_codes v_ones v_top v_deep v_isWhole h_truths h_imaged h_namesKept h_areKept, aI cI h_s 273 v_s, aZ cZ h_truths 45 w8] H := hP
            have hD : va_D A [oX12 h_this v_thrown h_tape v_length v_size v_p v_limit h_s h_h h_read h_names h_reserved v_token v_at v_span v_number v_fault v_faultAt v_word v_got v_lines v_hasChairs h_undone h_before v_undoMany v_hostIn v_nextMany v_trickSet v_pushSet v_hasTrick v_hasPush h_purse h_hostRow v_hostMany v_menuSet v_watchTired v_hasProud h_text v_textMany v_seed v_toldMany h_toldAt v_hasTold h_stack v_codes v_ones v_top v_deep v_isWhole h_truths h_imaged h_namesKept h_areKept, aI cI h_s 273 v_s, aZ cZ h_truths 45 w8] := hD
            refine z_pc (pc' := 201) rfl ?_
            refine lv_iinc (v := (x2 + 1)) (lv' := [(2, .int (x2 + 1)), (4, .int (93 + (3 * x3))), (0, .ref h_this), (1, .int x1), (3, .int x3)]) hx hb dX12_isSaid_201 hl (k := 3) rfl rfl (by decide) rfl (fun ls hl => ?_)
            refine lv_iinc (v := (x3 + 1)) (lv' := [(3, .int (x3 + 1)), (2, .int (x2 + 1)), (4, .int (93 + (3 * x3))), (0, .ref h_this), (1, .int x1)]) hx hb dX12_isSaid_204 hl (k := 4) rfl rfl (by decide) rfl (fun ls hl => ?_)
            refine lv_goto (tgt := 4) hx hb dX12_isSaid_207 (by decide) ?_
            exact ih w8 x1 (x2 + 1) (x3 + 1) hr _ _ ⟨hK, hP, hD, hS⟩ ls (lv_sub hl [3, 4, 1, 0] rfl)
          · have hr := iteP hc hr
            exact tX12_isSaid_86 hA C0 hR h_this h_s h_truths h_tape h_h h_read h_names h_reserved h_undone h_before h_purse h_hostRow h_text h_toldAt h_stack h_imaged h_namesKept h_areKept v_thrown v_length v_size v_p v_limit v_token v_at v_span v_number v_fault v_faultAt v_word v_got v_lines v_hasChairs v_undoMany v_hostIn v_nextMany v_trickSet v_pushSet v_hasTrick v_hasPush v_hostMany v_menuSet v_watchTired v_hasProud v_textMany v_seed v_toldMany v_hasTold v_codes v_ones v_top v_deep v_isWhole v_s o_r o_truths ih v_truths x1 x2 x3 (93 + (3 * x3)) hr _ _ ⟨hK, hP, hD, hS⟩ ls (lv_sub hl [1, 2, 3, 4, 0] rfl)
      · have hr := iteP hc hr
        refine lv_aload_n hx hb dX12_isSaid_35 rfl (lv_at hl 1 rfl) ?_
        refine va_get (D := (dC, dI)) (ci := 12) (v := .ref h_truths) (C := RX12) (T := TX12) (N := 52) hx hb hts (fun w h => List.mem_cons_of_mem _ (inU_12 w h)) hown hK hP 0 rfl rfl 48 (by decide) (hts _ (List.mem_cons_of_mem _ U_241)) (fun _ h9 => h9) rfl dX12_isSaid_36 ?_
        refine lv_iload_n hx hb dX12_isSaid_39 rfl (lv_at hl 3 rfl) ?_
        refine lv_iconst (v := 1) hx hb dX12_isSaid_40 (by decide) ?_
        refine lv_isub hx hb dX12_isSaid_41 ?_
        refine z_pc (pc' := 42) rfl ?_
        refine lv_aload_n hx hb dX12_isSaid_42 rfl (lv_at hl 1 rfl) ?_
        refine va_get (D := (dC, dI)) (ci := 12) (v := .ref h_truths) (C := RX12) (T := TX12) (N := 52) hx hb hts (fun w h => List.mem_cons_of_mem _ (inU_12 w h)) hown hK hP 0 rfl rfl 48 (by decide) (hts _ (List.mem_cons_of_mem _ U_241)) (fun _ h9 => h9) rfl dX12_isSaid_43 ?_
        refine lv_iload_n hx hb dX12_isSaid_46 rfl (lv_at hl 3 rfl) ?_
        refine lv_iconst (v := 1) hx hb dX12_isSaid_47 (by decide) ?_
        refine lv_isub hx hb dX12_isSaid_48 ?_
        obtain ⟨hg, hr⟩ := gI_s hr
        refine z_zald hx hb hK hP 2 3 rfl rfl hg rfl dX12_isSaid_49 ?_
        refine z_pc (pc' := 50) rfl ?_
        refine lv_if_ne (tgt := 57) hx hb dX12_isSaid_50 (by decide) (fun hc => ?_) (fun hc => ?_)
        · have hr := iteN hc hr
          refine lv_iconst (v := 0) hx hb dX12_isSaid_57 (by decide) ?_
          obtain ⟨hg, hr⟩ := gI_s hr
          obtain ⟨w9, hw9, hr⟩ := nm_s hr
          refine z_zast hx hb hK hP hD hS 2 3 rfl rfl hg rfl hw9 dX12_isSaid_58 (fun H locs hP hD hS => ?_)
          have hP : va_P (dC, dI) vwCl [oX12 h_this v_thrown h_tape v_length v_size v_p v_limit h_s h_h h_read h_names h_reserved v_token v_at v_span v_number v_fault v_faultAt v_word v_got v_lines v_hasChairs h_undone h_before v_undoMany v_hostIn v_nextMany v_trickSet v_pushSet v_hasTrick v_hasPush h_purse h_hostRow v_hostMany v_menuSet v_watchTired v_hasProud h_text v_textMany v_seed v_toldMany h_toldAt v_hasTold h_stack v_codes v_ones v_top v_deep v_isWhole h_truths h_imaged h_namesKept h_areKept, aI cI h_s 273 v_s, aZ cZ h_truths 45 w9] H := hP
          have hD : va_D A [oX12 h_this v_thrown h_tape v_length v_size v_p v_limit h_s h_h h_read h_names h_reserved v_token v_at v_span v_number v_fault v_faultAt v_word v_got v_lines v_hasChairs h_undone h_before v_undoMany v_hostIn v_nextMany v_trickSet v_pushSet v_hasTrick v_hasPush h_purse h_hostRow v_hostMany v_menuSet v_watchTired v_hasProud h_text v_textMany v_seed v_toldMany h_toldAt v_hasTold h_stack v_codes v_ones v_top v_deep v_isWhole h_truths h_imaged h_namesKept h_areKept, aI cI h_s 273 v_s, aZ cZ h_truths 45 w9] := hD
          refine lv_goto (tgt := 204) hx hb dX12_isSaid_59 (by decide) ?_
          refine lv_iinc (v := (x3 + 1)) (lv' := [(3, .int (x3 + 1)), (4, .int (93 + (3 * x3))), (0, .ref h_this), (1, .int x1), (2, .int x2)]) hx hb dX12_isSaid_204 hl (k := 4) rfl rfl (by decide) rfl (fun ls hl => ?_)
          refine lv_goto (tgt := 4) hx hb dX12_isSaid_207 (by decide) ?_
          exact ih w9 x1 x2 (x3 + 1) hr _ _ ⟨hK, hP, hD, hS⟩ ls (lv_sub hl [2, 3, 4, 0] rfl)
        · have hr := iteP hc hr
          refine lv_iconst (v := 1) hx hb dX12_isSaid_53 (by decide) ?_
          refine lv_goto (tgt := 58) hx hb dX12_isSaid_54 (by decide) ?_
          obtain ⟨hg, hr⟩ := gI_s hr
          obtain ⟨w10, hw10, hr⟩ := nm_s hr
          refine z_zast hx hb hK hP hD hS 2 3 rfl rfl hg rfl hw10 dX12_isSaid_58 (fun H locs hP hD hS => ?_)
          have hP : va_P (dC, dI) vwCl [oX12 h_this v_thrown h_tape v_length v_size v_p v_limit h_s h_h h_read h_names h_reserved v_token v_at v_span v_number v_fault v_faultAt v_word v_got v_lines v_hasChairs h_undone h_before v_undoMany v_hostIn v_nextMany v_trickSet v_pushSet v_hasTrick v_hasPush h_purse h_hostRow v_hostMany v_menuSet v_watchTired v_hasProud h_text v_textMany v_seed v_toldMany h_toldAt v_hasTold h_stack v_codes v_ones v_top v_deep v_isWhole h_truths h_imaged h_namesKept h_areKept, aI cI h_s 273 v_s, aZ cZ h_truths 45 w10] H := hP
          have hD : va_D A [oX12 h_this v_thrown h_tape v_length v_size v_p v_limit h_s h_h h_read h_names h_reserved v_token v_at v_span v_number v_fault v_faultAt v_word v_got v_lines v_hasChairs h_undone h_before v_undoMany v_hostIn v_nextMany v_trickSet v_pushSet v_hasTrick v_hasPush h_purse h_hostRow v_hostMany v_menuSet v_watchTired v_hasProud h_text v_textMany v_seed v_toldMany h_toldAt v_hasTold h_stack v_codes v_ones v_top v_deep v_isWhole h_truths h_imaged h_namesKept h_areKept, aI cI h_s 273 v_s, aZ cZ h_truths 45 w10] := hD
          refine lv_goto (tgt := 204) hx hb dX12_isSaid_59 (by decide) ?_
          refine lv_iinc (v := (x3 + 1)) (lv' := [(3, .int (x3 + 1)), (4, .int (93 + (3 * x3))), (0, .ref h_this), (1, .int x1), (2, .int x2)]) hx hb dX12_isSaid_204 hl (k := 4) rfl rfl (by decide) rfl (fun ls hl => ?_)
          refine z_pc (pc' := 207) rfl ?_
          refine lv_goto (tgt := 4) hx hb dX12_isSaid_207 (by decide) ?_
          exact ih w10 x1 x2 (x3 + 1) hr _ _ ⟨hK, hP, hD, hS⟩ ls (lv_sub hl [2, 3, 4, 0] rfl)
set_option maxHeartbeats 4000000 in
set_option maxRecDepth 100000 in
theorem tX12_isSaid {p : Program} {l : Launch} {e : Env} {R : Room} {s : State} {m : MethodId} {args : Array Value} {below : List Frame} {meth : Method} {c : Code} {dC : Nat → ClassId} {dI : Nat → Nat → Nat} {cI cJ cB cZ cF cG : ClassId} {A : Nat → Prop} (hA : ∀ q : Nat, s.heap.size ≤ q → A q) (C0 : Cx p s m meth c args cX12_isSaid 5 (some .boolean) RX12 uX12_isSaid) (hR : 3 ≤ R.frames ∧ 67 ≤ R.locals) (h_this : Nat) (h_s : Nat) (h_truths : Nat) (h_tape : Nat) (h_h : Nat) (h_read : Nat) (h_names : Nat) (h_reserved : Nat) (h_undone : Nat) (h_before : Nat) (h_purse : Nat) (h_hostRow : Nat) (h_text : Nat) (h_toldAt : Nat) (h_stack : Nat) (h_imaged : Nat) (h_namesKept : Nat) (h_areKept : Nat) (v_thrown : Int32) (v_length : Int32) (v_size : Int32) (v_p : Int32) (v_limit : Int32) (v_token : Int32) (v_at : Int32) (v_span : Int32) (v_number : Int32) (v_fault : Int32) (v_faultAt : Int32) (v_word : Int64) (v_got : Int32) (v_lines : Int32) (v_hasChairs : Int32) (v_undoMany : Int32) (v_hostIn : Int32) (v_nextMany : Int32) (v_trickSet : Int32) (v_pushSet : Int32) (v_hasTrick : Int32) (v_hasPush : Int32) (v_hostMany : Int32) (v_menuSet : Int32) (v_watchTired : Int32) (v_hasProud : Int32) (v_textMany : Int32) (v_seed : Int32) (v_toldMany : Int32) (v_hasTold : Int32) (v_codes : Int32) (v_ones : Int32) (v_top : Int32) (v_deep : Int32) (v_isWhole : Int32) (v_s : Nat → Int32) (o_r : Int32) (o_truths : Nat → Int32) :
    ∀ (v_truths : Nat → Int32) (x1 : Int32), fX12_isSaid v_s v_truths x1 = some (o_r, o_truths) → ∀ (H : Heap) (locs : List Loc), Wd dC dI cI cJ cB cZ cF cG A s H locs [oX12 h_this v_thrown h_tape v_length v_size v_p v_limit h_s h_h h_read h_names h_reserved v_token v_at v_span v_number v_fault v_faultAt v_word v_got v_lines v_hasChairs h_undone h_before v_undoMany v_hostIn v_nextMany v_trickSet v_pushSet v_hasTrick v_hasPush h_purse h_hostRow v_hostMany v_menuSet v_watchTired v_hasProud h_text v_textMany v_seed v_toldMany h_toldAt v_hasTold h_stack v_codes v_ones v_top v_deep v_isWhole h_truths h_imaged h_namesKept h_areKept, aI cI h_s 273 v_s, aZ cZ h_truths 45 v_truths] → ∀ (ls : Array Slot), lv_has ls 5 [(0, .ref h_this), (1, .int x1)] → W p l e R s m args below meth c H locs 0 0 (MQ below (PQz dC dI cI cJ cB cZ cF cG A o_r [oX12 h_this v_thrown h_tape v_length v_size v_p v_limit h_s h_h h_read h_names h_reserved v_token v_at v_span v_number v_fault v_faultAt v_word v_got v_lines v_hasChairs h_undone h_before v_undoMany v_hostIn v_nextMany v_trickSet v_pushSet v_hasTrick v_hasPush h_purse h_hostRow v_hostMany v_menuSet v_watchTired v_hasProud h_text v_textMany v_seed v_toldMany h_toldAt v_hasTold h_stack v_codes v_ones v_top v_deep v_isWhole h_truths h_imaged h_namesKept h_areKept, aI cI h_s 273 v_s, aZ cZ h_truths 45 o_truths]) args s 0 0 A) (F0 m 0 ls []) := by
  obtain ⟨hx, hb, hrt, hml, hown, hts, hlocks⟩ := id C0
  intro v_truths x1 hr H locs hW ls hl
  obtain ⟨hK, hP, hD, hS⟩ := hW
  have hr : (lX12_isSaid_4 v_s 5000 v_truths x1 0 0 : Option (Int32 × (Nat → Int32))) = some (o_r, o_truths) := hr
  refine lv_iconst (v := 0) hx hb dX12_isSaid_0 (by decide) ?_
  refine lv_istore_n (lv' := [(2, .int 0), (0, .ref h_this), (1, .int x1)]) hx hb dX12_isSaid_1 rfl hl (by decide) rfl (fun ls hl => ?_)
  refine lv_iconst (v := 0) hx hb dX12_isSaid_2 (by decide) ?_
  refine lv_istore_n (lv' := [(3, .int 0), (2, .int 0), (0, .ref h_this), (1, .int x1)]) hx hb dX12_isSaid_3 rfl hl (by decide) rfl (fun ls hl => ?_)
  exact tX12_isSaid_4 hA C0 hR h_this h_s h_truths h_tape h_h h_read h_names h_reserved h_undone h_before h_purse h_hostRow h_text h_toldAt h_stack h_imaged h_namesKept h_areKept v_thrown v_length v_size v_p v_limit v_token v_at v_span v_number v_fault v_faultAt v_word v_got v_lines v_hasChairs v_undoMany v_hostIn v_nextMany v_trickSet v_pushSet v_hasTrick v_hasPush v_hostMany v_menuSet v_watchTired v_hasProud v_textMany v_seed v_toldMany v_hasTold v_codes v_ones v_top v_deep v_isWhole v_s o_r o_truths 5000 v_truths x1 0 0 hr _ _ ⟨hK, hP, hD, hS⟩ ls (lv_sub hl [2, 3, 1, 0] rfl)
set_option maxHeartbeats 4000000 in
set_option maxRecDepth 100000 in
theorem mX12_isSaid (l : Launch) (dC : Nat → ClassId) (dI : Nat → Nat → Nat) (cI cJ cB cZ cF cG : ClassId) (h_this : Nat) (h_s : Nat) (h_truths : Nat) (h_tape : Nat) (h_h : Nat) (h_read : Nat) (h_names : Nat) (h_reserved : Nat) (h_undone : Nat) (h_before : Nat) (h_purse : Nat) (h_hostRow : Nat) (h_text : Nat) (h_toldAt : Nat) (h_stack : Nat) (h_imaged : Nat) (h_namesKept : Nat) (h_areKept : Nat) (sz : Nat) (v_thrown : Int32) (v_length : Int32) (v_size : Int32) (v_p : Int32) (v_limit : Int32) (v_token : Int32) (v_at : Int32) (v_span : Int32) (v_number : Int32) (v_fault : Int32) (v_faultAt : Int32) (v_word : Int64) (v_got : Int32) (v_lines : Int32) (v_hasChairs : Int32) (v_undoMany : Int32) (v_hostIn : Int32) (v_nextMany : Int32) (v_trickSet : Int32) (v_pushSet : Int32) (v_hasTrick : Int32) (v_hasPush : Int32) (v_hostMany : Int32) (v_menuSet : Int32) (v_watchTired : Int32) (v_hasProud : Int32) (v_textMany : Int32) (v_seed : Int32) (v_toldMany : Int32) (v_hasTold : Int32) (v_codes : Int32) (v_ones : Int32) (v_top : Int32) (v_deep : Int32) (v_isWhole : Int32) (v_s : Nat → Int32) (v_truths : Nat → Int32) (x1 : Int32) (o_r : Int32) (o_truths : Nat → Int32) (hf : fX12_isSaid v_s v_truths x1 = some (o_r, o_truths)) : Met l yX12_isSaid uX12_isSaid ({ frames := 3, cells := 0, slots := 0, locals := 67 }) (va_Pc [.ref h_this, .int x1] (fun U => U.heap.size = sz ∧ va_P (dC, dI) vwCl [oX12 h_this v_thrown h_tape v_length v_size v_p v_limit h_s h_h h_read h_names h_reserved v_token v_at v_span v_number v_fault v_faultAt v_word v_got v_lines v_hasChairs h_undone h_before v_undoMany v_hostIn v_nextMany v_trickSet v_pushSet v_hasTrick v_hasPush h_purse h_hostRow v_hostMany v_menuSet v_watchTired v_hasProud h_text v_textMany v_seed v_toldMany h_toldAt v_hasTold h_stack v_codes v_ones v_top v_deep v_isWhole h_truths h_imaged h_namesKept h_areKept, aI cI h_s 273 v_s, aZ cZ h_truths 45 v_truths] U.heap ∧ va_K (dC, dI) vwCl (TYS cI cJ cB cZ cF cG) U ∧ va_D (fun _ => True) [oX12 h_this v_thrown h_tape v_length v_size v_p v_limit h_s h_h h_read h_names h_reserved v_token v_at v_span v_number v_fault v_faultAt v_word v_got v_lines v_hasChairs h_undone h_before v_undoMany v_hostIn v_nextMany v_trickSet v_pushSet v_hasTrick v_hasPush h_purse h_hostRow v_hostMany v_menuSet v_watchTired v_hasProud h_text v_textMany v_seed v_toldMany h_toldAt v_hasTold h_stack v_codes v_ones v_top v_deep v_isWhole h_truths h_imaged h_namesKept h_areKept, aI cI h_s 273 v_s, aZ cZ h_truths 45 v_truths])) (PQz dC dI cI cJ cB cZ cF cG (va_A [oX12 h_this v_thrown h_tape v_length v_size v_p v_limit h_s h_h h_read h_names h_reserved v_token v_at v_span v_number v_fault v_faultAt v_word v_got v_lines v_hasChairs h_undone h_before v_undoMany v_hostIn v_nextMany v_trickSet v_pushSet v_hasTrick v_hasPush h_purse h_hostRow v_hostMany v_menuSet v_watchTired v_hasProud h_text v_textMany v_seed v_toldMany h_toldAt v_hasTold h_stack v_codes v_ones v_top v_deep v_isWhole h_truths h_imaged h_namesKept h_areKept, aI cI h_s 273 v_s, aZ cZ h_truths 45 v_truths] sz) o_r [oX12 h_this v_thrown h_tape v_length v_size v_p v_limit h_s h_h h_read h_names h_reserved v_token v_at v_span v_number v_fault v_faultAt v_word v_got v_lines v_hasChairs h_undone h_before v_undoMany v_hostIn v_nextMany v_trickSet v_pushSet v_hasTrick v_hasPush h_purse h_hostRow v_hostMany v_menuSet v_watchTired v_hasProud h_text v_textMany v_seed v_toldMany h_toldAt v_hasTold h_stack v_codes v_ones v_top v_deep v_isWhole h_truths h_imaged h_namesKept h_areKept, aI cI h_s 273 v_s, aZ cZ h_truths 45 o_truths]) 0 0 (va_A [oX12 h_this v_thrown h_tape v_length v_size v_p v_limit h_s h_h h_read h_names h_reserved v_token v_at v_span v_number v_fault v_faultAt v_word v_got v_lines v_hasChairs h_undone h_before v_undoMany v_hostIn v_nextMany v_trickSet v_pushSet v_hasTrick v_hasPush h_purse h_hostRow v_hostMany v_menuSet v_watchTired v_hasProud h_text v_textMany v_seed v_toldMany h_toldAt v_hasTold h_stack v_codes v_ones v_top v_deep v_isWhole h_truths h_imaged h_namesKept h_areKept, aI cI h_s 273 v_s, aZ cZ h_truths 45 v_truths] sz) := by
  refine Met.ofW (cc := cX12_isSaid) (maxL := 5) (ret := (some .boolean)) (by decide) rfl ?_
  intro p e s m args below meth c s₁ B hml hv
  obtain ⟨rfl, hsz, hP, hK, hD0⟩ := hv
  have hx := B.exec
  have hb := B.bytes
  have hr := B.returns
  have hts := atoms_spec (ws := uX12_isSaid) B.pre
  have hown : s.vm.findClass RX12 = some m.cls := findClass_of_methodNamed B.named
  have hlocks := B.notSynchronized
  subst hsz
  have hD := hD0.self (sz := s.heap.size)
  generalize hAe : va_A [oX12 h_this v_thrown h_tape v_length v_size v_p v_limit h_s h_h h_read h_names h_reserved v_token v_at v_span v_number v_fault v_faultAt v_word v_got v_lines v_hasChairs h_undone h_before v_undoMany v_hostIn v_nextMany v_trickSet v_pushSet v_hasTrick v_hasPush h_purse h_hostRow v_hostMany v_menuSet v_watchTired v_hasProud h_text v_textMany v_seed v_toldMany h_toldAt v_hasTold h_stack v_codes v_ones v_top v_deep v_isWhole h_truths h_imaged h_namesKept h_areKept, aI cI h_s 273 v_s, aZ cZ h_truths 45 v_truths] s.heap.size = A at hD ⊢
  have hA : ∀ q : Nat, s.heap.size ≤ q → A q := fun q h => by rw [← hAe]; exact Or.inr h
  have hS : va_S A s.heap s.heap [] := va_S.rf
  have hl := lv_entry ([.ref h_this, .int x1]) (n := 5) (Nat.le_of_ble_eq_true rfl)
  rw [lg_entry_eq]
  generalize (lg_sl ([.ref h_this, .int x1]) ++ List.replicate (5 - (lg_sl ([.ref h_this, .int x1])).length) Slot.unset).toArray = ls at hl ⊢
  have hl : lv_has ls 5 [(0, .ref h_this), (1, .int x1)] := hl
  exact tX12_isSaid hA ⟨hx, hb, hr, hml, hown, hts, hlocks⟩ ⟨Nat.le_refl _, Nat.le_refl _⟩ h_this h_s h_truths h_tape h_h h_read h_names h_reserved h_undone h_before h_purse h_hostRow h_text h_toldAt h_stack h_imaged h_namesKept h_areKept v_thrown v_length v_size v_p v_limit v_token v_at v_span v_number v_fault v_faultAt v_word v_got v_lines v_hasChairs v_undoMany v_hostIn v_nextMany v_trickSet v_pushSet v_hasTrick v_hasPush v_hostMany v_menuSet v_watchTired v_hasProud v_textMany v_seed v_toldMany v_hasTold v_codes v_ones v_top v_deep v_isWhole v_s o_r o_truths v_truths x1 hf _ _ ⟨hK, hP, hD, hS⟩ ls hl
-- LastSeatModel.said(I)I
def uX12_said : List Cond := .code yX12_said cX12_said 4 (some .int) :: wsU
set_option maxHeartbeats 4000000 in
set_option maxRecDepth 100000 in
theorem tX12_said_26 {p : Program} {l : Launch} {e : Env} {R : Room} {s : State} {m : MethodId} {args : Array Value} {below : List Frame} {meth : Method} {c : Code} {dC : Nat → ClassId} {dI : Nat → Nat → Nat} {cI cJ cB cZ cF cG : ClassId} {A : Nat → Prop} (hA : ∀ q : Nat, s.heap.size ≤ q → A q) (C0 : Cx p s m meth c args cX12_said 4 (some .int) RX12 uX12_said) (hR : 4 ≤ R.frames ∧ 91 ≤ R.locals) (h_this : Nat) (h_s : Nat) (h_truths : Nat) (h_tape : Nat) (h_h : Nat) (h_read : Nat) (h_names : Nat) (h_reserved : Nat) (h_undone : Nat) (h_before : Nat) (h_purse : Nat) (h_hostRow : Nat) (h_text : Nat) (h_toldAt : Nat) (h_stack : Nat) (h_imaged : Nat) (h_namesKept : Nat) (h_areKept : Nat) (v_length : Int32) (v_size : Int32) (v_p : Int32) (v_limit : Int32) (v_token : Int32) (v_at : Int32) (v_span : Int32) (v_number : Int32) (v_fault : Int32) (v_faultAt : Int32) (v_word : Int64) (v_got : Int32) (v_lines : Int32) (v_hasChairs : Int32) (v_undoMany : Int32) (v_hostIn : Int32) (v_nextMany : Int32) (v_trickSet : Int32) (v_pushSet : Int32) (v_hasTrick : Int32) (v_hasPush : Int32) (v_hostMany : Int32) (v_menuSet : Int32) (v_watchTired : Int32) (v_hasProud : Int32) (v_textMany : Int32) (v_seed : Int32) (v_toldMany : Int32) (v_hasTold : Int32) (v_codes : Int32) (v_ones : Int32) (v_top : Int32) (v_deep : Int32) (v_isWhole : Int32) (v_s : Nat → Int32) (o_r : Int32) (o_thrown : Int32) (o_truths : Nat → Int32) :
    ∀ n : Nat, ∀ (v_thrown : Int32) (v_truths : Nat → Int32) (x1 : Int32) (x2 : Int32) (x3 : Int32), lX12_said_26 v_s n v_thrown v_truths x1 x2 x3 = some (o_r, o_thrown, o_truths) → ∀ (H : Heap) (locs : List Loc), Wd dC dI cI cJ cB cZ cF cG A s H locs [oX12 h_this v_thrown h_tape v_length v_size v_p v_limit h_s h_h h_read h_names h_reserved v_token v_at v_span v_number v_fault v_faultAt v_word v_got v_lines v_hasChairs h_undone h_before v_undoMany v_hostIn v_nextMany v_trickSet v_pushSet v_hasTrick v_hasPush h_purse h_hostRow v_hostMany v_menuSet v_watchTired v_hasProud h_text v_textMany v_seed v_toldMany h_toldAt v_hasTold h_stack v_codes v_ones v_top v_deep v_isWhole h_truths h_imaged h_namesKept h_areKept, aI cI h_s 273 v_s, aZ cZ h_truths 45 v_truths] → ∀ (ls : Array Slot), lv_has ls 4 [(0, .ref h_this), (1, .int x1), (2, .int x2), (3, .int x3)] → W p l e R s m args below meth c H locs 0 0 (MQ below (PQi dC dI cI cJ cB cZ cF cG A o_r [oX12 h_this o_thrown h_tape v_length v_size v_p v_limit h_s h_h h_read h_names h_reserved v_token v_at v_span v_number v_fault v_faultAt v_word v_got v_lines v_hasChairs h_undone h_before v_undoMany v_hostIn v_nextMany v_trickSet v_pushSet v_hasTrick v_hasPush h_purse h_hostRow v_hostMany v_menuSet v_watchTired v_hasProud h_text v_textMany v_seed v_toldMany h_toldAt v_hasTold h_stack v_codes v_ones v_top v_deep v_isWhole h_truths h_imaged h_namesKept h_areKept, aI cI h_s 273 v_s, aZ cZ h_truths 45 o_truths]) args s 0 0 A) (F0 m 26 ls []) := by
  obtain ⟨hx, hb, hrt, hml, hown, hts, hlocks⟩ := id C0
  intro n
  induction n with
  | zero =>
    intro v_thrown v_truths x1 x2 x3 hr
    exact nomatch (show (none : Option (Int32 × Int32 × (Nat → Int32))) = some _ from hr)
  | succ n ih =>
    intro v_thrown v_truths x1 x2 x3 hr H locs hW ls hl
    obtain ⟨hK, hP, hD, hS⟩ := hW
    have hr : (if (v_s 1) ≤ x3 then if x1 = (-1) then some (x2, v_thrown, v_truths) else some ((-1), v_thrown, v_truths) else (fX12_isSaid v_s v_truths x3).bind (fun (r_1, u1_truths) => if r_1 = 0 then lX12_said_26 v_s n v_thrown u1_truths x1 x2 (x3 + 1) else if x2 = x1 then some (x3, v_thrown, u1_truths) else lX12_said_26 v_s n v_thrown u1_truths x1 (x2 + 1) (x3 + 1)) : Option (Int32 × Int32 × (Nat → Int32))) = some (o_r, o_thrown, o_truths) := hr
    refine lv_iload_n hx hb dX12_said_26 rfl (lv_at hl 3 rfl) ?_
    refine lv_aload_n hx hb dX12_said_27 rfl (lv_at hl 0 rfl) ?_
    refine va_get (D := (dC, dI)) (ci := 12) (v := .ref h_s) (C := RX12) (T := TX12) (N := 52) hx hb hts (fun w h => List.mem_cons_of_mem _ (inU_12 w h)) hown hK hP 0 rfl rfl 6 (by decide) (hts _ (List.mem_cons_of_mem _ U_225)) (fun _ h9 => h9) rfl dX12_said_28 ?_
    refine lv_iconst (v := 1) hx hb dX12_said_31 (by decide) ?_
    refine z_iald hx hb hK hP 1 0 rfl rfl (z_inL (by decide)) (show Int32.toNatClampNeg 1 = 1 by decide) dX12_said_32 ?_
    refine z_pc (pc' := 33) rfl ?_
    refine lv_icmp_ge (tgt := 63) hx hb dX12_said_33 (by decide) (fun hc => ?_) (fun hc => ?_)
    · have hr := iteP hc hr
      refine lv_iload_n hx hb dX12_said_63 rfl (lv_at hl 1 rfl) ?_
      refine lv_iconst (v := (-1)) hx hb dX12_said_64 (by decide) ?_
      refine lv_icmp_ne (tgt := 72) hx hb dX12_said_65 (by decide) (fun hc => ?_) (fun hc => ?_)
      · have hr := iteN hc hr
        refine lv_iconst (v := (-1)) hx hb dX12_said_72 (by decide) ?_
        have q0 := Option.some.inj hr
        obtain ⟨e0, q1⟩ := Prod.mk.inj q0
        obtain ⟨e1, q2⟩ := Prod.mk.inj q1
        subst e0; subst e1; subst q2
        exact W.iret (v := (-1)) hx hb hrt (fun t ht hW => ⟨⟨(-1), (), rfl, rfl, by rw [ht]; exact hP, va_K.moved hW.alike hK, hD⟩, hS.F ht⟩) hS.2.2 dX12_said_73 hlocks
      · have hr := iteP hc hr
        refine lv_iload_n hx hb dX12_said_68 rfl (lv_at hl 2 rfl) ?_
        refine lv_goto (tgt := 73) hx hb dX12_said_69 (by decide) ?_
        have q0 := Option.some.inj hr
        obtain ⟨e0, q1⟩ := Prod.mk.inj q0
        obtain ⟨e1, q2⟩ := Prod.mk.inj q1
        subst e0; subst e1; subst q2
        exact W.iret (v := x2) hx hb hrt (fun t ht hW => ⟨⟨x2, (), rfl, rfl, by rw [ht]; exact hP, va_K.moved hW.alike hK, hD⟩, hS.F ht⟩) hS.2.2 dX12_said_73 hlocks
    · have hr := iteN hc hr
      refine lv_aload_n hx hb dX12_said_36 rfl (lv_at hl 0 rfl) ?_
      refine lv_iload_n hx hb dX12_said_37 rfl (lv_at hl 3 rfl) ?_
      obtain ⟨⟨r_1, u1_truths⟩, ho, hr⟩ := bind_s hr
      dsimp only at hr
      have hPc := hP.sub (ws' := [oX12 h_this v_thrown h_tape v_length v_size v_p v_limit h_s h_h h_read h_names h_reserved v_token v_at v_span v_number v_fault v_faultAt v_word v_got v_lines v_hasChairs h_undone h_before v_undoMany v_hostIn v_nextMany v_trickSet v_pushSet v_hasTrick v_hasPush h_purse h_hostRow v_hostMany v_menuSet v_watchTired v_hasProud h_text v_textMany v_seed v_toldMany h_toldAt v_hasTold h_stack v_codes v_ones v_top v_deep v_isWhole h_truths h_imaged h_namesKept h_areKept, aI cI h_s 273 v_s, aZ cZ h_truths 45 v_truths]) [0, 1, 2] rfl
      have hDc := hD.sub (ws' := [oX12 h_this v_thrown h_tape v_length v_size v_p v_limit h_s h_h h_read h_names h_reserved v_token v_at v_span v_number v_fault v_faultAt v_word v_got v_lines v_hasChairs h_undone h_before v_undoMany v_hostIn v_nextMany v_trickSet v_pushSet v_hasTrick v_hasPush h_purse h_hostRow v_hostMany v_menuSet v_watchTired v_hasProud h_text v_textMany v_seed v_toldMany h_toldAt v_hasTold h_stack v_codes v_ones v_top v_deep v_isWhole h_truths h_imaged h_namesKept h_areKept, aI cI h_s 273 v_s, aZ cZ h_truths 45 v_truths]) [0, 1, 2] (by decide) rfl
      have hFc := va_free (wc := [oX12 h_this v_thrown h_tape v_length v_size v_p v_limit h_s h_h h_read h_names h_reserved v_token v_at v_span v_number v_fault v_faultAt v_word v_got v_lines v_hasChairs h_undone h_before v_undoMany v_hostIn v_nextMany v_trickSet v_pushSet v_hasTrick v_hasPush h_purse h_hostRow v_hostMany v_menuSet v_watchTired v_hasProud h_text v_textMany v_seed v_toldMany h_toldAt v_hasTold h_stack v_codes v_ones v_top v_deep v_isWhole h_truths h_imaged h_namesKept h_areKept, aI cI h_s 273 v_s, aZ cZ h_truths 45 v_truths]) hD hS hA [0, 1, 2] rfl
      refine va_calli (va_runV (As := [.int x3]) (rest := []) ⟨hx, hb, hml, hown, hts⟩ (mX12_isSaid l dC dI cI cJ cB cZ cF cG h_this h_s h_truths h_tape h_h h_read h_names h_reserved h_undone h_before h_purse h_hostRow h_text h_toldAt h_stack h_imaged h_namesKept h_areKept H.size v_thrown v_length v_size v_p v_limit v_token v_at v_span v_number v_fault v_faultAt v_word v_got v_lines v_hasChairs v_undoMany v_hostIn v_nextMany v_trickSet v_pushSet v_hasTrick v_hasPush v_hostMany v_menuSet v_watchTired v_hasProud v_textMany v_seed v_toldMany v_hasTold v_codes v_ones v_top v_deep v_isWhole v_s v_truths x3 r_1 u1_truths ho) (cwV 1 hts (goodV U_1468 U_1469 U_1470 U_5 U_1471) rfl rfl rfl (by decide +kernel) ⟨Nat.le_trans (by decide) hR.1, Nat.le_trans (Nat.le_of_ble_eq_true rfl) hR.2⟩) ⟨fun a U g mk q => by obtain ⟨q0, q1, qP, qK, qD⟩ := q; exact ⟨q0, q1, qP, va_K.moved (u := U) (U := U.calling g mk a) (Vm.Alike.refl U.vm) qK, qD⟩, va_recv hK hPc (ci := 12) (q0 := 0) rfl rfl, fun U hU hW => ⟨rfl, by rw [hU], by rw [hU]; exact hPc, va_K.moved hW.alike hK, hDc.weaken (fun _ _ _ _ => trivial)⟩⟩ rfl rfl hl.1 rfl (lv_room (Nat.le_of_ble_eq_true rfl)) dX12_said_38 ⟨Nat.zero_le _, Nat.zero_le _⟩) hS (fun q _ h => hFc q h) hFc (fun rz u t H1 locs ht hvm hw hB hz1 hk1 hS => ?_)
      obtain ⟨hP1, hK1, hD1⟩ := hB
      obtain ⟨hw, hz_1⟩ := hw
      have hw := hw.symm; subst hw
      rw [ht] at hP1
      obtain ⟨hP, hD⟩ := va_join (wr := []) (w1 := [oX12 h_this v_thrown h_tape v_length v_size v_p v_limit h_s h_h h_read h_names h_reserved v_token v_at v_span v_number v_fault v_faultAt v_word v_got v_lines v_hasChairs h_undone h_before v_undoMany v_hostIn v_nextMany v_trickSet v_pushSet v_hasTrick v_hasPush h_purse h_hostRow v_hostMany v_menuSet v_watchTired v_hasProud h_text v_textMany v_seed v_toldMany h_toldAt v_hasTold h_stack v_codes v_ones v_top v_deep v_isWhole h_truths h_imaged h_namesKept h_areKept, aI cI h_s 273 v_s, aZ cZ h_truths 45 u1_truths]) hP hD [0, 1, 2] [] rfl rfl (by decide) (by decide) hk1 hFc hP1 hD1
      generalize H1 = H at hP hS ⊢
      have hP : va_P (dC, dI) vwCl [oX12 h_this v_thrown h_tape v_length v_size v_p v_limit h_s h_h h_read h_names h_reserved v_token v_at v_span v_number v_fault v_faultAt v_word v_got v_lines v_hasChairs h_undone h_before v_undoMany v_hostIn v_nextMany v_trickSet v_pushSet v_hasTrick v_hasPush h_purse h_hostRow v_hostMany v_menuSet v_watchTired v_hasProud h_text v_textMany v_seed v_toldMany h_toldAt v_hasTold h_stack v_codes v_ones v_top v_deep v_isWhole h_truths h_imaged h_namesKept h_areKept, aI cI h_s 273 v_s, aZ cZ h_truths 45 u1_truths] H := hP
      have hD : va_D A [oX12 h_this v_thrown h_tape v_length v_size v_p v_limit h_s h_h h_read h_names h_reserved v_token v_at v_span v_number v_fault v_faultAt v_word v_got v_lines v_hasChairs h_undone h_before v_undoMany v_hostIn v_nextMany v_trickSet v_pushSet v_hasTrick v_hasPush h_purse h_hostRow v_hostMany v_menuSet v_watchTired v_hasProud h_text v_textMany v_seed v_toldMany h_toldAt v_hasTold h_stack v_codes v_ones v_top v_deep v_isWhole h_truths h_imaged h_namesKept h_areKept, aI cI h_s 273 v_s, aZ cZ h_truths 45 u1_truths] := hD
      refine lv_if_ne (tgt := 47) hx hb dX12_said_41 (by decide) (fun hc => ?_) (fun hc => ?_)
      · have hr := iteN hc hr
        refine lv_iload_n hx hb dX12_said_47 rfl (lv_at hl 2 rfl) ?_
        refine lv_iload_n hx hb dX12_said_48 rfl (lv_at hl 1 rfl) ?_
        refine lv_icmp_ne (tgt := 54) hx hb dX12_said_49 (by decide) (fun hc => ?_) (fun hc => ?_)
        · have hr := iteN hc hr
          refine lv_iinc (v := (x2 + 1)) (lv' := [(2, .int (x2 + 1)), (0, .ref h_this), (1, .int x1), (3, .int x3)]) hx hb dX12_said_54 hl (k := 2) rfl rfl (by decide) rfl (fun ls hl => ?_)
          refine lv_iinc (v := (x3 + 1)) (lv' := [(3, .int (x3 + 1)), (2, .int (x2 + 1)), (0, .ref h_this), (1, .int x1)]) hx hb dX12_said_57 hl (k := 3) rfl rfl (by decide) rfl (fun ls hl => ?_)
          refine lv_goto (tgt := 26) hx hb dX12_said_60 (by decide) ?_
          exact ih v_thrown u1_truths x1 (x2 + 1) (x3 + 1) hr _ _ ⟨hK, hP, hD, hS⟩ ls (lv_sub hl [2, 3, 1, 0] rfl)
        · have hr := iteP hc hr
          refine lv_iload_n hx hb dX12_said_52 rfl (lv_at hl 3 rfl) ?_
          have q0 := Option.some.inj hr
          obtain ⟨e0, q1⟩ := Prod.mk.inj q0
          obtain ⟨e1, q2⟩ := Prod.mk.inj q1
          subst e0; subst e1; subst q2
          exact W.iret (v := x3) hx hb hrt (fun t ht hW => ⟨⟨x3, (), rfl, rfl, by rw [ht]; exact hP, va_K.moved hW.alike hK, hD⟩, hS.F ht⟩) hS.2.2 dX12_said_53 hlocks
      · have hr := iteP hc hr
        refine lv_goto (tgt := 57) hx hb dX12_said_44 (by decide) ?_
        refine lv_iinc (v := (x3 + 1)) (lv' := [(3, .int (x3 + 1)), (0, .ref h_this), (1, .int x1), (2, .int x2)]) hx hb dX12_said_57 hl (k := 3) rfl rfl (by decide) rfl (fun ls hl => ?_)
        refine lv_goto (tgt := 26) hx hb dX12_said_60 (by decide) ?_
        exact ih v_thrown u1_truths x1 x2 (x3 + 1) hr _ _ ⟨hK, hP, hD, hS⟩ ls (lv_sub hl [1, 2, 3, 0] rfl)
set_option maxHeartbeats 4000000 in
set_option maxRecDepth 100000 in
theorem tX12_said {p : Program} {l : Launch} {e : Env} {R : Room} {s : State} {m : MethodId} {args : Array Value} {below : List Frame} {meth : Method} {c : Code} {dC : Nat → ClassId} {dI : Nat → Nat → Nat} {cI cJ cB cZ cF cG : ClassId} {A : Nat → Prop} (hA : ∀ q : Nat, s.heap.size ≤ q → A q) (C0 : Cx p s m meth c args cX12_said 4 (some .int) RX12 uX12_said) (hR : 4 ≤ R.frames ∧ 91 ≤ R.locals) (h_this : Nat) (h_s : Nat) (h_truths : Nat) (h_tape : Nat) (h_h : Nat) (h_read : Nat) (h_names : Nat) (h_reserved : Nat) (h_undone : Nat) (h_before : Nat) (h_purse : Nat) (h_hostRow : Nat) (h_text : Nat) (h_toldAt : Nat) (h_stack : Nat) (h_imaged : Nat) (h_namesKept : Nat) (h_areKept : Nat) (v_length : Int32) (v_size : Int32) (v_p : Int32) (v_limit : Int32) (v_token : Int32) (v_at : Int32) (v_span : Int32) (v_number : Int32) (v_fault : Int32) (v_faultAt : Int32) (v_word : Int64) (v_got : Int32) (v_lines : Int32) (v_hasChairs : Int32) (v_undoMany : Int32) (v_hostIn : Int32) (v_nextMany : Int32) (v_trickSet : Int32) (v_pushSet : Int32) (v_hasTrick : Int32) (v_hasPush : Int32) (v_hostMany : Int32) (v_menuSet : Int32) (v_watchTired : Int32) (v_hasProud : Int32) (v_textMany : Int32) (v_seed : Int32) (v_toldMany : Int32) (v_hasTold : Int32) (v_codes : Int32) (v_ones : Int32) (v_top : Int32) (v_deep : Int32) (v_isWhole : Int32) (v_s : Nat → Int32) (o_r : Int32) (o_thrown : Int32) (o_truths : Nat → Int32) :
    ∀ (v_thrown : Int32) (v_truths : Nat → Int32) (x1 : Int32), fX12_said v_s v_thrown v_truths x1 = some (o_r, o_thrown, o_truths) → ∀ (H : Heap) (locs : List Loc), Wd dC dI cI cJ cB cZ cF cG A s H locs [oX12 h_this v_thrown h_tape v_length v_size v_p v_limit h_s h_h h_read h_names h_reserved v_token v_at v_span v_number v_fault v_faultAt v_word v_got v_lines v_hasChairs h_undone h_before v_undoMany v_hostIn v_nextMany v_trickSet v_pushSet v_hasTrick v_hasPush h_purse h_hostRow v_hostMany v_menuSet v_watchTired v_hasProud h_text v_textMany v_seed v_toldMany h_toldAt v_hasTold h_stack v_codes v_ones v_top v_deep v_isWhole h_truths h_imaged h_namesKept h_areKept, aI cI h_s 273 v_s, aZ cZ h_truths 45 v_truths] → ∀ (ls : Array Slot), lv_has ls 4 [(0, .ref h_this), (1, .int x1)] → W p l e R s m args below meth c H locs 0 0 (MQ below (PQi dC dI cI cJ cB cZ cF cG A o_r [oX12 h_this o_thrown h_tape v_length v_size v_p v_limit h_s h_h h_read h_names h_reserved v_token v_at v_span v_number v_fault v_faultAt v_word v_got v_lines v_hasChairs h_undone h_before v_undoMany v_hostIn v_nextMany v_trickSet v_pushSet v_hasTrick v_hasPush h_purse h_hostRow v_hostMany v_menuSet v_watchTired v_hasProud h_text v_textMany v_seed v_toldMany h_toldAt v_hasTold h_stack v_codes v_ones v_top v_deep v_isWhole h_truths h_imaged h_namesKept h_areKept, aI cI h_s 273 v_s, aZ cZ h_truths 45 o_truths]) args s 0 0 A) (F0 m 0 ls []) := by
  obtain ⟨hx, hb, hrt, hml, hown, hts, hlocks⟩ := id C0
  intro v_thrown v_truths x1 hr H locs hW ls hl
  obtain ⟨hK, hP, hD, hS⟩ := hW
  have hr : (if (v_s 92) = 0 then some ((-1), 0, v_truths) else if (-1) ≤ x1 then lX12_said_26 v_s 5000 0 v_truths x1 0 0 else some ((-1), 0, v_truths) : Option (Int32 × Int32 × (Nat → Int32))) = some (o_r, o_thrown, o_truths) := hr
  refine lv_aload_n hx hb dX12_said_0 rfl (lv_at hl 0 rfl) ?_
  refine lv_iconst (v := 0) hx hb dX12_said_1 (by decide) ?_
  refine va_put (D := (dC, dI)) (ci := 12) (v := .int 0) (ty := .int) (C := RX12) (T := TX12) (N := 52) hx hb hts (fun w h => List.mem_cons_of_mem _ (inU_12 w h)) tyX12 tyX12_ok nmX12 hown hK hP hD hS 0 rfl rfl 0 (by decide) (hts _ (List.mem_cons_of_mem _ U_288)) (fun _ h9 => h9) rfl (by decide +kernel) rfl rfl (Nat.le_of_ble_eq_true rfl) dX12_said_2 (fun H locs hP hD hS => ?_)
  have hP : va_P (dC, dI) vwCl [oX12 h_this 0 h_tape v_length v_size v_p v_limit h_s h_h h_read h_names h_reserved v_token v_at v_span v_number v_fault v_faultAt v_word v_got v_lines v_hasChairs h_undone h_before v_undoMany v_hostIn v_nextMany v_trickSet v_pushSet v_hasTrick v_hasPush h_purse h_hostRow v_hostMany v_menuSet v_watchTired v_hasProud h_text v_textMany v_seed v_toldMany h_toldAt v_hasTold h_stack v_codes v_ones v_top v_deep v_isWhole h_truths h_imaged h_namesKept h_areKept, aI cI h_s 273 v_s, aZ cZ h_truths 45 v_truths] H := hP
  have hD : va_D A [oX12 h_this 0 h_tape v_length v_size v_p v_limit h_s h_h h_read h_names h_reserved v_token v_at v_span v_number v_fault v_faultAt v_word v_got v_lines v_hasChairs h_undone h_before v_undoMany v_hostIn v_nextMany v_trickSet v_pushSet v_hasTrick v_hasPush h_purse h_hostRow v_hostMany v_menuSet v_watchTired v_hasProud h_text v_textMany v_seed v_toldMany h_toldAt v_hasTold h_stack v_codes v_ones v_top v_deep v_isWhole h_truths h_imaged h_namesKept h_areKept, aI cI h_s 273 v_s, aZ cZ h_truths 45 v_truths] := hD
  refine lv_aload_n hx hb dX12_said_5 rfl (lv_at hl 0 rfl) ?_
  refine va_get (D := (dC, dI)) (ci := 12) (v := .ref h_s) (C := RX12) (T := TX12) (N := 52) hx hb hts (fun w h => List.mem_cons_of_mem _ (inU_12 w h)) hown hK hP 0 rfl rfl 6 (by decide) (hts _ (List.mem_cons_of_mem _ U_225)) (fun _ h9 => h9) rfl dX12_said_6 ?_
  refine z_pc (pc' := 9) rfl ?_
  refine lv_bipush (v := 92) hx hb dX12_said_9 (by decide) ?_
  refine z_iald hx hb hK hP 1 0 rfl rfl (z_inL (by decide)) (show Int32.toNatClampNeg 92 = 92 by decide) dX12_said_11 ?_
  refine lv_if_eq (tgt := 20) hx hb dX12_said_12 (by decide) (fun hc => ?_) (fun hc => ?_)
  · have hr := iteP hc hr
    refine lv_iconst (v := (-1)) hx hb dX12_said_20 (by decide) ?_
    have q0 := Option.some.inj hr
    obtain ⟨e0, q1⟩ := Prod.mk.inj q0
    obtain ⟨e1, q2⟩ := Prod.mk.inj q1
    subst e0; subst e1; subst q2
    exact W.iret (v := (-1)) hx hb hrt (fun t ht hW => ⟨⟨(-1), (), rfl, rfl, by rw [ht]; exact hP, va_K.moved hW.alike hK, hD⟩, hS.F ht⟩) hS.2.2 dX12_said_21 hlocks
  · have hr := iteN hc hr
    refine lv_iload_n hx hb dX12_said_15 rfl (lv_at hl 1 rfl) ?_
    refine lv_iconst (v := (-1)) hx hb dX12_said_16 (by decide) ?_
    refine lv_icmp_ge (tgt := 22) hx hb dX12_said_17 (by decide) (fun hc => ?_) (fun hc => ?_)
    · have hr := iteP hc hr
      refine lv_iconst (v := 0) hx hb dX12_said_22 (by decide) ?_
      refine lv_istore_n (lv' := [(2, .int 0), (0, .ref h_this), (1, .int x1)]) hx hb dX12_said_23 rfl hl (by decide) rfl (fun ls hl => ?_)
      refine lv_iconst (v := 0) hx hb dX12_said_24 (by decide) ?_
      refine lv_istore_n (lv' := [(3, .int 0), (2, .int 0), (0, .ref h_this), (1, .int x1)]) hx hb dX12_said_25 rfl hl (by decide) rfl (fun ls hl => ?_)
      exact tX12_said_26 hA C0 hR h_this h_s h_truths h_tape h_h h_read h_names h_reserved h_undone h_before h_purse h_hostRow h_text h_toldAt h_stack h_imaged h_namesKept h_areKept v_length v_size v_p v_limit v_token v_at v_span v_number v_fault v_faultAt v_word v_got v_lines v_hasChairs v_undoMany v_hostIn v_nextMany v_trickSet v_pushSet v_hasTrick v_hasPush v_hostMany v_menuSet v_watchTired v_hasProud v_textMany v_seed v_toldMany v_hasTold v_codes v_ones v_top v_deep v_isWhole v_s o_r o_thrown o_truths 5000 0 v_truths x1 0 0 hr _ _ ⟨hK, hP, hD, hS⟩ ls (lv_sub hl [2, 3, 1, 0] rfl)
    · have hr := iteN hc hr
      refine lv_iconst (v := (-1)) hx hb dX12_said_20 (by decide) ?_
      have q0 := Option.some.inj hr
      obtain ⟨e0, q1⟩ := Prod.mk.inj q0
      obtain ⟨e1, q2⟩ := Prod.mk.inj q1
      subst e0; subst e1; subst q2
      exact W.iret (v := (-1)) hx hb hrt (fun t ht hW => ⟨⟨(-1), (), rfl, rfl, by rw [ht]; exact hP, va_K.moved hW.alike hK, hD⟩, hS.F ht⟩) hS.2.2 dX12_said_21 hlocks
set_option maxHeartbeats 4000000 in
set_option maxRecDepth 100000 in
theorem mX12_said (l : Launch) (dC : Nat → ClassId) (dI : Nat → Nat → Nat) (cI cJ cB cZ cF cG : ClassId) (h_this : Nat) (h_s : Nat) (h_truths : Nat) (h_tape : Nat) (h_h : Nat) (h_read : Nat) (h_names : Nat) (h_reserved : Nat) (h_undone : Nat) (h_before : Nat) (h_purse : Nat) (h_hostRow : Nat) (h_text : Nat) (h_toldAt : Nat) (h_stack : Nat) (h_imaged : Nat) (h_namesKept : Nat) (h_areKept : Nat) (sz : Nat) (v_thrown : Int32) (v_length : Int32) (v_size : Int32) (v_p : Int32) (v_limit : Int32) (v_token : Int32) (v_at : Int32) (v_span : Int32) (v_number : Int32) (v_fault : Int32) (v_faultAt : Int32) (v_word : Int64) (v_got : Int32) (v_lines : Int32) (v_hasChairs : Int32) (v_undoMany : Int32) (v_hostIn : Int32) (v_nextMany : Int32) (v_trickSet : Int32) (v_pushSet : Int32) (v_hasTrick : Int32) (v_hasPush : Int32) (v_hostMany : Int32) (v_menuSet : Int32) (v_watchTired : Int32) (v_hasProud : Int32) (v_textMany : Int32) (v_seed : Int32) (v_toldMany : Int32) (v_hasTold : Int32) (v_codes : Int32) (v_ones : Int32) (v_top : Int32) (v_deep : Int32) (v_isWhole : Int32) (v_s : Nat → Int32) (v_truths : Nat → Int32) (x1 : Int32) (o_r : Int32) (o_thrown : Int32) (o_truths : Nat → Int32) (hf : fX12_said v_s v_thrown v_truths x1 = some (o_r, o_thrown, o_truths)) : Met l yX12_said uX12_said ({ frames := 4, cells := 0, slots := 0, locals := 91 }) (va_Pc [.ref h_this, .int x1] (fun U => U.heap.size = sz ∧ va_P (dC, dI) vwCl [oX12 h_this v_thrown h_tape v_length v_size v_p v_limit h_s h_h h_read h_names h_reserved v_token v_at v_span v_number v_fault v_faultAt v_word v_got v_lines v_hasChairs h_undone h_before v_undoMany v_hostIn v_nextMany v_trickSet v_pushSet v_hasTrick v_hasPush h_purse h_hostRow v_hostMany v_menuSet v_watchTired v_hasProud h_text v_textMany v_seed v_toldMany h_toldAt v_hasTold h_stack v_codes v_ones v_top v_deep v_isWhole h_truths h_imaged h_namesKept h_areKept, aI cI h_s 273 v_s, aZ cZ h_truths 45 v_truths] U.heap ∧ va_K (dC, dI) vwCl (TYS cI cJ cB cZ cF cG) U ∧ va_D (fun _ => True) [oX12 h_this v_thrown h_tape v_length v_size v_p v_limit h_s h_h h_read h_names h_reserved v_token v_at v_span v_number v_fault v_faultAt v_word v_got v_lines v_hasChairs h_undone h_before v_undoMany v_hostIn v_nextMany v_trickSet v_pushSet v_hasTrick v_hasPush h_purse h_hostRow v_hostMany v_menuSet v_watchTired v_hasProud h_text v_textMany v_seed v_toldMany h_toldAt v_hasTold h_stack v_codes v_ones v_top v_deep v_isWhole h_truths h_imaged h_namesKept h_areKept, aI cI h_s 273 v_s, aZ cZ h_truths 45 v_truths])) (PQi dC dI cI cJ cB cZ cF cG (va_A [oX12 h_this v_thrown h_tape v_length v_size v_p v_limit h_s h_h h_read h_names h_reserved v_token v_at v_span v_number v_fault v_faultAt v_word v_got v_lines v_hasChairs h_undone h_before v_undoMany v_hostIn v_nextMany v_trickSet v_pushSet v_hasTrick v_hasPush h_purse h_hostRow v_hostMany v_menuSet v_watchTired v_hasProud h_text v_textMany v_seed v_toldMany h_toldAt v_hasTold h_stack v_codes v_ones v_top v_deep v_isWhole h_truths h_imaged h_namesKept h_areKept, aI cI h_s 273 v_s, aZ cZ h_truths 45 v_truths] sz) o_r [oX12 h_this o_thrown h_tape v_length v_size v_p v_limit h_s h_h h_read h_names h_reserved v_token v_at v_span v_number v_fault v_faultAt v_word v_got v_lines v_hasChairs h_undone h_before v_undoMany v_hostIn v_nextMany v_trickSet v_pushSet v_hasTrick v_hasPush h_purse h_hostRow v_hostMany v_menuSet v_watchTired v_hasProud h_text v_textMany v_seed v_toldMany h_toldAt v_hasTold h_stack v_codes v_ones v_top v_deep v_isWhole h_truths h_imaged h_namesKept h_areKept, aI cI h_s 273 v_s, aZ cZ h_truths 45 o_truths]) 0 0 (va_A [oX12 h_this v_thrown h_tape v_length v_size v_p v_limit h_s h_h h_read h_names h_reserved v_token v_at v_span v_number v_fault v_faultAt v_word v_got v_lines v_hasChairs h_undone h_before v_undoMany v_hostIn v_nextMany v_trickSet v_pushSet v_hasTrick v_hasPush h_purse h_hostRow v_hostMany v_menuSet v_watchTired v_hasProud h_text v_textMany v_seed v_toldMany h_toldAt v_hasTold h_stack v_codes v_ones v_top v_deep v_isWhole h_truths h_imaged h_namesKept h_areKept, aI cI h_s 273 v_s, aZ cZ h_truths 45 v_truths] sz) := by
  refine Met.ofW (cc := cX12_said) (maxL := 4) (ret := (some .int)) (by decide) rfl ?_
  intro p e s m args below meth c s₁ B hml hv
  obtain ⟨rfl, hsz, hP, hK, hD0⟩ := hv
  have hx := B.exec
  have hb := B.bytes
  have hr := B.returns
  have hts := atoms_spec (ws := uX12_said) B.pre
  have hown : s.vm.findClass RX12 = some m.cls := findClass_of_methodNamed B.named
  have hlocks := B.notSynchronized
  subst hsz
  have hD := hD0.self (sz := s.heap.size)
  generalize hAe : va_A [oX12 h_this v_thrown h_tape v_length v_size v_p v_limit h_s h_h h_read h_names h_reserved v_token v_at v_span v_number v_fault v_faultAt v_word v_got v_lines v_hasChairs h_undone h_before v_undoMany v_hostIn v_nextMany v_trickSet v_pushSet v_hasTrick v_hasPush h_purse h_hostRow v_hostMany v_menuSet v_watchTired v_hasProud h_text v_textMany v_seed v_toldMany h_toldAt v_hasTold h_stack v_codes v_ones v_top v_deep v_isWhole h_truths h_imaged h_namesKept h_areKept, aI cI h_s 273 v_s, aZ cZ h_truths 45 v_truths] s.heap.size = A at hD ⊢
  have hA : ∀ q : Nat, s.heap.size ≤ q → A q := fun q h => by rw [← hAe]; exact Or.inr h
  have hS : va_S A s.heap s.heap [] := va_S.rf
  have hl := lv_entry ([.ref h_this, .int x1]) (n := 4) (Nat.le_of_ble_eq_true rfl)
  rw [lg_entry_eq]
  generalize (lg_sl ([.ref h_this, .int x1]) ++ List.replicate (4 - (lg_sl ([.ref h_this, .int x1])).length) Slot.unset).toArray = ls at hl ⊢
  have hl : lv_has ls 4 [(0, .ref h_this), (1, .int x1)] := hl
  exact tX12_said hA ⟨hx, hb, hr, hml, hown, hts, hlocks⟩ ⟨Nat.le_refl _, Nat.le_refl _⟩ h_this h_s h_truths h_tape h_h h_read h_names h_reserved h_undone h_before h_purse h_hostRow h_text h_toldAt h_stack h_imaged h_namesKept h_areKept v_length v_size v_p v_limit v_token v_at v_span v_number v_fault v_faultAt v_word v_got v_lines v_hasChairs v_undoMany v_hostIn v_nextMany v_trickSet v_pushSet v_hasTrick v_hasPush v_hostMany v_menuSet v_watchTired v_hasProud v_textMany v_seed v_toldMany v_hasTold v_codes v_ones v_top v_deep v_isWhole v_s o_r o_thrown o_truths v_thrown v_truths x1 hf _ _ ⟨hK, hP, hD, hS⟩ ls hl
-- LastSeatModel.image(I)Z
def uX12_image : List Cond := .code yX12_image cX12_image 3 (some .boolean) :: wsU
set_option maxHeartbeats 4000000 in
set_option maxRecDepth 100000 in
theorem tX12_image_18 {p : Program} {l : Launch} {e : Env} {R : Room} {s : State} {m : MethodId} {args : Array Value} {below : List Frame} {meth : Method} {c : Code} {dC : Nat → ClassId} {dI : Nat → Nat → Nat} {cI cJ cB cZ cF cG : ClassId} {A : Nat → Prop} {k51 : Int32 → (Nat → Int32) → (Nat → Int64) → (Nat → Int32) → Int32 → Int32 → Option (Int32 × Int32 × (Nat → Int32) × (Nat → Int64) × (Nat → Int32))} (hA : ∀ q : Nat, s.heap.size ≤ q → A q) (C0 : Cx p s m meth c args cX12_image 3 (some .boolean) RX12 uX12_image) (hR : 1 ≤ R.frames ∧ 22 ≤ R.locals) (h_this : Nat) (h_s : Nat) (h_names : Nat) (h_imaged : Nat) (h_namesKept : Nat) (h_areKept : Nat) (h_tape : Nat) (h_h : Nat) (h_read : Nat) (h_reserved : Nat) (h_undone : Nat) (h_before : Nat) (h_purse : Nat) (h_hostRow : Nat) (h_text : Nat) (h_toldAt : Nat) (h_stack : Nat) (h_truths : Nat) (v_length : Int32) (v_size : Int32) (v_p : Int32) (v_limit : Int32) (v_token : Int32) (v_at : Int32) (v_span : Int32) (v_number : Int32) (v_fault : Int32) (v_faultAt : Int32) (v_word : Int64) (v_got : Int32) (v_lines : Int32) (v_hasChairs : Int32) (v_undoMany : Int32) (v_hostIn : Int32) (v_nextMany : Int32) (v_trickSet : Int32) (v_pushSet : Int32) (v_hasTrick : Int32) (v_hasPush : Int32) (v_hostMany : Int32) (v_menuSet : Int32) (v_watchTired : Int32) (v_hasProud : Int32) (v_textMany : Int32) (v_seed : Int32) (v_toldMany : Int32) (v_hasTold : Int32) (v_codes : Int32) (v_ones : Int32) (v_top : Int32) (v_deep : Int32) (v_isWhole : Int32) (v_s : Nat → Int32) (v_names : Nat → Int64) (o_r : Int32) (o_thrown : Int32) (o_imaged : Nat → Int32) (o_namesKept : Nat → Int64) (o_areKept : Nat → Int32) (hk51 : ∀ (v_thrown : Int32) (v_imaged : Nat → Int32) (v_namesKept : Nat → Int64) (v_areKept : Nat → Int32) (x1 : Int32) (x2 : Int32), k51 v_thrown v_imaged v_namesKept v_areKept x1 x2 = some (o_r, o_thrown, o_imaged, o_namesKept, o_areKept) → ∀ (H : Heap) (locs : List Loc), Wd dC dI cI cJ cB cZ cF cG A s H locs [oX12 h_this v_thrown h_tape v_length v_size v_p v_limit h_s h_h h_read h_names h_reserved v_token v_at v_span v_number v_fault v_faultAt v_word v_got v_lines v_hasChairs h_undone h_before v_undoMany v_hostIn v_nextMany v_trickSet v_pushSet v_hasTrick v_hasPush h_purse h_hostRow v_hostMany v_menuSet v_watchTired v_hasProud h_text v_textMany v_seed v_toldMany h_toldAt v_hasTold h_stack v_codes v_ones v_top v_deep v_isWhole h_truths h_imaged h_namesKept h_areKept, aI cI h_s 273 v_s, aJ cJ h_names 26 v_names, aI cI h_imaged 546 v_imaged, aJ cJ h_namesKept 26 v_namesKept, aZ cZ h_areKept 2 v_areKept] → ∀ (ls : Array Slot), lv_has ls 3 [(0, .ref h_this), (1, .int x1), (2, .int x2)] → W p l e R s m args below meth c H locs 0 0 (MQ below (PQz dC dI cI cJ cB cZ cF cG A o_r [oX12 h_this o_thrown h_tape v_length v_size v_p v_limit h_s h_h h_read h_names h_reserved v_token v_at v_span v_number v_fault v_faultAt v_word v_got v_lines v_hasChairs h_undone h_before v_undoMany v_hostIn v_nextMany v_trickSet v_pushSet v_hasTrick v_hasPush h_purse h_hostRow v_hostMany v_menuSet v_watchTired v_hasProud h_text v_textMany v_seed v_toldMany h_toldAt v_hasTold h_stack v_codes v_ones v_top v_deep v_isWhole h_truths h_imaged h_namesKept h_areKept, aI cI h_s 273 v_s, aJ cJ h_names 26 v_names, aI cI h_imaged 546 o_imaged, aJ cJ h_namesKept 26 o_namesKept, aZ cZ h_areKept 2 o_areKept]) args s 0 0 A) (F0 m 51 ls [])) :
    ∀ n : Nat, ∀ (v_thrown : Int32) (v_imaged : Nat → Int32) (v_namesKept : Nat → Int64) (v_areKept : Nat → Int32) (x1 : Int32) (x2 : Int32), lX12_image_18 v_s v_names k51 n v_thrown v_imaged v_namesKept v_areKept x1 x2 = some (o_r, o_thrown, o_imaged, o_namesKept, o_areKept) → ∀ (H : Heap) (locs : List Loc), Wd dC dI cI cJ cB cZ cF cG A s H locs [oX12 h_this v_thrown h_tape v_length v_size v_p v_limit h_s h_h h_read h_names h_reserved v_token v_at v_span v_number v_fault v_faultAt v_word v_got v_lines v_hasChairs h_undone h_before v_undoMany v_hostIn v_nextMany v_trickSet v_pushSet v_hasTrick v_hasPush h_purse h_hostRow v_hostMany v_menuSet v_watchTired v_hasProud h_text v_textMany v_seed v_toldMany h_toldAt v_hasTold h_stack v_codes v_ones v_top v_deep v_isWhole h_truths h_imaged h_namesKept h_areKept, aI cI h_s 273 v_s, aJ cJ h_names 26 v_names, aI cI h_imaged 546 v_imaged, aJ cJ h_namesKept 26 v_namesKept, aZ cZ h_areKept 2 v_areKept] → ∀ (ls : Array Slot), lv_has ls 3 [(0, .ref h_this), (1, .int x1), (2, .int x2)] → W p l e R s m args below meth c H locs 0 0 (MQ below (PQz dC dI cI cJ cB cZ cF cG A o_r [oX12 h_this o_thrown h_tape v_length v_size v_p v_limit h_s h_h h_read h_names h_reserved v_token v_at v_span v_number v_fault v_faultAt v_word v_got v_lines v_hasChairs h_undone h_before v_undoMany v_hostIn v_nextMany v_trickSet v_pushSet v_hasTrick v_hasPush h_purse h_hostRow v_hostMany v_menuSet v_watchTired v_hasProud h_text v_textMany v_seed v_toldMany h_toldAt v_hasTold h_stack v_codes v_ones v_top v_deep v_isWhole h_truths h_imaged h_namesKept h_areKept, aI cI h_s 273 v_s, aJ cJ h_names 26 v_names, aI cI h_imaged 546 o_imaged, aJ cJ h_namesKept 26 o_namesKept, aZ cZ h_areKept 2 o_areKept]) args s 0 0 A) (F0 m 18 ls []) := by
  obtain ⟨hx, hb, hrt, hml, hown, hts, hlocks⟩ := id C0
  intro n
  induction n with
  | zero =>
    intro v_thrown v_imaged v_namesKept v_areKept x1 x2 hr
    exact nomatch (show (none : Option (Int32 × Int32 × (Nat → Int32) × (Nat → Int64) × (Nat → Int32))) = some _ from hr)
  | succ n ih =>
    intro v_thrown v_imaged v_namesKept v_areKept x1 x2 hr H locs hW ls hl
    obtain ⟨hK, hP, hD, hS⟩ := hW
    have hr : (if 273 ≤ x2 then k51 v_thrown v_imaged v_namesKept v_areKept x1 0 else gI x2 273 (nmv (v_s (Int32.toNatClampNeg x2)) (fun w1 => gI ((273 * x1) + x2) 546 (nmv (upd v_imaged (Int32.toNatClampNeg ((273 * x1) + x2)) w1) (fun w2 => lX12_image_18 v_s v_names k51 n v_thrown w2 v_namesKept v_areKept x1 (x2 + 1))))) : Option (Int32 × Int32 × (Nat → Int32) × (Nat → Int64) × (Nat → Int32))) = some (o_r, o_thrown, o_imaged, o_namesKept, o_areKept) := hr
    refine lv_iload_n hx hb dX12_image_18 rfl (lv_at hl 2 rfl) ?_
    refine lv_sipush (v := 273) hx hb dX12_image_19 (by decide) ?_
    refine lv_icmp_ge (tgt := 49) hx hb dX12_image_22 (by decide) (fun hc => ?_) (fun hc => ?_)
    · have hr := iteP hc hr
      refine lv_iconst (v := 0) hx hb dX12_image_49 (by decide) ?_
      refine lv_istore_n (lv' := [(2, .int 0), (0, .ref h_this), (1, .int x1)]) hx hb dX12_image_50 rfl hl (by decide) rfl (fun ls hl => ?_)
      exact hk51 v_thrown v_imaged v_namesKept v_areKept x1 0 hr _ _ ⟨hK, hP, hD, hS⟩ ls (lv_sub hl [1, 2, 0] rfl)
    · have hr := iteN hc hr
      refine lv_aload_n hx hb dX12_image_25 rfl (lv_at hl 0 rfl) ?_
      refine va_get (D := (dC, dI)) (ci := 12) (v := .ref h_imaged) (C := RX12) (T := TX12) (N := 52) hx hb hts (fun w h => List.mem_cons_of_mem _ (inU_12 w h)) hown hK hP 0 rfl rfl 49 (by decide) (hts _ (List.mem_cons_of_mem _ U_242)) (fun _ h9 => h9) rfl dX12_image_26 ?_
      refine lv_sipush (v := 273) hx hb dX12_image_29 (by decide) ?_
      refine lv_iload_n hx hb dX12_image_32 rfl (lv_at hl 1 rfl) ?_
      refine lv_imul hx hb dX12_image_33 ?_
      refine z_pc (pc' := 34) rfl ?_
      refine lv_iload_n hx hb dX12_image_34 rfl (lv_at hl 2 rfl) ?_
      refine lv_iadd hx hb dX12_image_35 ?_
      refine lv_aload_n hx hb dX12_image_36 rfl (lv_at hl 0 rfl) ?_
      refine va_get (D := (dC, dI)) (ci := 12) (v := .ref h_s) (C := RX12) (T := TX12) (N := 52) hx hb hts (fun w h => List.mem_cons_of_mem _ (inU_12 w h)) hown hK hP 0 rfl rfl 6 (by decide) (hts _ (List.mem_cons_of_mem _ U_225)) (fun _ h9 => h9) rfl dX12_image_37 ?_
      refine lv_iload_n hx hb dX12_image_40 rfl (lv_at hl 2 rfl) ?_
      obtain ⟨hg, hr⟩ := gI_s hr
      refine z_iald hx hb hK hP 1 0 rfl rfl hg rfl dX12_image_41 ?_
      refine z_pc (pc' := 42) rfl ?_
      obtain ⟨w1, hw1, hr⟩ := nm_s hr
      refine z_topi hw1 ?_
      obtain ⟨hg, hr⟩ := gI_s hr
      obtain ⟨w2, hw2, hr⟩ := nm_s hr
      refine z_iast hx hb hK hP hD hS 3 0 rfl rfl hg rfl hw2 dX12_image_42 (fun H locs hP hD hS => ?_)
      have hP : va_P (dC, dI) vwCl [oX12 h_this v_thrown h_tape v_length v_size v_p v_limit h_s h_h h_read h_names h_reserved v_token v_at v_span v_number v_fault v_faultAt v_word v_got v_lines v_hasChairs h_undone h_before v_undoMany v_hostIn v_nextMany v_trickSet v_pushSet v_hasTrick v_hasPush h_purse h_hostRow v_hostMany v_menuSet v_watchTired v_hasProud h_text v_textMany v_seed v_toldMany h_toldAt v_hasTold h_stack v_codes v_ones v_top v_deep v_isWhole h_truths h_imaged h_namesKept h_areKept, aI cI h_s 273 v_s, aJ cJ h_names 26 v_names, aI cI h_imaged 546 w2, aJ cJ h_namesKept 26 v_namesKept, aZ cZ h_areKept 2 v_areKept] H := hP
      have hD : va_D A [oX12 h_this v_thrown h_tape v_length v_size v_p v_limit h_s h_h h_read h_names h_reserved v_token v_at v_span v_number v_fault v_faultAt v_word v_got v_lines v_hasChairs h_undone h_before v_undoMany v_hostIn v_nextMany v_trickSet v_pushSet v_hasTrick v_hasPush h_purse h_hostRow v_hostMany v_menuSet v_watchTired v_hasProud h_text v_textMany v_seed v_toldMany h_toldAt v_hasTold h_stack v_codes v_ones v_top v_deep v_isWhole h_truths h_imaged h_namesKept h_areKept, aI cI h_s 273 v_s, aJ cJ h_names 26 v_names, aI cI h_imaged 546 w2, aJ cJ h_namesKept 26 v_namesKept, aZ cZ h_areKept 2 v_areKept] := hD
      refine lv_iinc (v := (x2 + 1)) (lv' := [(2, .int (x2 + 1)), (0, .ref h_this), (1, .int x1)]) hx hb dX12_image_43 hl (k := 2) rfl rfl (by decide) rfl (fun ls hl => ?_)
      refine lv_goto (tgt := 18) hx hb dX12_image_46 (by decide) ?_
      exact ih v_thrown w2 v_namesKept v_areKept x1 (x2 + 1) hr _ _ ⟨hK, hP, hD, hS⟩ ls (lv_sub hl [1, 2, 0] rfl)
set_option maxHeartbeats 4000000 in
set_option maxRecDepth 100000 in
theorem tX12_image_51 {p : Program} {l : Launch} {e : Env} {R : Room} {s : State} {m : MethodId} {args : Array Value} {below : List Frame} {meth : Method} {c : Code} {dC : Nat → ClassId} {dI : Nat → Nat → Nat} {cI cJ cB cZ cF cG : ClassId} {A : Nat → Prop} (hA : ∀ q : Nat, s.heap.size ≤ q → A q) (C0 : Cx p s m meth c args cX12_image 3 (some .boolean) RX12 uX12_image) (hR : 1 ≤ R.frames ∧ 22 ≤ R.locals) (h_this : Nat) (h_s : Nat) (h_names : Nat) (h_imaged : Nat) (h_namesKept : Nat) (h_areKept : Nat) (h_tape : Nat) (h_h : Nat) (h_read : Nat) (h_reserved : Nat) (h_undone : Nat) (h_before : Nat) (h_purse : Nat) (h_hostRow : Nat) (h_text : Nat) (h_toldAt : Nat) (h_stack : Nat) (h_truths : Nat) (v_length : Int32) (v_size : Int32) (v_p : Int32) (v_limit : Int32) (v_token : Int32) (v_at : Int32) (v_span : Int32) (v_number : Int32) (v_fault : Int32) (v_faultAt : Int32) (v_word : Int64) (v_got : Int32) (v_lines : Int32) (v_hasChairs : Int32) (v_undoMany : Int32) (v_hostIn : Int32) (v_nextMany : Int32) (v_trickSet : Int32) (v_pushSet : Int32) (v_hasTrick : Int32) (v_hasPush : Int32) (v_hostMany : Int32) (v_menuSet : Int32) (v_watchTired : Int32) (v_hasProud : Int32) (v_textMany : Int32) (v_seed : Int32) (v_toldMany : Int32) (v_hasTold : Int32) (v_codes : Int32) (v_ones : Int32) (v_top : Int32) (v_deep : Int32) (v_isWhole : Int32) (v_s : Nat → Int32) (v_names : Nat → Int64) (o_r : Int32) (o_thrown : Int32) (o_imaged : Nat → Int32) (o_namesKept : Nat → Int64) (o_areKept : Nat → Int32) :
    ∀ n : Nat, ∀ (v_thrown : Int32) (v_imaged : Nat → Int32) (v_namesKept : Nat → Int64) (v_areKept : Nat → Int32) (x1 : Int32) (x2 : Int32), lX12_image_51 v_s v_names n v_thrown v_imaged v_namesKept v_areKept x1 x2 = some (o_r, o_thrown, o_imaged, o_namesKept, o_areKept) → ∀ (H : Heap) (locs : List Loc), Wd dC dI cI cJ cB cZ cF cG A s H locs [oX12 h_this v_thrown h_tape v_length v_size v_p v_limit h_s h_h h_read h_names h_reserved v_token v_at v_span v_number v_fault v_faultAt v_word v_got v_lines v_hasChairs h_undone h_before v_undoMany v_hostIn v_nextMany v_trickSet v_pushSet v_hasTrick v_hasPush h_purse h_hostRow v_hostMany v_menuSet v_watchTired v_hasProud h_text v_textMany v_seed v_toldMany h_toldAt v_hasTold h_stack v_codes v_ones v_top v_deep v_isWhole h_truths h_imaged h_namesKept h_areKept, aI cI h_s 273 v_s, aJ cJ h_names 26 v_names, aI cI h_imaged 546 v_imaged, aJ cJ h_namesKept 26 v_namesKept, aZ cZ h_areKept 2 v_areKept] → ∀ (ls : Array Slot), lv_has ls 3 [(0, .ref h_this), (1, .int x1), (2, .int x2)] → W p l e R s m args below meth c H locs 0 0 (MQ below (PQz dC dI cI cJ cB cZ cF cG A o_r [oX12 h_this o_thrown h_tape v_length v_size v_p v_limit h_s h_h h_read h_names h_reserved v_token v_at v_span v_number v_fault v_faultAt v_word v_got v_lines v_hasChairs h_undone h_before v_undoMany v_hostIn v_nextMany v_trickSet v_pushSet v_hasTrick v_hasPush h_purse h_hostRow v_hostMany v_menuSet v_watchTired v_hasProud h_text v_textMany v_seed v_toldMany h_toldAt v_hasTold h_stack v_codes v_ones v_top v_deep v_isWhole h_truths h_imaged h_namesKept h_areKept, aI cI h_s 273 v_s, aJ cJ h_names 26 v_names, aI cI h_imaged 546 o_imaged, aJ cJ h_namesKept 26 o_namesKept, aZ cZ h_areKept 2 o_areKept]) args s 0 0 A) (F0 m 51 ls []) := by
  obtain ⟨hx, hb, hrt, hml, hown, hts, hlocks⟩ := id C0
  intro n
  induction n with
  | zero =>
    intro v_thrown v_imaged v_namesKept v_areKept x1 x2 hr
    exact nomatch (show (none : Option (Int32 × Int32 × (Nat → Int32) × (Nat → Int64) × (Nat → Int32))) = some _ from hr)
  | succ n ih =>
    intro v_thrown v_imaged v_namesKept v_areKept x1 x2 hr H locs hW ls hl
    obtain ⟨hK, hP, hD, hS⟩ := hW
    have hr : (if 13 ≤ x2 then gI x1 2 (nmv (upd v_areKept (Int32.toNatClampNeg x1) (vp_nar .boolean 1)) (fun w3 => some (1, v_thrown, v_imaged, v_namesKept, w3))) else gI x2 26 (nmv (v_names (Int32.toNatClampNeg x2)) (fun w4 => gI ((13 * x1) + x2) 26 (nmv (vp_updL v_namesKept (Int32.toNatClampNeg ((13 * x1) + x2)) w4) (fun w5 => lX12_image_51 v_s v_names n v_thrown v_imaged w5 v_areKept x1 (x2 + 1))))) : Option (Int32 × Int32 × (Nat → Int32) × (Nat → Int64) × (Nat → Int32))) = some (o_r, o_thrown, o_imaged, o_namesKept, o_areKept) := hr
    refine lv_iload_n hx hb dX12_image_51 rfl (lv_at hl 2 rfl) ?_
    refine lv_bipush (v := 13) hx hb dX12_image_52 (by decide) ?_
    refine lv_icmp_ge (tgt := 80) hx hb dX12_image_54 (by decide) (fun hc => ?_) (fun hc => ?_)
    · have hr := iteP hc hr
      refine lv_aload_n hx hb dX12_image_80 rfl (lv_at hl 0 rfl) ?_
      refine va_get (D := (dC, dI)) (ci := 12) (v := .ref h_areKept) (C := RX12) (T := TX12) (N := 52) hx hb hts (fun w h => List.mem_cons_of_mem _ (inU_12 w h)) hown hK hP 0 rfl rfl 51 (by decide) (hts _ (List.mem_cons_of_mem _ U_244)) (fun _ h9 => h9) rfl dX12_image_81 ?_
      refine lv_iload_n hx hb dX12_image_84 rfl (lv_at hl 1 rfl) ?_
      refine lv_iconst (v := 1) hx hb dX12_image_85 (by decide) ?_
      obtain ⟨hg, hr⟩ := gI_s hr
      obtain ⟨w3, hw3, hr⟩ := nm_s hr
      refine z_zast hx hb hK hP hD hS 5 3 rfl rfl hg rfl hw3 dX12_image_86 (fun H locs hP hD hS => ?_)
      have hP : va_P (dC, dI) vwCl [oX12 h_this v_thrown h_tape v_length v_size v_p v_limit h_s h_h h_read h_names h_reserved v_token v_at v_span v_number v_fault v_faultAt v_word v_got v_lines v_hasChairs h_undone h_before v_undoMany v_hostIn v_nextMany v_trickSet v_pushSet v_hasTrick v_hasPush h_purse h_hostRow v_hostMany v_menuSet v_watchTired v_hasProud h_text v_textMany v_seed v_toldMany h_toldAt v_hasTold h_stack v_codes v_ones v_top v_deep v_isWhole h_truths h_imaged h_namesKept h_areKept, aI cI h_s 273 v_s, aJ cJ h_names 26 v_names, aI cI h_imaged 546 v_imaged, aJ cJ h_namesKept 26 v_namesKept, aZ cZ h_areKept 2 w3] H := hP
      have hD : va_D A [oX12 h_this v_thrown h_tape v_length v_size v_p v_limit h_s h_h h_read h_names h_reserved v_token v_at v_span v_number v_fault v_faultAt v_word v_got v_lines v_hasChairs h_undone h_before v_undoMany v_hostIn v_nextMany v_trickSet v_pushSet v_hasTrick v_hasPush h_purse h_hostRow v_hostMany v_menuSet v_watchTired v_hasProud h_text v_textMany v_seed v_toldMany h_toldAt v_hasTold h_stack v_codes v_ones v_top v_deep v_isWhole h_truths h_imaged h_namesKept h_areKept, aI cI h_s 273 v_s, aJ cJ h_names 26 v_names, aI cI h_imaged 546 v_imaged, aJ cJ h_namesKept 26 v_namesKept, aZ cZ h_areKept 2 w3] := hD
      refine z_pc (pc' := 87) rfl ?_
      refine lv_iconst (v := 1) hx hb dX12_image_87 (by decide) ?_
      have q0 := Option.some.inj hr
      obtain ⟨e0, q1⟩ := Prod.mk.inj q0
      obtain ⟨e1, q2⟩ := Prod.mk.inj q1
      obtain ⟨e2, q3⟩ := Prod.mk.inj q2
      obtain ⟨e3, q4⟩ := Prod.mk.inj q3
      subst e0; subst e1; subst e2; subst e3; subst q4
      exact W.zret (v := 1) hx hb hrt rfl (fun t ht hW => ⟨⟨1, (), rfl, ⟨rfl, rfl⟩, by rw [ht]; exact hP, va_K.moved hW.alike hK, hD⟩, hS.F ht⟩) hS.2.2 dX12_image_88 hlocks
    · have hr := iteN hc hr
      refine lv_aload_n hx hb dX12_image_57 rfl (lv_at hl 0 rfl) ?_
      refine va_get (D := (dC, dI)) (ci := 12) (v := .ref h_namesKept) (C := RX12) (T := TX12) (N := 52) hx hb hts (fun w h => List.mem_cons_of_mem _ (inU_12 w h)) hown hK hP 0 rfl rfl 50 (by decide) (hts _ (List.mem_cons_of_mem _ U_243)) (fun _ h9 => h9) rfl dX12_image_58 ?_
      refine lv_bipush (v := 13) hx hb dX12_image_61 (by decide) ?_
      refine lv_iload_n hx hb dX12_image_63 rfl (lv_at hl 1 rfl) ?_
      refine lv_imul hx hb dX12_image_64 ?_
      refine z_pc (pc' := 65) rfl ?_
      refine lv_iload_n hx hb dX12_image_65 rfl (lv_at hl 2 rfl) ?_
      refine lv_iadd hx hb dX12_image_66 ?_
      refine lv_aload_n hx hb dX12_image_67 rfl (lv_at hl 0 rfl) ?_
      refine va_get (D := (dC, dI)) (ci := 12) (v := .ref h_names) (C := RX12) (T := TX12) (N := 52) hx hb hts (fun w h => List.mem_cons_of_mem _ (inU_12 w h)) hown hK hP 0 rfl rfl 9 (by decide) (hts _ (List.mem_cons_of_mem _ U_228)) (fun _ h9 => h9) rfl dX12_image_68 ?_
      refine lv_iload_n hx hb dX12_image_71 rfl (lv_at hl 2 rfl) ?_
      obtain ⟨hg, hr⟩ := gI_s hr
      refine z_lald hx hb hK hP 2 1 rfl rfl hg rfl dX12_image_72 ?_
      refine z_pc (pc' := 73) rfl ?_
      obtain ⟨w4, hw4, hr⟩ := nm_s hr
      refine z_topl hw4 ?_
      obtain ⟨hg, hr⟩ := gI_s hr
      obtain ⟨w5, hw5, hr⟩ := nm_s hr
      refine z_last hx hb hK hP hD hS 4 1 rfl rfl hg rfl hw5 dX12_image_73 (fun H locs hP hD hS => ?_)
      have hP : va_P (dC, dI) vwCl [oX12 h_this v_thrown h_tape v_length v_size v_p v_limit h_s h_h h_read h_names h_reserved v_token v_at v_span v_number v_fault v_faultAt v_word v_got v_lines v_hasChairs h_undone h_before v_undoMany v_hostIn v_nextMany v_trickSet v_pushSet v_hasTrick v_hasPush h_purse h_hostRow v_hostMany v_menuSet v_watchTired v_hasProud h_text v_textMany v_seed v_toldMany h_toldAt v_hasTold h_stack v_codes v_ones v_top v_deep v_isWhole h_truths h_imaged h_namesKept h_areKept, aI cI h_s 273 v_s, aJ cJ h_names 26 v_names, aI cI h_imaged 546 v_imaged, aJ cJ h_namesKept 26 w5, aZ cZ h_areKept 2 v_areKept] H := hP
      have hD : va_D A [oX12 h_this v_thrown h_tape v_length v_size v_p v_limit h_s h_h h_read h_names h_reserved v_token v_at v_span v_number v_fault v_faultAt v_word v_got v_lines v_hasChairs h_undone h_before v_undoMany v_hostIn v_nextMany v_trickSet v_pushSet v_hasTrick v_hasPush h_purse h_hostRow v_hostMany v_menuSet v_watchTired v_hasProud h_text v_textMany v_seed v_toldMany h_toldAt v_hasTold h_stack v_codes v_ones v_top v_deep v_isWhole h_truths h_imaged h_namesKept h_areKept, aI cI h_s 273 v_s, aJ cJ h_names 26 v_names, aI cI h_imaged 546 v_imaged, aJ cJ h_namesKept 26 w5, aZ cZ h_areKept 2 v_areKept] := hD
      refine lv_iinc (v := (x2 + 1)) (lv' := [(2, .int (x2 + 1)), (0, .ref h_this), (1, .int x1)]) hx hb dX12_image_74 hl (k := 2) rfl rfl (by decide) rfl (fun ls hl => ?_)
      refine lv_goto (tgt := 51) hx hb dX12_image_77 (by decide) ?_
      exact ih v_thrown v_imaged w5 v_areKept x1 (x2 + 1) hr _ _ ⟨hK, hP, hD, hS⟩ ls (lv_sub hl [1, 2, 0] rfl)
set_option maxHeartbeats 4000000 in
set_option maxRecDepth 100000 in
theorem tX12_image {p : Program} {l : Launch} {e : Env} {R : Room} {s : State} {m : MethodId} {args : Array Value} {below : List Frame} {meth : Method} {c : Code} {dC : Nat → ClassId} {dI : Nat → Nat → Nat} {cI cJ cB cZ cF cG : ClassId} {A : Nat → Prop} (hA : ∀ q : Nat, s.heap.size ≤ q → A q) (C0 : Cx p s m meth c args cX12_image 3 (some .boolean) RX12 uX12_image) (hR : 1 ≤ R.frames ∧ 22 ≤ R.locals) (h_this : Nat) (h_s : Nat) (h_names : Nat) (h_imaged : Nat) (h_namesKept : Nat) (h_areKept : Nat) (h_tape : Nat) (h_h : Nat) (h_read : Nat) (h_reserved : Nat) (h_undone : Nat) (h_before : Nat) (h_purse : Nat) (h_hostRow : Nat) (h_text : Nat) (h_toldAt : Nat) (h_stack : Nat) (h_truths : Nat) (v_length : Int32) (v_size : Int32) (v_p : Int32) (v_limit : Int32) (v_token : Int32) (v_at : Int32) (v_span : Int32) (v_number : Int32) (v_fault : Int32) (v_faultAt : Int32) (v_word : Int64) (v_got : Int32) (v_lines : Int32) (v_hasChairs : Int32) (v_undoMany : Int32) (v_hostIn : Int32) (v_nextMany : Int32) (v_trickSet : Int32) (v_pushSet : Int32) (v_hasTrick : Int32) (v_hasPush : Int32) (v_hostMany : Int32) (v_menuSet : Int32) (v_watchTired : Int32) (v_hasProud : Int32) (v_textMany : Int32) (v_seed : Int32) (v_toldMany : Int32) (v_hasTold : Int32) (v_codes : Int32) (v_ones : Int32) (v_top : Int32) (v_deep : Int32) (v_isWhole : Int32) (v_s : Nat → Int32) (v_names : Nat → Int64) (o_r : Int32) (o_thrown : Int32) (o_imaged : Nat → Int32) (o_namesKept : Nat → Int64) (o_areKept : Nat → Int32) :
    ∀ (v_thrown : Int32) (v_imaged : Nat → Int32) (v_namesKept : Nat → Int64) (v_areKept : Nat → Int32) (x1 : Int32), fX12_image v_s v_names v_thrown v_imaged v_namesKept v_areKept x1 = some (o_r, o_thrown, o_imaged, o_namesKept, o_areKept) → ∀ (H : Heap) (locs : List Loc), Wd dC dI cI cJ cB cZ cF cG A s H locs [oX12 h_this v_thrown h_tape v_length v_size v_p v_limit h_s h_h h_read h_names h_reserved v_token v_at v_span v_number v_fault v_faultAt v_word v_got v_lines v_hasChairs h_undone h_before v_undoMany v_hostIn v_nextMany v_trickSet v_pushSet v_hasTrick v_hasPush h_purse h_hostRow v_hostMany v_menuSet v_watchTired v_hasProud h_text v_textMany v_seed v_toldMany h_toldAt v_hasTold h_stack v_codes v_ones v_top v_deep v_isWhole h_truths h_imaged h_namesKept h_areKept, aI cI h_s 273 v_s, aJ cJ h_names 26 v_names, aI cI h_imaged 546 v_imaged, aJ cJ h_namesKept 26 v_namesKept, aZ cZ h_areKept 2 v_areKept] → ∀ (ls : Array Slot), lv_has ls 3 [(0, .ref h_this), (1, .int x1)] → W p l e R s m args below meth c H locs 0 0 (MQ below (PQz dC dI cI cJ cB cZ cF cG A o_r [oX12 h_this o_thrown h_tape v_length v_size v_p v_limit h_s h_h h_read h_names h_reserved v_token v_at v_span v_number v_fault v_faultAt v_word v_got v_lines v_hasChairs h_undone h_before v_undoMany v_hostIn v_nextMany v_trickSet v_pushSet v_hasTrick v_hasPush h_purse h_hostRow v_hostMany v_menuSet v_watchTired v_hasProud h_text v_textMany v_seed v_toldMany h_toldAt v_hasTold h_stack v_codes v_ones v_top v_deep v_isWhole h_truths h_imaged h_namesKept h_areKept, aI cI h_s 273 v_s, aJ cJ h_names 26 v_names, aI cI h_imaged 546 o_imaged, aJ cJ h_namesKept 26 o_namesKept, aZ cZ h_areKept 2 o_areKept]) args s 0 0 A) (F0 m 0 ls []) := by
  obtain ⟨hx, hb, hrt, hml, hown, hts, hlocks⟩ := id C0
  intro v_thrown v_imaged v_namesKept v_areKept x1 hr H locs hW ls hl
  obtain ⟨hK, hP, hD, hS⟩ := hW
  have hr : ((fX12_isIn x1 0 1).bind (fun r_1 => if r_1 = 0 then some (0, 0, v_imaged, v_namesKept, v_areKept) else lX12_image_18 v_s v_names (lX12_image_51 v_s v_names 5000) 5000 0 v_imaged v_namesKept v_areKept x1 0) : Option (Int32 × Int32 × (Nat → Int32) × (Nat → Int64) × (Nat → Int32))) = some (o_r, o_thrown, o_imaged, o_namesKept, o_areKept) := hr
  refine lv_aload_n hx hb dX12_image_0 rfl (lv_at hl 0 rfl) ?_
  refine lv_iconst (v := 0) hx hb dX12_image_1 (by decide) ?_
  refine va_put (D := (dC, dI)) (ci := 12) (v := .int 0) (ty := .int) (C := RX12) (T := TX12) (N := 52) hx hb hts (fun w h => List.mem_cons_of_mem _ (inU_12 w h)) tyX12 tyX12_ok nmX12 hown hK hP hD hS 0 rfl rfl 0 (by decide) (hts _ (List.mem_cons_of_mem _ U_288)) (fun _ h9 => h9) rfl (by decide +kernel) rfl rfl (Nat.le_of_ble_eq_true rfl) dX12_image_2 (fun H locs hP hD hS => ?_)
  have hP : va_P (dC, dI) vwCl [oX12 h_this 0 h_tape v_length v_size v_p v_limit h_s h_h h_read h_names h_reserved v_token v_at v_span v_number v_fault v_faultAt v_word v_got v_lines v_hasChairs h_undone h_before v_undoMany v_hostIn v_nextMany v_trickSet v_pushSet v_hasTrick v_hasPush h_purse h_hostRow v_hostMany v_menuSet v_watchTired v_hasProud h_text v_textMany v_seed v_toldMany h_toldAt v_hasTold h_stack v_codes v_ones v_top v_deep v_isWhole h_truths h_imaged h_namesKept h_areKept, aI cI h_s 273 v_s, aJ cJ h_names 26 v_names, aI cI h_imaged 546 v_imaged, aJ cJ h_namesKept 26 v_namesKept, aZ cZ h_areKept 2 v_areKept] H := hP
  have hD : va_D A [oX12 h_this 0 h_tape v_length v_size v_p v_limit h_s h_h h_read h_names h_reserved v_token v_at v_span v_number v_fault v_faultAt v_word v_got v_lines v_hasChairs h_undone h_before v_undoMany v_hostIn v_nextMany v_trickSet v_pushSet v_hasTrick v_hasPush h_purse h_hostRow v_hostMany v_menuSet v_watchTired v_hasProud h_text v_textMany v_seed v_toldMany h_toldAt v_hasTold h_stack v_codes v_ones v_top v_deep v_isWhole h_truths h_imaged h_namesKept h_areKept, aI cI h_s 273 v_s, aJ cJ h_names 26 v_names, aI cI h_imaged 546 v_imaged, aJ cJ h_namesKept 26 v_namesKept, aZ cZ h_areKept 2 v_areKept] := hD
  refine lv_iload_n hx hb dX12_image_5 rfl (lv_at hl 1 rfl) ?_
  refine lv_iconst (v := 0) hx hb dX12_image_6 (by decide) ?_
  refine z_pc (pc' := 7) rfl ?_
  refine lv_iconst (v := 1) hx hb dX12_image_7 (by decide) ?_
  obtain ⟨r_1, ho, hr⟩ := bind_s hr
  have hPc := hP.sub (ws' := []) [] rfl
  have hDc := hD.sub (ws' := []) [] (by decide) rfl
  have hFc := va_free (wc := []) hD hS hA [] rfl
  refine va_calli (va_runS (As := [.int x1, .int 0, .int 1]) (rest := []) ⟨hx, hb, hml, hown, hts⟩ (mX12_isIn l dC dI cI cJ cB cZ cF cG H.size x1 0 1 r_1 ho) (va_cwS 3 hts (goodS U_514 U_515 U_5 U_516) rfl rfl rfl (by decide +kernel) ⟨Nat.le_trans (by decide) hR.1, Nat.le_trans (Nat.le_of_ble_eq_true rfl) hR.2⟩) ⟨fun a U g mk q => by obtain ⟨q0, q1, qP, qK, qD⟩ := q; exact ⟨q0, q1, qP, va_K.moved (u := U) (U := U.calling g mk a) (Vm.Alike.refl U.vm) qK, qD⟩, fun U hU hW => ⟨rfl, by rw [hU], by rw [hU]; exact hPc, va_K.moved hW.alike hK, hDc.weaken (fun _ _ _ _ => trivial)⟩⟩ rfl rfl hl.1 rfl (lv_room (Nat.le_of_ble_eq_true rfl)) dX12_image_8 ⟨Nat.zero_le _, Nat.zero_le _⟩) hS (fun q _ h => hFc q h) hFc (fun rz u t H1 locs ht hvm hw hB hz1 hk1 hS => ?_)
  obtain ⟨hP1, hK1, hD1⟩ := hB
  obtain ⟨hw, hz_1⟩ := hw
  have hw := hw.symm; subst hw
  rw [ht] at hP1
  obtain ⟨hP, hD⟩ := va_join (wr := [oX12 h_this 0 h_tape v_length v_size v_p v_limit h_s h_h h_read h_names h_reserved v_token v_at v_span v_number v_fault v_faultAt v_word v_got v_lines v_hasChairs h_undone h_before v_undoMany v_hostIn v_nextMany v_trickSet v_pushSet v_hasTrick v_hasPush h_purse h_hostRow v_hostMany v_menuSet v_watchTired v_hasProud h_text v_textMany v_seed v_toldMany h_toldAt v_hasTold h_stack v_codes v_ones v_top v_deep v_isWhole h_truths h_imaged h_namesKept h_areKept, aI cI h_s 273 v_s, aJ cJ h_names 26 v_names, aI cI h_imaged 546 v_imaged, aJ cJ h_namesKept 26 v_namesKept, aZ cZ h_areKept 2 v_areKept]) (w1 := []) hP hD [] [0, 1, 2, 3, 4, 5] rfl rfl (by decide) (by decide) hk1 hFc hP1 hD1
  generalize H1 = H at hP hS ⊢
  have hP : va_P (dC, dI) vwCl [oX12 h_this 0 h_tape v_length v_size v_p v_limit h_s h_h h_read h_names h_reserved v_token v_at v_span v_number v_fault v_faultAt v_word v_got v_lines v_hasChairs h_undone h_before v_undoMany v_hostIn v_nextMany v_trickSet v_pushSet v_hasTrick v_hasPush h_purse h_hostRow v_hostMany v_menuSet v_watchTired v_hasProud h_text v_textMany v_seed v_toldMany h_toldAt v_hasTold h_stack v_codes v_ones v_top v_deep v_isWhole h_truths h_imaged h_namesKept h_areKept, aI cI h_s 273 v_s, aJ cJ h_names 26 v_names, aI cI h_imaged 546 v_imaged, aJ cJ h_namesKept 26 v_namesKept, aZ cZ h_areKept 2 v_areKept] H := hP
  have hD : va_D A [oX12 h_this 0 h_tape v_length v_size v_p v_limit h_s h_h h_read h_names h_reserved v_token v_at v_span v_number v_fault v_faultAt v_word v_got v_lines v_hasChairs h_undone h_before v_undoMany v_hostIn v_nextMany v_trickSet v_pushSet v_hasTrick v_hasPush h_purse h_hostRow v_hostMany v_menuSet v_watchTired v_hasProud h_text v_textMany v_seed v_toldMany h_toldAt v_hasTold h_stack v_codes v_ones v_top v_deep v_isWhole h_truths h_imaged h_namesKept h_areKept, aI cI h_s 273 v_s, aJ cJ h_names 26 v_names, aI cI h_imaged 546 v_imaged, aJ cJ h_namesKept 26 v_namesKept, aZ cZ h_areKept 2 v_areKept] := hD
  refine lv_if_ne (tgt := 16) hx hb dX12_image_11 (by decide) (fun hc => ?_) (fun hc => ?_)
  · have hr := iteN hc hr
    refine lv_iconst (v := 0) hx hb dX12_image_16 (by decide) ?_
    refine lv_istore_n (lv' := [(2, .int 0), (0, .ref h_this), (1, .int x1)]) hx hb dX12_image_17 rfl hl (by decide) rfl (fun ls hl => ?_)
    exact tX12_image_18 hA C0 hR h_this h_s h_names h_imaged h_namesKept h_areKept h_tape h_h h_read h_reserved h_undone h_before h_purse h_hostRow h_text h_toldAt h_stack h_truths v_length v_size v_p v_limit v_token v_at v_span v_number v_fault v_faultAt v_word v_got v_lines v_hasChairs v_undoMany v_hostIn v_nextMany v_trickSet v_pushSet v_hasTrick v_hasPush v_hostMany v_menuSet v_watchTired v_hasProud v_textMany v_seed v_toldMany v_hasTold v_codes v_ones v_top v_deep v_isWhole v_s v_names o_r o_thrown o_imaged o_namesKept o_areKept (tX12_image_51 hA C0 hR h_this h_s h_names h_imaged h_namesKept h_areKept h_tape h_h h_read h_reserved h_undone h_before h_purse h_hostRow h_text h_toldAt h_stack h_truths v_length v_size v_p v_limit v_token v_at v_span v_number v_fault v_faultAt v_word v_got v_lines v_hasChairs v_undoMany v_hostIn v_nextMany v_trickSet v_pushSet v_hasTrick v_hasPush v_hostMany v_menuSet v_watchTired v_hasProud v_textMany v_seed v_toldMany v_hasTold v_codes v_ones v_top v_deep v_isWhole v_s v_names o_r o_thrown o_imaged o_namesKept o_areKept 5000) 5000 0 v_imaged v_namesKept v_areKept x1 0 hr _ _ ⟨hK, hP, hD, hS⟩ ls (lv_sub hl [1, 2, 0] rfl)
  · have hr := iteP hc hr
    refine lv_iconst (v := 0) hx hb dX12_image_14 (by decide) ?_
    have q0 := Option.some.inj hr
    obtain ⟨e0, q1⟩ := Prod.mk.inj q0
    obtain ⟨e1, q2⟩ := Prod.mk.inj q1
    obtain ⟨e2, q3⟩ := Prod.mk.inj q2
    obtain ⟨e3, q4⟩ := Prod.mk.inj q3
    subst e0; subst e1; subst e2; subst e3; subst q4
    exact W.zret (v := 0) hx hb hrt rfl (fun t ht hW => ⟨⟨0, (), rfl, ⟨rfl, rfl⟩, by rw [ht]; exact hP, va_K.moved hW.alike hK, hD⟩, hS.F ht⟩) hS.2.2 dX12_image_15 hlocks
set_option maxHeartbeats 4000000 in
set_option maxRecDepth 100000 in
theorem mX12_image (l : Launch) (dC : Nat → ClassId) (dI : Nat → Nat → Nat) (cI cJ cB cZ cF cG : ClassId) (h_this : Nat) (h_s : Nat) (h_names : Nat) (h_imaged : Nat) (h_namesKept : Nat) (h_areKept : Nat) (h_tape : Nat) (h_h : Nat) (h_read : Nat) (h_reserved : Nat) (h_undone : Nat) (h_before : Nat) (h_purse : Nat) (h_hostRow : Nat) (h_text : Nat) (h_toldAt : Nat) (h_stack : Nat) (h_truths : Nat) (sz : Nat) (v_thrown : Int32) (v_length : Int32) (v_size : Int32) (v_p : Int32) (v_limit : Int32) (v_token : Int32) (v_at : Int32) (v_span : Int32) (v_number : Int32) (v_fault : Int32) (v_faultAt : Int32) (v_word : Int64) (v_got : Int32) (v_lines : Int32) (v_hasChairs : Int32) (v_undoMany : Int32) (v_hostIn : Int32) (v_nextMany : Int32) (v_trickSet : Int32) (v_pushSet : Int32) (v_hasTrick : Int32) (v_hasPush : Int32) (v_hostMany : Int32) (v_menuSet : Int32) (v_watchTired : Int32) (v_hasProud : Int32) (v_textMany : Int32) (v_seed : Int32) (v_toldMany : Int32) (v_hasTold : Int32) (v_codes : Int32) (v_ones : Int32) (v_top : Int32) (v_deep : Int32) (v_isWhole : Int32) (v_s : Nat → Int32) (v_names : Nat → Int64) (v_imaged : Nat → Int32) (v_namesKept : Nat → Int64) (v_areKept : Nat → Int32) (x1 : Int32) (o_r : Int32) (o_thrown : Int32) (o_imaged : Nat → Int32) (o_namesKept : Nat → Int64) (o_areKept : Nat → Int32) (hf : fX12_image v_s v_names v_thrown v_imaged v_namesKept v_areKept x1 = some (o_r, o_thrown, o_imaged, o_namesKept, o_areKept)) : Met l yX12_image uX12_image ({ frames := 1, cells := 0, slots := 0, locals := 22 }) (va_Pc [.ref h_this, .int x1] (fun U => U.heap.size = sz ∧ va_P (dC, dI) vwCl [oX12 h_this v_thrown h_tape v_length v_size v_p v_limit h_s h_h h_read h_names h_reserved v_token v_at v_span v_number v_fault v_faultAt v_word v_got v_lines v_hasChairs h_undone h_before v_undoMany v_hostIn v_nextMany v_trickSet v_pushSet v_hasTrick v_hasPush h_purse h_hostRow v_hostMany v_menuSet v_watchTired v_hasProud h_text v_textMany v_seed v_toldMany h_toldAt v_hasTold h_stack v_codes v_ones v_top v_deep v_isWhole h_truths h_imaged h_namesKept h_areKept, aI cI h_s 273 v_s, aJ cJ h_names 26 v_names, aI cI h_imaged 546 v_imaged, aJ cJ h_namesKept 26 v_namesKept, aZ cZ h_areKept 2 v_areKept] U.heap ∧ va_K (dC, dI) vwCl (TYS cI cJ cB cZ cF cG) U ∧ va_D (fun _ => True) [oX12 h_this v_thrown h_tape v_length v_size v_p v_limit h_s h_h h_read h_names h_reserved v_token v_at v_span v_number v_fault v_faultAt v_word v_got v_lines v_hasChairs h_undone h_before v_undoMany v_hostIn v_nextMany v_trickSet v_pushSet v_hasTrick v_hasPush h_purse h_hostRow v_hostMany v_menuSet v_watchTired v_hasProud h_text v_textMany v_seed v_toldMany h_toldAt v_hasTold h_stack v_codes v_ones v_top v_deep v_isWhole h_truths h_imaged h_namesKept h_areKept, aI cI h_s 273 v_s, aJ cJ h_names 26 v_names, aI cI h_imaged 546 v_imaged, aJ cJ h_namesKept 26 v_namesKept, aZ cZ h_areKept 2 v_areKept])) (PQz dC dI cI cJ cB cZ cF cG (va_A [oX12 h_this v_thrown h_tape v_length v_size v_p v_limit h_s h_h h_read h_names h_reserved v_token v_at v_span v_number v_fault v_faultAt v_word v_got v_lines v_hasChairs h_undone h_before v_undoMany v_hostIn v_nextMany v_trickSet v_pushSet v_hasTrick v_hasPush h_purse h_hostRow v_hostMany v_menuSet v_watchTired v_hasProud h_text v_textMany v_seed v_toldMany h_toldAt v_hasTold h_stack v_codes v_ones v_top v_deep v_isWhole h_truths h_imaged h_namesKept h_areKept, aI cI h_s 273 v_s, aJ cJ h_names 26 v_names, aI cI h_imaged 546 v_imaged, aJ cJ h_namesKept 26 v_namesKept, aZ cZ h_areKept 2 v_areKept] sz) o_r [oX12 h_this o_thrown h_tape v_length v_size v_p v_limit h_s h_h h_read h_names h_reserved v_token v_at v_span v_number v_fault v_faultAt v_word v_got v_lines v_hasChairs h_undone h_before v_undoMany v_hostIn v_nextMany v_trickSet v_pushSet v_hasTrick v_hasPush h_purse h_hostRow v_hostMany v_menuSet v_watchTired v_hasProud h_text v_textMany v_seed v_toldMany h_toldAt v_hasTold h_stack v_codes v_ones v_top v_deep v_isWhole h_truths h_imaged h_namesKept h_areKept, aI cI h_s 273 v_s, aJ cJ h_names 26 v_names, aI cI h_imaged 546 o_imaged, aJ cJ h_namesKept 26 o_namesKept, aZ cZ h_areKept 2 o_areKept]) 0 0 (va_A [oX12 h_this v_thrown h_tape v_length v_size v_p v_limit h_s h_h h_read h_names h_reserved v_token v_at v_span v_number v_fault v_faultAt v_word v_got v_lines v_hasChairs h_undone h_before v_undoMany v_hostIn v_nextMany v_trickSet v_pushSet v_hasTrick v_hasPush h_purse h_hostRow v_hostMany v_menuSet v_watchTired v_hasProud h_text v_textMany v_seed v_toldMany h_toldAt v_hasTold h_stack v_codes v_ones v_top v_deep v_isWhole h_truths h_imaged h_namesKept h_areKept, aI cI h_s 273 v_s, aJ cJ h_names 26 v_names, aI cI h_imaged 546 v_imaged, aJ cJ h_namesKept 26 v_namesKept, aZ cZ h_areKept 2 v_areKept] sz) := by
  refine Met.ofW (cc := cX12_image) (maxL := 3) (ret := (some .boolean)) (by decide) rfl ?_
  intro p e s m args below meth c s₁ B hml hv
  obtain ⟨rfl, hsz, hP, hK, hD0⟩ := hv
  have hx := B.exec
  have hb := B.bytes
  have hr := B.returns
  have hts := atoms_spec (ws := uX12_image) B.pre
  have hown : s.vm.findClass RX12 = some m.cls := findClass_of_methodNamed B.named
  have hlocks := B.notSynchronized
  subst hsz
  have hD := hD0.self (sz := s.heap.size)
  generalize hAe : va_A [oX12 h_this v_thrown h_tape v_length v_size v_p v_limit h_s h_h h_read h_names h_reserved v_token v_at v_span v_number v_fault v_faultAt v_word v_got v_lines v_hasChairs h_undone h_before v_undoMany v_hostIn v_nextMany v_trickSet v_pushSet v_hasTrick v_hasPush h_purse h_hostRow v_hostMany v_menuSet v_watchTired v_hasProud h_text v_textMany v_seed v_toldMany h_toldAt v_hasTold h_stack v_codes v_ones v_top v_deep v_isWhole h_truths h_imaged h_namesKept h_areKept, aI cI h_s 273 v_s, aJ cJ h_names 26 v_names, aI cI h_imaged 546 v_imaged, aJ cJ h_namesKept 26 v_namesKept, aZ cZ h_areKept 2 v_areKept] s.heap.size = A at hD ⊢
  have hA : ∀ q : Nat, s.heap.size ≤ q → A q := fun q h => by rw [← hAe]; exact Or.inr h
  have hS : va_S A s.heap s.heap [] := va_S.rf
  have hl := lv_entry ([.ref h_this, .int x1]) (n := 3) (Nat.le_of_ble_eq_true rfl)
  rw [lg_entry_eq]
  generalize (lg_sl ([.ref h_this, .int x1]) ++ List.replicate (3 - (lg_sl ([.ref h_this, .int x1])).length) Slot.unset).toArray = ls at hl ⊢
  have hl : lv_has ls 3 [(0, .ref h_this), (1, .int x1)] := hl
  exact tX12_image hA ⟨hx, hb, hr, hml, hown, hts, hlocks⟩ ⟨Nat.le_refl _, Nat.le_refl _⟩ h_this h_s h_names h_imaged h_namesKept h_areKept h_tape h_h h_read h_reserved h_undone h_before h_purse h_hostRow h_text h_toldAt h_stack h_truths v_length v_size v_p v_limit v_token v_at v_span v_number v_fault v_faultAt v_word v_got v_lines v_hasChairs v_undoMany v_hostIn v_nextMany v_trickSet v_pushSet v_hasTrick v_hasPush v_hostMany v_menuSet v_watchTired v_hasProud v_textMany v_seed v_toldMany v_hasTold v_codes v_ones v_top v_deep v_isWhole v_s v_names o_r o_thrown o_imaged o_namesKept o_areKept v_thrown v_imaged v_namesKept v_areKept x1 hf _ _ ⟨hK, hP, hD, hS⟩ ls hl
-- LastSeatModel.restore(I)Z
def uX12_restore : List Cond := .code yX12_restore cX12_restore 3 (some .boolean) :: wsU
set_option maxHeartbeats 4000000 in
set_option maxRecDepth 100000 in
theorem tX12_restore_27 {p : Program} {l : Launch} {e : Env} {R : Room} {s : State} {m : MethodId} {args : Array Value} {below : List Frame} {meth : Method} {c : Code} {dC : Nat → ClassId} {dI : Nat → Nat → Nat} {cI cJ cB cZ cF cG : ClassId} {A : Nat → Prop} {k60 : Int32 → Int32 → (Nat → Int32) → (Nat → Int64) → Int32 → Int32 → Option (Int32 × Int32 × Int32 × (Nat → Int32) × (Nat → Int64))} (hA : ∀ q : Nat, s.heap.size ≤ q → A q) (C0 : Cx p s m meth c args cX12_restore 3 (some .boolean) RX12 uX12_restore) (hR : 1 ≤ R.frames ∧ 22 ≤ R.locals) (h_this : Nat) (h_s : Nat) (h_names : Nat) (h_imaged : Nat) (h_namesKept : Nat) (h_areKept : Nat) (h_tape : Nat) (h_h : Nat) (h_read : Nat) (h_reserved : Nat) (h_undone : Nat) (h_before : Nat) (h_purse : Nat) (h_hostRow : Nat) (h_text : Nat) (h_toldAt : Nat) (h_stack : Nat) (h_truths : Nat) (v_length : Int32) (v_size : Int32) (v_p : Int32) (v_limit : Int32) (v_token : Int32) (v_at : Int32) (v_span : Int32) (v_number : Int32) (v_fault : Int32) (v_faultAt : Int32) (v_word : Int64) (v_got : Int32) (v_lines : Int32) (v_hasChairs : Int32) (v_hostIn : Int32) (v_nextMany : Int32) (v_trickSet : Int32) (v_pushSet : Int32) (v_hasTrick : Int32) (v_hasPush : Int32) (v_hostMany : Int32) (v_menuSet : Int32) (v_watchTired : Int32) (v_hasProud : Int32) (v_textMany : Int32) (v_seed : Int32) (v_toldMany : Int32) (v_hasTold : Int32) (v_codes : Int32) (v_ones : Int32) (v_top : Int32) (v_deep : Int32) (v_isWhole : Int32) (v_imaged : Nat → Int32) (v_namesKept : Nat → Int64) (v_areKept : Nat → Int32) (o_r : Int32) (o_thrown : Int32) (o_undoMany : Int32) (o_s : Nat → Int32) (o_names : Nat → Int64) (hk60 : ∀ (v_thrown : Int32) (v_undoMany : Int32) (v_s : Nat → Int32) (v_names : Nat → Int64) (x1 : Int32) (x2 : Int32), k60 v_thrown v_undoMany v_s v_names x1 x2 = some (o_r, o_thrown, o_undoMany, o_s, o_names) → ∀ (H : Heap) (locs : List Loc), Wd dC dI cI cJ cB cZ cF cG A s H locs [oX12 h_this v_thrown h_tape v_length v_size v_p v_limit h_s h_h h_read h_names h_reserved v_token v_at v_span v_number v_fault v_faultAt v_word v_got v_lines v_hasChairs h_undone h_before v_undoMany v_hostIn v_nextMany v_trickSet v_pushSet v_hasTrick v_hasPush h_purse h_hostRow v_hostMany v_menuSet v_watchTired v_hasProud h_text v_textMany v_seed v_toldMany h_toldAt v_hasTold h_stack v_codes v_ones v_top v_deep v_isWhole h_truths h_imaged h_namesKept h_areKept, aI cI h_s 273 v_s, aJ cJ h_names 26 v_names, aI cI h_imaged 546 v_imaged, aJ cJ h_namesKept 26 v_namesKept, aZ cZ h_areKept 2 v_areKept] → ∀ (ls : Array Slot), lv_has ls 3 [(0, .ref h_this), (1, .int x1), (2, .int x2)] → W p l e R s m args below meth c H locs 0 0 (MQ below (PQz dC dI cI cJ cB cZ cF cG A o_r [oX12 h_this o_thrown h_tape v_length v_size v_p v_limit h_s h_h h_read h_names h_reserved v_token v_at v_span v_number v_fault v_faultAt v_word v_got v_lines v_hasChairs h_undone h_before o_undoMany v_hostIn v_nextMany v_trickSet v_pushSet v_hasTrick v_hasPush h_purse h_hostRow v_hostMany v_menuSet v_watchTired v_hasProud h_text v_textMany v_seed v_toldMany h_toldAt v_hasTold h_stack v_codes v_ones v_top v_deep v_isWhole h_truths h_imaged h_namesKept h_areKept, aI cI h_s 273 o_s, aJ cJ h_names 26 o_names, aI cI h_imaged 546 v_imaged, aJ cJ h_namesKept 26 v_namesKept, aZ cZ h_areKept 2 v_areKept]) args s 0 0 A) (F0 m 60 ls [])) :
    ∀ n : Nat, ∀ (v_thrown : Int32) (v_undoMany : Int32) (v_s : Nat → Int32) (v_names : Nat → Int64) (x1 : Int32) (x2 : Int32), lX12_restore_27 v_imaged v_namesKept v_areKept k60 n v_thrown v_undoMany v_s v_names x1 x2 = some (o_r, o_thrown, o_undoMany, o_s, o_names) → ∀ (H : Heap) (locs : List Loc), Wd dC dI cI cJ cB cZ cF cG A s H locs [oX12 h_this v_thrown h_tape v_length v_size v_p v_limit h_s h_h h_read h_names h_reserved v_token v_at v_span v_number v_fault v_faultAt v_word v_got v_lines v_hasChairs h_undone h_before v_undoMany v_hostIn v_nextMany v_trickSet v_pushSet v_hasTrick v_hasPush h_purse h_hostRow v_hostMany v_menuSet v_watchTired v_hasProud h_text v_textMany v_seed v_toldMany h_toldAt v_hasTold h_stack v_codes v_ones v_top v_deep v_isWhole h_truths h_imaged h_namesKept h_areKept, aI cI h_s 273 v_s, aJ cJ h_names 26 v_names, aI cI h_imaged 546 v_imaged, aJ cJ h_namesKept 26 v_namesKept, aZ cZ h_areKept 2 v_areKept] → ∀ (ls : Array Slot), lv_has ls 3 [(0, .ref h_this), (1, .int x1), (2, .int x2)] → W p l e R s m args below meth c H locs 0 0 (MQ below (PQz dC dI cI cJ cB cZ cF cG A o_r [oX12 h_this o_thrown h_tape v_length v_size v_p v_limit h_s h_h h_read h_names h_reserved v_token v_at v_span v_number v_fault v_faultAt v_word v_got v_lines v_hasChairs h_undone h_before o_undoMany v_hostIn v_nextMany v_trickSet v_pushSet v_hasTrick v_hasPush h_purse h_hostRow v_hostMany v_menuSet v_watchTired v_hasProud h_text v_textMany v_seed v_toldMany h_toldAt v_hasTold h_stack v_codes v_ones v_top v_deep v_isWhole h_truths h_imaged h_namesKept h_areKept, aI cI h_s 273 o_s, aJ cJ h_names 26 o_names, aI cI h_imaged 546 v_imaged, aJ cJ h_namesKept 26 v_namesKept, aZ cZ h_areKept 2 v_areKept]) args s 0 0 A) (F0 m 27 ls []) := by
  obtain ⟨hx, hb, hrt, hml, hown, hts, hlocks⟩ := id C0
  intro n
  induction n with
  | zero =>
    intro v_thrown v_undoMany v_s v_names x1 x2 hr
    exact nomatch (show (none : Option (Int32 × Int32 × Int32 × (Nat → Int32) × (Nat → Int64))) = some _ from hr)
  | succ n ih =>
    intro v_thrown v_undoMany v_s v_names x1 x2 hr H locs hW ls hl
    obtain ⟨hK, hP, hD, hS⟩ := hW
    have hr : (if 273 ≤ x2 then k60 v_thrown v_undoMany v_s v_names x1 0 else gI ((273 * x1) + x2) 546 (nmv (v_imaged (Int32.toNatClampNeg ((273 * x1) + x2))) (fun w1 => gI x2 273 (nmv (upd v_s (Int32.toNatClampNeg x2) w1) (fun w2 => lX12_restore_27 v_imaged v_namesKept v_areKept k60 n v_thrown v_undoMany w2 v_names x1 (x2 + 1))))) : Option (Int32 × Int32 × Int32 × (Nat → Int32) × (Nat → Int64))) = some (o_r, o_thrown, o_undoMany, o_s, o_names) := hr
    refine lv_iload_n hx hb dX12_restore_27 rfl (lv_at hl 2 rfl) ?_
    refine lv_sipush (v := 273) hx hb dX12_restore_28 (by decide) ?_
    refine lv_icmp_ge (tgt := 58) hx hb dX12_restore_31 (by decide) (fun hc => ?_) (fun hc => ?_)
    · have hr := iteP hc hr
      refine lv_iconst (v := 0) hx hb dX12_restore_58 (by decide) ?_
      refine lv_istore_n (lv' := [(2, .int 0), (0, .ref h_this), (1, .int x1)]) hx hb dX12_restore_59 rfl hl (by decide) rfl (fun ls hl => ?_)
      exact hk60 v_thrown v_undoMany v_s v_names x1 0 hr _ _ ⟨hK, hP, hD, hS⟩ ls (lv_sub hl [1, 2, 0] rfl)
    · have hr := iteN hc hr
      refine lv_aload_n hx hb dX12_restore_34 rfl (lv_at hl 0 rfl) ?_
      refine va_get (D := (dC, dI)) (ci := 12) (v := .ref h_s) (C := RX12) (T := TX12) (N := 52) hx hb hts (fun w h => List.mem_cons_of_mem _ (inU_12 w h)) hown hK hP 0 rfl rfl 6 (by decide) (hts _ (List.mem_cons_of_mem _ U_225)) (fun _ h9 => h9) rfl dX12_restore_35 ?_
      refine lv_iload_n hx hb dX12_restore_38 rfl (lv_at hl 2 rfl) ?_
      refine lv_aload_n hx hb dX12_restore_39 rfl (lv_at hl 0 rfl) ?_
      refine va_get (D := (dC, dI)) (ci := 12) (v := .ref h_imaged) (C := RX12) (T := TX12) (N := 52) hx hb hts (fun w h => List.mem_cons_of_mem _ (inU_12 w h)) hown hK hP 0 rfl rfl 49 (by decide) (hts _ (List.mem_cons_of_mem _ U_242)) (fun _ h9 => h9) rfl dX12_restore_40 ?_
      refine z_pc (pc' := 43) rfl ?_
      refine lv_sipush (v := 273) hx hb dX12_restore_43 (by decide) ?_
      refine lv_iload_n hx hb dX12_restore_46 rfl (lv_at hl 1 rfl) ?_
      refine lv_imul hx hb dX12_restore_47 ?_
      refine lv_iload_n hx hb dX12_restore_48 rfl (lv_at hl 2 rfl) ?_
      refine lv_iadd hx hb dX12_restore_49 ?_
      obtain ⟨hg, hr⟩ := gI_s hr
      refine z_iald hx hb hK hP 3 0 rfl rfl hg rfl dX12_restore_50 ?_
      refine z_pc (pc' := 51) rfl ?_
      obtain ⟨w1, hw1, hr⟩ := nm_s hr
      refine z_topi hw1 ?_
      obtain ⟨hg, hr⟩ := gI_s hr
      obtain ⟨w2, hw2, hr⟩ := nm_s hr
      refine z_iast hx hb hK hP hD hS 1 0 rfl rfl hg rfl hw2 dX12_restore_51 (fun H locs hP hD hS => ?_)
      have hP : va_P (dC, dI) vwCl [oX12 h_this v_thrown h_tape v_length v_size v_p v_limit h_s h_h h_read h_names h_reserved v_token v_at v_span v_number v_fault v_faultAt v_word v_got v_lines v_hasChairs h_undone h_before v_undoMany v_hostIn v_nextMany v_trickSet v_pushSet v_hasTrick v_hasPush h_purse h_hostRow v_hostMany v_menuSet v_watchTired v_hasProud h_text v_textMany v_seed v_toldMany h_toldAt v_hasTold h_stack v_codes v_ones v_top v_deep v_isWhole h_truths h_imaged h_namesKept h_areKept, aI cI h_s 273 w2, aJ cJ h_names 26 v_names, aI cI h_imaged 546 v_imaged, aJ cJ h_namesKept 26 v_namesKept, aZ cZ h_areKept 2 v_areKept] H := hP
      have hD : va_D A [oX12 h_this v_thrown h_tape v_length v_size v_p v_limit h_s h_h h_read h_names h_reserved v_token v_at v_span v_number v_fault v_faultAt v_word v_got v_lines v_hasChairs h_undone h_before v_undoMany v_hostIn v_nextMany v_trickSet v_pushSet v_hasTrick v_hasPush h_purse h_hostRow v_hostMany v_menuSet v_watchTired v_hasProud h_text v_textMany v_seed v_toldMany h_toldAt v_hasTold h_stack v_codes v_ones v_top v_deep v_isWhole h_truths h_imaged h_namesKept h_areKept, aI cI h_s 273 w2, aJ cJ h_names 26 v_names, aI cI h_imaged 546 v_imaged, aJ cJ h_namesKept 26 v_namesKept, aZ cZ h_areKept 2 v_areKept] := hD
      refine lv_iinc (v := (x2 + 1)) (lv' := [(2, .int (x2 + 1)), (0, .ref h_this), (1, .int x1)]) hx hb dX12_restore_52 hl (k := 2) rfl rfl (by decide) rfl (fun ls hl => ?_)
      refine lv_goto (tgt := 27) hx hb dX12_restore_55 (by decide) ?_
      exact ih v_thrown v_undoMany w2 v_names x1 (x2 + 1) hr _ _ ⟨hK, hP, hD, hS⟩ ls (lv_sub hl [1, 2, 0] rfl)
set_option maxHeartbeats 4000000 in
set_option maxRecDepth 100000 in
theorem tX12_restore_60 {p : Program} {l : Launch} {e : Env} {R : Room} {s : State} {m : MethodId} {args : Array Value} {below : List Frame} {meth : Method} {c : Code} {dC : Nat → ClassId} {dI : Nat → Nat → Nat} {cI cJ cB cZ cF cG : ClassId} {A : Nat → Prop} (hA : ∀ q : Nat, s.heap.size ≤ q → A q) (C0 : Cx p s m meth c args cX12_restore 3 (some .boolean) RX12 uX12_restore) (hR : 1 ≤ R.frames ∧ 22 ≤ R.locals) (h_this : Nat) (h_s : Nat) (h_names : Nat) (h_imaged : Nat) (h_namesKept : Nat) (h_areKept : Nat) (h_tape : Nat) (h_h : Nat) (h_read : Nat) (h_reserved : Nat) (h_undone : Nat) (h_before : Nat) (h_purse : Nat) (h_hostRow : Nat) (h_text : Nat) (h_toldAt : Nat) (h_stack : Nat) (h_truths : Nat) (v_length : Int32) (v_size : Int32) (v_p : Int32) (v_limit : Int32) (v_token : Int32) (v_at : Int32) (v_span : Int32) (v_number : Int32) (v_fault : Int32) (v_faultAt : Int32) (v_word : Int64) (v_got : Int32) (v_lines : Int32) (v_hasChairs : Int32) (v_hostIn : Int32) (v_nextMany : Int32) (v_trickSet : Int32) (v_pushSet : Int32) (v_hasTrick : Int32) (v_hasPush : Int32) (v_hostMany : Int32) (v_menuSet : Int32) (v_watchTired : Int32) (v_hasProud : Int32) (v_textMany : Int32) (v_seed : Int32) (v_toldMany : Int32) (v_hasTold : Int32) (v_codes : Int32) (v_ones : Int32) (v_top : Int32) (v_deep : Int32) (v_isWhole : Int32) (v_imaged : Nat → Int32) (v_namesKept : Nat → Int64) (v_areKept : Nat → Int32) (o_r : Int32) (o_thrown : Int32) (o_undoMany : Int32) (o_s : Nat → Int32) (o_names : Nat → Int64) :
    ∀ n : Nat, ∀ (v_thrown : Int32) (v_undoMany : Int32) (v_s : Nat → Int32) (v_names : Nat → Int64) (x1 : Int32) (x2 : Int32), lX12_restore_60 v_imaged v_namesKept v_areKept n v_thrown v_undoMany v_s v_names x1 x2 = some (o_r, o_thrown, o_undoMany, o_s, o_names) → ∀ (H : Heap) (locs : List Loc), Wd dC dI cI cJ cB cZ cF cG A s H locs [oX12 h_this v_thrown h_tape v_length v_size v_p v_limit h_s h_h h_read h_names h_reserved v_token v_at v_span v_number v_fault v_faultAt v_word v_got v_lines v_hasChairs h_undone h_before v_undoMany v_hostIn v_nextMany v_trickSet v_pushSet v_hasTrick v_hasPush h_purse h_hostRow v_hostMany v_menuSet v_watchTired v_hasProud h_text v_textMany v_seed v_toldMany h_toldAt v_hasTold h_stack v_codes v_ones v_top v_deep v_isWhole h_truths h_imaged h_namesKept h_areKept, aI cI h_s 273 v_s, aJ cJ h_names 26 v_names, aI cI h_imaged 546 v_imaged, aJ cJ h_namesKept 26 v_namesKept, aZ cZ h_areKept 2 v_areKept] → ∀ (ls : Array Slot), lv_has ls 3 [(0, .ref h_this), (1, .int x1), (2, .int x2)] → W p l e R s m args below meth c H locs 0 0 (MQ below (PQz dC dI cI cJ cB cZ cF cG A o_r [oX12 h_this o_thrown h_tape v_length v_size v_p v_limit h_s h_h h_read h_names h_reserved v_token v_at v_span v_number v_fault v_faultAt v_word v_got v_lines v_hasChairs h_undone h_before o_undoMany v_hostIn v_nextMany v_trickSet v_pushSet v_hasTrick v_hasPush h_purse h_hostRow v_hostMany v_menuSet v_watchTired v_hasProud h_text v_textMany v_seed v_toldMany h_toldAt v_hasTold h_stack v_codes v_ones v_top v_deep v_isWhole h_truths h_imaged h_namesKept h_areKept, aI cI h_s 273 o_s, aJ cJ h_names 26 o_names, aI cI h_imaged 546 v_imaged, aJ cJ h_namesKept 26 v_namesKept, aZ cZ h_areKept 2 v_areKept]) args s 0 0 A) (F0 m 60 ls []) := by
  obtain ⟨hx, hb, hrt, hml, hown, hts, hlocks⟩ := id C0
  intro n
  induction n with
  | zero =>
    intro v_thrown v_undoMany v_s v_names x1 x2 hr
    exact nomatch (show (none : Option (Int32 × Int32 × Int32 × (Nat → Int32) × (Nat → Int64))) = some _ from hr)
  | succ n ih =>
    intro v_thrown v_undoMany v_s v_names x1 x2 hr H locs hW ls hl
    obtain ⟨hK, hP, hD, hS⟩ := hW
    have hr : (if 13 ≤ x2 then some (1, v_thrown, 0, v_s, v_names) else gI ((13 * x1) + x2) 26 (nmv (v_namesKept (Int32.toNatClampNeg ((13 * x1) + x2))) (fun w3 => gI x2 26 (nmv (vp_updL v_names (Int32.toNatClampNeg x2) w3) (fun w4 => lX12_restore_60 v_imaged v_namesKept v_areKept n v_thrown v_undoMany v_s w4 x1 (x2 + 1))))) : Option (Int32 × Int32 × Int32 × (Nat → Int32) × (Nat → Int64))) = some (o_r, o_thrown, o_undoMany, o_s, o_names) := hr
    refine lv_iload_n hx hb dX12_restore_60 rfl (lv_at hl 2 rfl) ?_
    refine lv_bipush (v := 13) hx hb dX12_restore_61 (by decide) ?_
    refine lv_icmp_ge (tgt := 89) hx hb dX12_restore_63 (by decide) (fun hc => ?_) (fun hc => ?_)
    · have hr := iteP hc hr
      refine lv_aload_n hx hb dX12_restore_89 rfl (lv_at hl 0 rfl) ?_
      refine lv_iconst (v := 0) hx hb dX12_restore_90 (by decide) ?_
      refine va_put (D := (dC, dI)) (ci := 12) (v := .int 0) (ty := .int) (C := RX12) (T := TX12) (N := 52) hx hb hts (fun w h => List.mem_cons_of_mem _ (inU_12 w h)) tyX12 tyX12_ok nmX12 hown hK hP hD hS 0 rfl rfl 23 (by decide) (hts _ (List.mem_cons_of_mem _ U_463)) (fun _ h9 => h9) rfl (by decide +kernel) rfl rfl (Nat.le_of_ble_eq_true rfl) dX12_restore_91 (fun H locs hP hD hS => ?_)
      have hP : va_P (dC, dI) vwCl [oX12 h_this v_thrown h_tape v_length v_size v_p v_limit h_s h_h h_read h_names h_reserved v_token v_at v_span v_number v_fault v_faultAt v_word v_got v_lines v_hasChairs h_undone h_before 0 v_hostIn v_nextMany v_trickSet v_pushSet v_hasTrick v_hasPush h_purse h_hostRow v_hostMany v_menuSet v_watchTired v_hasProud h_text v_textMany v_seed v_toldMany h_toldAt v_hasTold h_stack v_codes v_ones v_top v_deep v_isWhole h_truths h_imaged h_namesKept h_areKept, aI cI h_s 273 v_s, aJ cJ h_names 26 v_names, aI cI h_imaged 546 v_imaged, aJ cJ h_namesKept 26 v_namesKept, aZ cZ h_areKept 2 v_areKept] H := hP
      have hD : va_D A [oX12 h_this v_thrown h_tape v_length v_size v_p v_limit h_s h_h h_read h_names h_reserved v_token v_at v_span v_number v_fault v_faultAt v_word v_got v_lines v_hasChairs h_undone h_before 0 v_hostIn v_nextMany v_trickSet v_pushSet v_hasTrick v_hasPush h_purse h_hostRow v_hostMany v_menuSet v_watchTired v_hasProud h_text v_textMany v_seed v_toldMany h_toldAt v_hasTold h_stack v_codes v_ones v_top v_deep v_isWhole h_truths h_imaged h_namesKept h_areKept, aI cI h_s 273 v_s, aJ cJ h_names 26 v_names, aI cI h_imaged 546 v_imaged, aJ cJ h_namesKept 26 v_namesKept, aZ cZ h_areKept 2 v_areKept] := hD
      refine lv_iconst (v := 1) hx hb dX12_restore_94 (by decide) ?_
      have q0 := Option.some.inj hr
      obtain ⟨e0, q1⟩ := Prod.mk.inj q0
      obtain ⟨e1, q2⟩ := Prod.mk.inj q1
      obtain ⟨e2, q3⟩ := Prod.mk.inj q2
      obtain ⟨e3, q4⟩ := Prod.mk.inj q3
      subst e0; subst e1; subst e2; subst e3; subst q4
      exact W.zret (v := 1) hx hb hrt rfl (fun t ht hW => ⟨⟨1, (), rfl, ⟨rfl, rfl⟩, by rw [ht]; exact hP, va_K.moved hW.alike hK, hD⟩, hS.F ht⟩) hS.2.2 dX12_restore_95 hlocks
    · have hr := iteN hc hr
      refine lv_aload_n hx hb dX12_restore_66 rfl (lv_at hl 0 rfl) ?_
      refine va_get (D := (dC, dI)) (ci := 12) (v := .ref h_names) (C := RX12) (T := TX12) (N := 52) hx hb hts (fun w h => List.mem_cons_of_mem _ (inU_12 w h)) hown hK hP 0 rfl rfl 9 (by decide) (hts _ (List.mem_cons_of_mem _ U_228)) (fun _ h9 => h9) rfl dX12_restore_67 ?_
      refine lv_iload_n hx hb dX12_restore_70 rfl (lv_at hl 2 rfl) ?_
      refine lv_aload_n hx hb dX12_restore_71 rfl (lv_at hl 0 rfl) ?_
      refine va_get (D := (dC, dI)) (ci := 12) (v := .ref h_namesKept) (C := RX12) (T := TX12) (N := 52) hx hb hts (fun w h => List.mem_cons_of_mem _ (inU_12 w h)) hown hK hP 0 rfl rfl 50 (by decide) (hts _ (List.mem_cons_of_mem _ U_243)) (fun _ h9 => h9) rfl dX12_restore_72 ?_
      refine z_pc (pc' := 75) rfl ?_
      refine lv_bipush (v := 13) hx hb dX12_restore_75 (by decide) ?_
      refine lv_iload_n hx hb dX12_restore_77 rfl (lv_at hl 1 rfl) ?_
      refine lv_imul hx hb dX12_restore_78 ?_
      refine lv_iload_n hx hb dX12_restore_79 rfl (lv_at hl 2 rfl) ?_
      refine lv_iadd hx hb dX12_restore_80 ?_
      obtain ⟨hg, hr⟩ := gI_s hr
      refine z_lald hx hb hK hP 4 1 rfl rfl hg rfl dX12_restore_81 ?_
      refine z_pc (pc' := 82) rfl ?_
      obtain ⟨w3, hw3, hr⟩ := nm_s hr
      refine z_topl hw3 ?_
      obtain ⟨hg, hr⟩ := gI_s hr
      obtain ⟨w4, hw4, hr⟩ := nm_s hr
      refine z_last hx hb hK hP hD hS 2 1 rfl rfl hg rfl hw4 dX12_restore_82 (fun H locs hP hD hS => ?_)
      have hP : va_P (dC, dI) vwCl [oX12 h_this v_thrown h_tape v_length v_size v_p v_limit h_s h_h h_read h_names h_reserved v_token v_at v_span v_number v_fault v_faultAt v_word v_got v_lines v_hasChairs h_undone h_before v_undoMany v_hostIn v_nextMany v_trickSet v_pushSet v_hasTrick v_hasPush h_purse h_hostRow v_hostMany v_menuSet v_watchTired v_hasProud h_text v_textMany v_seed v_toldMany h_toldAt v_hasTold h_stack v_codes v_ones v_top v_deep v_isWhole h_truths h_imaged h_namesKept h_areKept, aI cI h_s 273 v_s, aJ cJ h_names 26 w4, aI cI h_imaged 546 v_imaged, aJ cJ h_namesKept 26 v_namesKept, aZ cZ h_areKept 2 v_areKept] H := hP
      have hD : va_D A [oX12 h_this v_thrown h_tape v_length v_size v_p v_limit h_s h_h h_read h_names h_reserved v_token v_at v_span v_number v_fault v_faultAt v_word v_got v_lines v_hasChairs h_undone h_before v_undoMany v_hostIn v_nextMany v_trickSet v_pushSet v_hasTrick v_hasPush h_purse h_hostRow v_hostMany v_menuSet v_watchTired v_hasProud h_text v_textMany v_seed v_toldMany h_toldAt v_hasTold h_stack v_codes v_ones v_top v_deep v_isWhole h_truths h_imaged h_namesKept h_areKept, aI cI h_s 273 v_s, aJ cJ h_names 26 w4, aI cI h_imaged 546 v_imaged, aJ cJ h_namesKept 26 v_namesKept, aZ cZ h_areKept 2 v_areKept] := hD
      refine lv_iinc (v := (x2 + 1)) (lv' := [(2, .int (x2 + 1)), (0, .ref h_this), (1, .int x1)]) hx hb dX12_restore_83 hl (k := 2) rfl rfl (by decide) rfl (fun ls hl => ?_)
      refine lv_goto (tgt := 60) hx hb dX12_restore_86 (by decide) ?_
      exact ih v_thrown v_undoMany v_s w4 x1 (x2 + 1) hr _ _ ⟨hK, hP, hD, hS⟩ ls (lv_sub hl [1, 2, 0] rfl)
set_option maxHeartbeats 4000000 in
set_option maxRecDepth 100000 in
theorem tX12_restore {p : Program} {l : Launch} {e : Env} {R : Room} {s : State} {m : MethodId} {args : Array Value} {below : List Frame} {meth : Method} {c : Code} {dC : Nat → ClassId} {dI : Nat → Nat → Nat} {cI cJ cB cZ cF cG : ClassId} {A : Nat → Prop} (hA : ∀ q : Nat, s.heap.size ≤ q → A q) (C0 : Cx p s m meth c args cX12_restore 3 (some .boolean) RX12 uX12_restore) (hR : 1 ≤ R.frames ∧ 22 ≤ R.locals) (h_this : Nat) (h_s : Nat) (h_names : Nat) (h_imaged : Nat) (h_namesKept : Nat) (h_areKept : Nat) (h_tape : Nat) (h_h : Nat) (h_read : Nat) (h_reserved : Nat) (h_undone : Nat) (h_before : Nat) (h_purse : Nat) (h_hostRow : Nat) (h_text : Nat) (h_toldAt : Nat) (h_stack : Nat) (h_truths : Nat) (v_length : Int32) (v_size : Int32) (v_p : Int32) (v_limit : Int32) (v_token : Int32) (v_at : Int32) (v_span : Int32) (v_number : Int32) (v_fault : Int32) (v_faultAt : Int32) (v_word : Int64) (v_got : Int32) (v_lines : Int32) (v_hasChairs : Int32) (v_hostIn : Int32) (v_nextMany : Int32) (v_trickSet : Int32) (v_pushSet : Int32) (v_hasTrick : Int32) (v_hasPush : Int32) (v_hostMany : Int32) (v_menuSet : Int32) (v_watchTired : Int32) (v_hasProud : Int32) (v_textMany : Int32) (v_seed : Int32) (v_toldMany : Int32) (v_hasTold : Int32) (v_codes : Int32) (v_ones : Int32) (v_top : Int32) (v_deep : Int32) (v_isWhole : Int32) (v_imaged : Nat → Int32) (v_namesKept : Nat → Int64) (v_areKept : Nat → Int32) (o_r : Int32) (o_thrown : Int32) (o_undoMany : Int32) (o_s : Nat → Int32) (o_names : Nat → Int64) :
    ∀ (v_thrown : Int32) (v_undoMany : Int32) (v_s : Nat → Int32) (v_names : Nat → Int64) (x1 : Int32), fX12_restore v_imaged v_namesKept v_areKept v_thrown v_undoMany v_s v_names x1 = some (o_r, o_thrown, o_undoMany, o_s, o_names) → ∀ (H : Heap) (locs : List Loc), Wd dC dI cI cJ cB cZ cF cG A s H locs [oX12 h_this v_thrown h_tape v_length v_size v_p v_limit h_s h_h h_read h_names h_reserved v_token v_at v_span v_number v_fault v_faultAt v_word v_got v_lines v_hasChairs h_undone h_before v_undoMany v_hostIn v_nextMany v_trickSet v_pushSet v_hasTrick v_hasPush h_purse h_hostRow v_hostMany v_menuSet v_watchTired v_hasProud h_text v_textMany v_seed v_toldMany h_toldAt v_hasTold h_stack v_codes v_ones v_top v_deep v_isWhole h_truths h_imaged h_namesKept h_areKept, aI cI h_s 273 v_s, aJ cJ h_names 26 v_names, aI cI h_imaged 546 v_imaged, aJ cJ h_namesKept 26 v_namesKept, aZ cZ h_areKept 2 v_areKept] → ∀ (ls : Array Slot), lv_has ls 3 [(0, .ref h_this), (1, .int x1)] → W p l e R s m args below meth c H locs 0 0 (MQ below (PQz dC dI cI cJ cB cZ cF cG A o_r [oX12 h_this o_thrown h_tape v_length v_size v_p v_limit h_s h_h h_read h_names h_reserved v_token v_at v_span v_number v_fault v_faultAt v_word v_got v_lines v_hasChairs h_undone h_before o_undoMany v_hostIn v_nextMany v_trickSet v_pushSet v_hasTrick v_hasPush h_purse h_hostRow v_hostMany v_menuSet v_watchTired v_hasProud h_text v_textMany v_seed v_toldMany h_toldAt v_hasTold h_stack v_codes v_ones v_top v_deep v_isWhole h_truths h_imaged h_namesKept h_areKept, aI cI h_s 273 o_s, aJ cJ h_names 26 o_names, aI cI h_imaged 546 v_imaged, aJ cJ h_namesKept 26 v_namesKept, aZ cZ h_areKept 2 v_areKept]) args s 0 0 A) (F0 m 0 ls []) := by
  obtain ⟨hx, hb, hrt, hml, hown, hts, hlocks⟩ := id C0
  intro v_thrown v_undoMany v_s v_names x1 hr H locs hW ls hl
  obtain ⟨hK, hP, hD, hS⟩ := hW
  have hr : ((fX12_isIn x1 0 1).bind (fun r_1 => if r_1 = 0 then some (0, 0, v_undoMany, v_s, v_names) else gI x1 2 (if (v_areKept (Int32.toNatClampNeg x1)) = 0 then some (0, 0, v_undoMany, v_s, v_names) else lX12_restore_27 v_imaged v_namesKept v_areKept (lX12_restore_60 v_imaged v_namesKept v_areKept 5000) 5000 0 v_undoMany v_s v_names x1 0)) : Option (Int32 × Int32 × Int32 × (Nat → Int32) × (Nat → Int64))) = some (o_r, o_thrown, o_undoMany, o_s, o_names) := hr
  refine lv_aload_n hx hb dX12_restore_0 rfl (lv_at hl 0 rfl) ?_
  refine lv_iconst (v := 0) hx hb dX12_restore_1 (by decide) ?_
  refine va_put (D := (dC, dI)) (ci := 12) (v := .int 0) (ty := .int) (C := RX12) (T := TX12) (N := 52) hx hb hts (fun w h => List.mem_cons_of_mem _ (inU_12 w h)) tyX12 tyX12_ok nmX12 hown hK hP hD hS 0 rfl rfl 0 (by decide) (hts _ (List.mem_cons_of_mem _ U_288)) (fun _ h9 => h9) rfl (by decide +kernel) rfl rfl (Nat.le_of_ble_eq_true rfl) dX12_restore_2 (fun H locs hP hD hS => ?_)
  have hP : va_P (dC, dI) vwCl [oX12 h_this 0 h_tape v_length v_size v_p v_limit h_s h_h h_read h_names h_reserved v_token v_at v_span v_number v_fault v_faultAt v_word v_got v_lines v_hasChairs h_undone h_before v_undoMany v_hostIn v_nextMany v_trickSet v_pushSet v_hasTrick v_hasPush h_purse h_hostRow v_hostMany v_menuSet v_watchTired v_hasProud h_text v_textMany v_seed v_toldMany h_toldAt v_hasTold h_stack v_codes v_ones v_top v_deep v_isWhole h_truths h_imaged h_namesKept h_areKept, aI cI h_s 273 v_s, aJ cJ h_names 26 v_names, aI cI h_imaged 546 v_imaged, aJ cJ h_namesKept 26 v_namesKept, aZ cZ h_areKept 2 v_areKept] H := hP
  have hD : va_D A [oX12 h_this 0 h_tape v_length v_size v_p v_limit h_s h_h h_read h_names h_reserved v_token v_at v_span v_number v_fault v_faultAt v_word v_got v_lines v_hasChairs h_undone h_before v_undoMany v_hostIn v_nextMany v_trickSet v_pushSet v_hasTrick v_hasPush h_purse h_hostRow v_hostMany v_menuSet v_watchTired v_hasProud h_text v_textMany v_seed v_toldMany h_toldAt v_hasTold h_stack v_codes v_ones v_top v_deep v_isWhole h_truths h_imaged h_namesKept h_areKept, aI cI h_s 273 v_s, aJ cJ h_names 26 v_names, aI cI h_imaged 546 v_imaged, aJ cJ h_namesKept 26 v_namesKept, aZ cZ h_areKept 2 v_areKept] := hD
  refine lv_iload_n hx hb dX12_restore_5 rfl (lv_at hl 1 rfl) ?_
  refine lv_iconst (v := 0) hx hb dX12_restore_6 (by decide) ?_
  refine z_pc (pc' := 7) rfl ?_
  refine lv_iconst (v := 1) hx hb dX12_restore_7 (by decide) ?_
  obtain ⟨r_1, ho, hr⟩ := bind_s hr
  have hPc := hP.sub (ws' := []) [] rfl
  have hDc := hD.sub (ws' := []) [] (by decide) rfl
  have hFc := va_free (wc := []) hD hS hA [] rfl
  refine va_calli (va_runS (As := [.int x1, .int 0, .int 1]) (rest := []) ⟨hx, hb, hml, hown, hts⟩ (mX12_isIn l dC dI cI cJ cB cZ cF cG H.size x1 0 1 r_1 ho) (va_cwS 3 hts (goodS U_514 U_515 U_5 U_516) rfl rfl rfl (by decide +kernel) ⟨Nat.le_trans (by decide) hR.1, Nat.le_trans (Nat.le_of_ble_eq_true rfl) hR.2⟩) ⟨fun a U g mk q => by obtain ⟨q0, q1, qP, qK, qD⟩ := q; exact ⟨q0, q1, qP, va_K.moved (u := U) (U := U.calling g mk a) (Vm.Alike.refl U.vm) qK, qD⟩, fun U hU hW => ⟨rfl, by rw [hU], by rw [hU]; exact hPc, va_K.moved hW.alike hK, hDc.weaken (fun _ _ _ _ => trivial)⟩⟩ rfl rfl hl.1 rfl (lv_room (Nat.le_of_ble_eq_true rfl)) dX12_restore_8 ⟨Nat.zero_le _, Nat.zero_le _⟩) hS (fun q _ h => hFc q h) hFc (fun rz u t H1 locs ht hvm hw hB hz1 hk1 hS => ?_)
  obtain ⟨hP1, hK1, hD1⟩ := hB
  obtain ⟨hw, hz_1⟩ := hw
  have hw := hw.symm; subst hw
  rw [ht] at hP1
  obtain ⟨hP, hD⟩ := va_join (wr := [oX12 h_this 0 h_tape v_length v_size v_p v_limit h_s h_h h_read h_names h_reserved v_token v_at v_span v_number v_fault v_faultAt v_word v_got v_lines v_hasChairs h_undone h_before v_undoMany v_hostIn v_nextMany v_trickSet v_pushSet v_hasTrick v_hasPush h_purse h_hostRow v_hostMany v_menuSet v_watchTired v_hasProud h_text v_textMany v_seed v_toldMany h_toldAt v_hasTold h_stack v_codes v_ones v_top v_deep v_isWhole h_truths h_imaged h_namesKept h_areKept, aI cI h_s 273 v_s, aJ cJ h_names 26 v_names, aI cI h_imaged 546 v_imaged, aJ cJ h_namesKept 26 v_namesKept, aZ cZ h_areKept 2 v_areKept]) (w1 := []) hP hD [] [0, 1, 2, 3, 4, 5] rfl rfl (by decide) (by decide) hk1 hFc hP1 hD1
  generalize H1 = H at hP hS ⊢
  have hP : va_P (dC, dI) vwCl [oX12 h_this 0 h_tape v_length v_size v_p v_limit h_s h_h h_read h_names h_reserved v_token v_at v_span v_number v_fault v_faultAt v_word v_got v_lines v_hasChairs h_undone h_before v_undoMany v_hostIn v_nextMany v_trickSet v_pushSet v_hasTrick v_hasPush h_purse h_hostRow v_hostMany v_menuSet v_watchTired v_hasProud h_text v_textMany v_seed v_toldMany h_toldAt v_hasTold h_stack v_codes v_ones v_top v_deep v_isWhole h_truths h_imaged h_namesKept h_areKept, aI cI h_s 273 v_s, aJ cJ h_names 26 v_names, aI cI h_imaged 546 v_imaged, aJ cJ h_namesKept 26 v_namesKept, aZ cZ h_areKept 2 v_areKept] H := hP
  have hD : va_D A [oX12 h_this 0 h_tape v_length v_size v_p v_limit h_s h_h h_read h_names h_reserved v_token v_at v_span v_number v_fault v_faultAt v_word v_got v_lines v_hasChairs h_undone h_before v_undoMany v_hostIn v_nextMany v_trickSet v_pushSet v_hasTrick v_hasPush h_purse h_hostRow v_hostMany v_menuSet v_watchTired v_hasProud h_text v_textMany v_seed v_toldMany h_toldAt v_hasTold h_stack v_codes v_ones v_top v_deep v_isWhole h_truths h_imaged h_namesKept h_areKept, aI cI h_s 273 v_s, aJ cJ h_names 26 v_names, aI cI h_imaged 546 v_imaged, aJ cJ h_namesKept 26 v_namesKept, aZ cZ h_areKept 2 v_areKept] := hD
  refine lv_if_eq (tgt := 23) hx hb dX12_restore_11 (by decide) (fun hc => ?_) (fun hc => ?_)
  · have hr := iteP hc hr
    refine lv_iconst (v := 0) hx hb dX12_restore_23 (by decide) ?_
    have q0 := Option.some.inj hr
    obtain ⟨e0, q1⟩ := Prod.mk.inj q0
    obtain ⟨e1, q2⟩ := Prod.mk.inj q1
    obtain ⟨e2, q3⟩ := Prod.mk.inj q2
    obtain ⟨e3, q4⟩ := Prod.mk.inj q3
    subst e0; subst e1; subst e2; subst e3; subst q4
    exact W.zret (v := 0) hx hb hrt rfl (fun t ht hW => ⟨⟨0, (), rfl, ⟨rfl, rfl⟩, by rw [ht]; exact hP, va_K.moved hW.alike hK, hD⟩, hS.F ht⟩) hS.2.2 dX12_restore_24 hlocks
  · have hr := iteN hc hr
    refine lv_aload_n hx hb dX12_restore_14 rfl (lv_at hl 0 rfl) ?_
    refine va_get (D := (dC, dI)) (ci := 12) (v := .ref h_areKept) (C := RX12) (T := TX12) (N := 52) hx hb hts (fun w h => List.mem_cons_of_mem _ (inU_12 w h)) hown hK hP 0 rfl rfl 51 (by decide) (hts _ (List.mem_cons_of_mem _ U_244)) (fun _ h9 => h9) rfl dX12_restore_15 ?_
    refine lv_iload_n hx hb dX12_restore_18 rfl (lv_at hl 1 rfl) ?_
    obtain ⟨hg, hr⟩ := gI_s hr
    refine z_zald hx hb hK hP 5 3 rfl rfl hg rfl dX12_restore_19 ?_
    refine lv_if_ne (tgt := 25) hx hb dX12_restore_20 (by decide) (fun hc => ?_) (fun hc => ?_)
    · have hr := iteN hc hr
      refine lv_iconst (v := 0) hx hb dX12_restore_25 (by decide) ?_
      refine lv_istore_n (lv' := [(2, .int 0), (0, .ref h_this), (1, .int x1)]) hx hb dX12_restore_26 rfl hl (by decide) rfl (fun ls hl => ?_)
      exact tX12_restore_27 hA C0 hR h_this h_s h_names h_imaged h_namesKept h_areKept h_tape h_h h_read h_reserved h_undone h_before h_purse h_hostRow h_text h_toldAt h_stack h_truths v_length v_size v_p v_limit v_token v_at v_span v_number v_fault v_faultAt v_word v_got v_lines v_hasChairs v_hostIn v_nextMany v_trickSet v_pushSet v_hasTrick v_hasPush v_hostMany v_menuSet v_watchTired v_hasProud v_textMany v_seed v_toldMany v_hasTold v_codes v_ones v_top v_deep v_isWhole v_imaged v_namesKept v_areKept o_r o_thrown o_undoMany o_s o_names (tX12_restore_60 hA C0 hR h_this h_s h_names h_imaged h_namesKept h_areKept h_tape h_h h_read h_reserved h_undone h_before h_purse h_hostRow h_text h_toldAt h_stack h_truths v_length v_size v_p v_limit v_token v_at v_span v_number v_fault v_faultAt v_word v_got v_lines v_hasChairs v_hostIn v_nextMany v_trickSet v_pushSet v_hasTrick v_hasPush v_hostMany v_menuSet v_watchTired v_hasProud v_textMany v_seed v_toldMany v_hasTold v_codes v_ones v_top v_deep v_isWhole v_imaged v_namesKept v_areKept o_r o_thrown o_undoMany o_s o_names 5000) 5000 0 v_undoMany v_s v_names x1 0 hr _ _ ⟨hK, hP, hD, hS⟩ ls (lv_sub hl [1, 2, 0] rfl)
    · have hr := iteP hc hr
      refine lv_iconst (v := 0) hx hb dX12_restore_23 (by decide) ?_
      have q0 := Option.some.inj hr
      obtain ⟨e0, q1⟩ := Prod.mk.inj q0
      obtain ⟨e1, q2⟩ := Prod.mk.inj q1
      obtain ⟨e2, q3⟩ := Prod.mk.inj q2
      obtain ⟨e3, q4⟩ := Prod.mk.inj q3
      subst e0; subst e1; subst e2; subst e3; subst q4
      exact W.zret (v := 0) hx hb hrt rfl (fun t ht hW => ⟨⟨0, (), rfl, ⟨rfl, rfl⟩, by rw [ht]; exact hP, va_K.moved hW.alike hK, hD⟩, hS.F ht⟩) hS.2.2 dX12_restore_24 hlocks
set_option maxHeartbeats 4000000 in
set_option maxRecDepth 100000 in
theorem mX12_restore (l : Launch) (dC : Nat → ClassId) (dI : Nat → Nat → Nat) (cI cJ cB cZ cF cG : ClassId) (h_this : Nat) (h_s : Nat) (h_names : Nat) (h_imaged : Nat) (h_namesKept : Nat) (h_areKept : Nat) (h_tape : Nat) (h_h : Nat) (h_read : Nat) (h_reserved : Nat) (h_undone : Nat) (h_before : Nat) (h_purse : Nat) (h_hostRow : Nat) (h_text : Nat) (h_toldAt : Nat) (h_stack : Nat) (h_truths : Nat) (sz : Nat) (v_thrown : Int32) (v_length : Int32) (v_size : Int32) (v_p : Int32) (v_limit : Int32) (v_token : Int32) (v_at : Int32) (v_span : Int32) (v_number : Int32) (v_fault : Int32) (v_faultAt : Int32) (v_word : Int64) (v_got : Int32) (v_lines : Int32) (v_hasChairs : Int32) (v_undoMany : Int32) (v_hostIn : Int32) (v_nextMany : Int32) (v_trickSet : Int32) (v_pushSet : Int32) (v_hasTrick : Int32) (v_hasPush : Int32) (v_hostMany : Int32) (v_menuSet : Int32) (v_watchTired : Int32) (v_hasProud : Int32) (v_textMany : Int32) (v_seed : Int32) (v_toldMany : Int32) (v_hasTold : Int32) (v_codes : Int32) (v_ones : Int32) (v_top : Int32) (v_deep : Int32) (v_isWhole : Int32) (v_s : Nat → Int32) (v_names : Nat → Int64) (v_imaged : Nat → Int32) (v_namesKept : Nat → Int64) (v_areKept : Nat → Int32) (x1 : Int32) (o_r : Int32) (o_thrown : Int32) (o_undoMany : Int32) (o_s : Nat → Int32) (o_names : Nat → Int64) (hf : fX12_restore v_imaged v_namesKept v_areKept v_thrown v_undoMany v_s v_names x1 = some (o_r, o_thrown, o_undoMany, o_s, o_names)) : Met l yX12_restore uX12_restore ({ frames := 1, cells := 0, slots := 0, locals := 22 }) (va_Pc [.ref h_this, .int x1] (fun U => U.heap.size = sz ∧ va_P (dC, dI) vwCl [oX12 h_this v_thrown h_tape v_length v_size v_p v_limit h_s h_h h_read h_names h_reserved v_token v_at v_span v_number v_fault v_faultAt v_word v_got v_lines v_hasChairs h_undone h_before v_undoMany v_hostIn v_nextMany v_trickSet v_pushSet v_hasTrick v_hasPush h_purse h_hostRow v_hostMany v_menuSet v_watchTired v_hasProud h_text v_textMany v_seed v_toldMany h_toldAt v_hasTold h_stack v_codes v_ones v_top v_deep v_isWhole h_truths h_imaged h_namesKept h_areKept, aI cI h_s 273 v_s, aJ cJ h_names 26 v_names, aI cI h_imaged 546 v_imaged, aJ cJ h_namesKept 26 v_namesKept, aZ cZ h_areKept 2 v_areKept] U.heap ∧ va_K (dC, dI) vwCl (TYS cI cJ cB cZ cF cG) U ∧ va_D (fun _ => True) [oX12 h_this v_thrown h_tape v_length v_size v_p v_limit h_s h_h h_read h_names h_reserved v_token v_at v_span v_number v_fault v_faultAt v_word v_got v_lines v_hasChairs h_undone h_before v_undoMany v_hostIn v_nextMany v_trickSet v_pushSet v_hasTrick v_hasPush h_purse h_hostRow v_hostMany v_menuSet v_watchTired v_hasProud h_text v_textMany v_seed v_toldMany h_toldAt v_hasTold h_stack v_codes v_ones v_top v_deep v_isWhole h_truths h_imaged h_namesKept h_areKept, aI cI h_s 273 v_s, aJ cJ h_names 26 v_names, aI cI h_imaged 546 v_imaged, aJ cJ h_namesKept 26 v_namesKept, aZ cZ h_areKept 2 v_areKept])) (PQz dC dI cI cJ cB cZ cF cG (va_A [oX12 h_this v_thrown h_tape v_length v_size v_p v_limit h_s h_h h_read h_names h_reserved v_token v_at v_span v_number v_fault v_faultAt v_word v_got v_lines v_hasChairs h_undone h_before v_undoMany v_hostIn v_nextMany v_trickSet v_pushSet v_hasTrick v_hasPush h_purse h_hostRow v_hostMany v_menuSet v_watchTired v_hasProud h_text v_textMany v_seed v_toldMany h_toldAt v_hasTold h_stack v_codes v_ones v_top v_deep v_isWhole h_truths h_imaged h_namesKept h_areKept, aI cI h_s 273 v_s, aJ cJ h_names 26 v_names, aI cI h_imaged 546 v_imaged, aJ cJ h_namesKept 26 v_namesKept, aZ cZ h_areKept 2 v_areKept] sz) o_r [oX12 h_this o_thrown h_tape v_length v_size v_p v_limit h_s h_h h_read h_names h_reserved v_token v_at v_span v_number v_fault v_faultAt v_word v_got v_lines v_hasChairs h_undone h_before o_undoMany v_hostIn v_nextMany v_trickSet v_pushSet v_hasTrick v_hasPush h_purse h_hostRow v_hostMany v_menuSet v_watchTired v_hasProud h_text v_textMany v_seed v_toldMany h_toldAt v_hasTold h_stack v_codes v_ones v_top v_deep v_isWhole h_truths h_imaged h_namesKept h_areKept, aI cI h_s 273 o_s, aJ cJ h_names 26 o_names, aI cI h_imaged 546 v_imaged, aJ cJ h_namesKept 26 v_namesKept, aZ cZ h_areKept 2 v_areKept]) 0 0 (va_A [oX12 h_this v_thrown h_tape v_length v_size v_p v_limit h_s h_h h_read h_names h_reserved v_token v_at v_span v_number v_fault v_faultAt v_word v_got v_lines v_hasChairs h_undone h_before v_undoMany v_hostIn v_nextMany v_trickSet v_pushSet v_hasTrick v_hasPush h_purse h_hostRow v_hostMany v_menuSet v_watchTired v_hasProud h_text v_textMany v_seed v_toldMany h_toldAt v_hasTold h_stack v_codes v_ones v_top v_deep v_isWhole h_truths h_imaged h_namesKept h_areKept, aI cI h_s 273 v_s, aJ cJ h_names 26 v_names, aI cI h_imaged 546 v_imaged, aJ cJ h_namesKept 26 v_namesKept, aZ cZ h_areKept 2 v_areKept] sz) := by
  refine Met.ofW (cc := cX12_restore) (maxL := 3) (ret := (some .boolean)) (by decide) rfl ?_
  intro p e s m args below meth c s₁ B hml hv
  obtain ⟨rfl, hsz, hP, hK, hD0⟩ := hv
  have hx := B.exec
  have hb := B.bytes
  have hr := B.returns
  have hts := atoms_spec (ws := uX12_restore) B.pre
  have hown : s.vm.findClass RX12 = some m.cls := findClass_of_methodNamed B.named
  have hlocks := B.notSynchronized
  subst hsz
  have hD := hD0.self (sz := s.heap.size)
  generalize hAe : va_A [oX12 h_this v_thrown h_tape v_length v_size v_p v_limit h_s h_h h_read h_names h_reserved v_token v_at v_span v_number v_fault v_faultAt v_word v_got v_lines v_hasChairs h_undone h_before v_undoMany v_hostIn v_nextMany v_trickSet v_pushSet v_hasTrick v_hasPush h_purse h_hostRow v_hostMany v_menuSet v_watchTired v_hasProud h_text v_textMany v_seed v_toldMany h_toldAt v_hasTold h_stack v_codes v_ones v_top v_deep v_isWhole h_truths h_imaged h_namesKept h_areKept, aI cI h_s 273 v_s, aJ cJ h_names 26 v_names, aI cI h_imaged 546 v_imaged, aJ cJ h_namesKept 26 v_namesKept, aZ cZ h_areKept 2 v_areKept] s.heap.size = A at hD ⊢
  have hA : ∀ q : Nat, s.heap.size ≤ q → A q := fun q h => by rw [← hAe]; exact Or.inr h
  have hS : va_S A s.heap s.heap [] := va_S.rf
  have hl := lv_entry ([.ref h_this, .int x1]) (n := 3) (Nat.le_of_ble_eq_true rfl)
  rw [lg_entry_eq]
  generalize (lg_sl ([.ref h_this, .int x1]) ++ List.replicate (3 - (lg_sl ([.ref h_this, .int x1])).length) Slot.unset).toArray = ls at hl ⊢
  have hl : lv_has ls 3 [(0, .ref h_this), (1, .int x1)] := hl
  exact tX12_restore hA ⟨hx, hb, hr, hml, hown, hts, hlocks⟩ ⟨Nat.le_refl _, Nat.le_refl _⟩ h_this h_s h_names h_imaged h_namesKept h_areKept h_tape h_h h_read h_reserved h_undone h_before h_purse h_hostRow h_text h_toldAt h_stack h_truths v_length v_size v_p v_limit v_token v_at v_span v_number v_fault v_faultAt v_word v_got v_lines v_hasChairs v_hostIn v_nextMany v_trickSet v_pushSet v_hasTrick v_hasPush v_hostMany v_menuSet v_watchTired v_hasProud v_textMany v_seed v_toldMany v_hasTold v_codes v_ones v_top v_deep v_isWhole v_imaged v_namesKept v_areKept o_r o_thrown o_undoMany o_s o_names v_thrown v_undoMany v_s v_names x1 hf _ _ ⟨hK, hP, hD, hS⟩ ls hl
-- LastSeatModel.count(I)I
def uX12_count : List Cond := .code yX12_count cX12_count 2 (some .int) :: wsU
set_option maxHeartbeats 4000000 in
set_option maxRecDepth 100000 in
theorem tX12_count {p : Program} {l : Launch} {e : Env} {R : Room} {s : State} {m : MethodId} {args : Array Value} {below : List Frame} {meth : Method} {c : Code} {dC : Nat → ClassId} {dI : Nat → Nat → Nat} {cI cJ cB cZ cF cG : ClassId} {A : Nat → Prop} (hA : ∀ q : Nat, s.heap.size ≤ q → A q) (C0 : Cx p s m meth c args cX12_count 2 (some .int) RX12 uX12_count) (hR : 1 ≤ R.frames ∧ 22 ≤ R.locals) (h_this : Nat) (h_s : Nat) (h_tape : Nat) (h_h : Nat) (h_read : Nat) (h_names : Nat) (h_reserved : Nat) (h_undone : Nat) (h_before : Nat) (h_purse : Nat) (h_hostRow : Nat) (h_text : Nat) (h_toldAt : Nat) (h_stack : Nat) (h_truths : Nat) (h_imaged : Nat) (h_namesKept : Nat) (h_areKept : Nat) (v_length : Int32) (v_size : Int32) (v_p : Int32) (v_limit : Int32) (v_token : Int32) (v_at : Int32) (v_span : Int32) (v_number : Int32) (v_fault : Int32) (v_faultAt : Int32) (v_word : Int64) (v_got : Int32) (v_lines : Int32) (v_hasChairs : Int32) (v_undoMany : Int32) (v_hostIn : Int32) (v_nextMany : Int32) (v_trickSet : Int32) (v_pushSet : Int32) (v_hasTrick : Int32) (v_hasPush : Int32) (v_hostMany : Int32) (v_menuSet : Int32) (v_watchTired : Int32) (v_hasProud : Int32) (v_textMany : Int32) (v_seed : Int32) (v_toldMany : Int32) (v_hasTold : Int32) (v_codes : Int32) (v_ones : Int32) (v_top : Int32) (v_deep : Int32) (v_isWhole : Int32) (v_s : Nat → Int32) (o_r : Int32) (o_thrown : Int32) :
    ∀ (v_thrown : Int32) (x1 : Int32), fX12_count v_length v_s v_thrown x1 = some (o_r, o_thrown) → ∀ (H : Heap) (locs : List Loc), Wd dC dI cI cJ cB cZ cF cG A s H locs [oX12 h_this v_thrown h_tape v_length v_size v_p v_limit h_s h_h h_read h_names h_reserved v_token v_at v_span v_number v_fault v_faultAt v_word v_got v_lines v_hasChairs h_undone h_before v_undoMany v_hostIn v_nextMany v_trickSet v_pushSet v_hasTrick v_hasPush h_purse h_hostRow v_hostMany v_menuSet v_watchTired v_hasProud h_text v_textMany v_seed v_toldMany h_toldAt v_hasTold h_stack v_codes v_ones v_top v_deep v_isWhole h_truths h_imaged h_namesKept h_areKept, aI cI h_s 273 v_s] → ∀ (ls : Array Slot), lv_has ls 2 [(0, .ref h_this), (1, .int x1)] → W p l e R s m args below meth c H locs 0 0 (MQ below (PQi dC dI cI cJ cB cZ cF cG A o_r [oX12 h_this o_thrown h_tape v_length v_size v_p v_limit h_s h_h h_read h_names h_reserved v_token v_at v_span v_number v_fault v_faultAt v_word v_got v_lines v_hasChairs h_undone h_before v_undoMany v_hostIn v_nextMany v_trickSet v_pushSet v_hasTrick v_hasPush h_purse h_hostRow v_hostMany v_menuSet v_watchTired v_hasProud h_text v_textMany v_seed v_toldMany h_toldAt v_hasTold h_stack v_codes v_ones v_top v_deep v_isWhole h_truths h_imaged h_namesKept h_areKept, aI cI h_s 273 v_s]) args s 0 0 A) (F0 m 0 ls []) := by
  obtain ⟨hx, hb, hrt, hml, hown, hts, hlocks⟩ := id C0
  intro v_thrown x1 hr H locs hW ls hl
  obtain ⟨hK, hP, hD, hS⟩ := hW
  have hr : (if x1 = 3 then some (v_length, 0) else (fX12_isIn x1 0 2).bind (fun r_1 => if r_1 = 0 then some ((-1), 0) else gI x1 273 (some ((v_s (Int32.toNatClampNeg x1)), 0))) : Option (Int32 × Int32)) = some (o_r, o_thrown) := hr
  refine lv_aload_n hx hb dX12_count_0 rfl (lv_at hl 0 rfl) ?_
  refine lv_iconst (v := 0) hx hb dX12_count_1 (by decide) ?_
  refine va_put (D := (dC, dI)) (ci := 12) (v := .int 0) (ty := .int) (C := RX12) (T := TX12) (N := 52) hx hb hts (fun w h => List.mem_cons_of_mem _ (inU_12 w h)) tyX12 tyX12_ok nmX12 hown hK hP hD hS 0 rfl rfl 0 (by decide) (hts _ (List.mem_cons_of_mem _ U_288)) (fun _ h9 => h9) rfl (by decide +kernel) rfl rfl (Nat.le_of_ble_eq_true rfl) dX12_count_2 (fun H locs hP hD hS => ?_)
  have hP : va_P (dC, dI) vwCl [oX12 h_this 0 h_tape v_length v_size v_p v_limit h_s h_h h_read h_names h_reserved v_token v_at v_span v_number v_fault v_faultAt v_word v_got v_lines v_hasChairs h_undone h_before v_undoMany v_hostIn v_nextMany v_trickSet v_pushSet v_hasTrick v_hasPush h_purse h_hostRow v_hostMany v_menuSet v_watchTired v_hasProud h_text v_textMany v_seed v_toldMany h_toldAt v_hasTold h_stack v_codes v_ones v_top v_deep v_isWhole h_truths h_imaged h_namesKept h_areKept, aI cI h_s 273 v_s] H := hP
  have hD : va_D A [oX12 h_this 0 h_tape v_length v_size v_p v_limit h_s h_h h_read h_names h_reserved v_token v_at v_span v_number v_fault v_faultAt v_word v_got v_lines v_hasChairs h_undone h_before v_undoMany v_hostIn v_nextMany v_trickSet v_pushSet v_hasTrick v_hasPush h_purse h_hostRow v_hostMany v_menuSet v_watchTired v_hasProud h_text v_textMany v_seed v_toldMany h_toldAt v_hasTold h_stack v_codes v_ones v_top v_deep v_isWhole h_truths h_imaged h_namesKept h_areKept, aI cI h_s 273 v_s] := hD
  refine lv_iload_n hx hb dX12_count_5 rfl (lv_at hl 1 rfl) ?_
  refine lv_iconst (v := 3) hx hb dX12_count_6 (by decide) ?_
  refine z_pc (pc' := 7) rfl ?_
  refine lv_icmp_ne (tgt := 17) hx hb dX12_count_7 (by decide) (fun hc => ?_) (fun hc => ?_)
  · have hr := iteN hc hr
    refine lv_iload_n hx hb dX12_count_17 rfl (lv_at hl 1 rfl) ?_
    refine lv_iconst (v := 0) hx hb dX12_count_18 (by decide) ?_
    refine lv_iconst (v := 2) hx hb dX12_count_19 (by decide) ?_
    obtain ⟨r_1, ho, hr⟩ := bind_s hr
    have hPc := hP.sub (ws' := []) [] rfl
    have hDc := hD.sub (ws' := []) [] (by decide) rfl
    have hFc := va_free (wc := []) hD hS hA [] rfl
    refine va_calli (va_runS (As := [.int x1, .int 0, .int 2]) (rest := []) ⟨hx, hb, hml, hown, hts⟩ (mX12_isIn l dC dI cI cJ cB cZ cF cG H.size x1 0 2 r_1 ho) (va_cwS 3 hts (goodS U_514 U_515 U_5 U_516) rfl rfl rfl (by decide +kernel) ⟨Nat.le_trans (by decide) hR.1, Nat.le_trans (Nat.le_of_ble_eq_true rfl) hR.2⟩) ⟨fun a U g mk q => by obtain ⟨q0, q1, qP, qK, qD⟩ := q; exact ⟨q0, q1, qP, va_K.moved (u := U) (U := U.calling g mk a) (Vm.Alike.refl U.vm) qK, qD⟩, fun U hU hW => ⟨rfl, by rw [hU], by rw [hU]; exact hPc, va_K.moved hW.alike hK, hDc.weaken (fun _ _ _ _ => trivial)⟩⟩ rfl rfl hl.1 rfl (lv_room (Nat.le_of_ble_eq_true rfl)) dX12_count_20 ⟨Nat.zero_le _, Nat.zero_le _⟩) hS (fun q _ h => hFc q h) hFc (fun rz u t H1 locs ht hvm hw hB hz1 hk1 hS => ?_)
    obtain ⟨hP1, hK1, hD1⟩ := hB
    obtain ⟨hw, hz_1⟩ := hw
    have hw := hw.symm; subst hw
    rw [ht] at hP1
    obtain ⟨hP, hD⟩ := va_join (wr := [oX12 h_this 0 h_tape v_length v_size v_p v_limit h_s h_h h_read h_names h_reserved v_token v_at v_span v_number v_fault v_faultAt v_word v_got v_lines v_hasChairs h_undone h_before v_undoMany v_hostIn v_nextMany v_trickSet v_pushSet v_hasTrick v_hasPush h_purse h_hostRow v_hostMany v_menuSet v_watchTired v_hasProud h_text v_textMany v_seed v_toldMany h_toldAt v_hasTold h_stack v_codes v_ones v_top v_deep v_isWhole h_truths h_imaged h_namesKept h_areKept, aI cI h_s 273 v_s]) (w1 := []) hP hD [] [0, 1] rfl rfl (by decide) (by decide) hk1 hFc hP1 hD1
    generalize H1 = H at hP hS ⊢
    have hP : va_P (dC, dI) vwCl [oX12 h_this 0 h_tape v_length v_size v_p v_limit h_s h_h h_read h_names h_reserved v_token v_at v_span v_number v_fault v_faultAt v_word v_got v_lines v_hasChairs h_undone h_before v_undoMany v_hostIn v_nextMany v_trickSet v_pushSet v_hasTrick v_hasPush h_purse h_hostRow v_hostMany v_menuSet v_watchTired v_hasProud h_text v_textMany v_seed v_toldMany h_toldAt v_hasTold h_stack v_codes v_ones v_top v_deep v_isWhole h_truths h_imaged h_namesKept h_areKept, aI cI h_s 273 v_s] H := hP
    have hD : va_D A [oX12 h_this 0 h_tape v_length v_size v_p v_limit h_s h_h h_read h_names h_reserved v_token v_at v_span v_number v_fault v_faultAt v_word v_got v_lines v_hasChairs h_undone h_before v_undoMany v_hostIn v_nextMany v_trickSet v_pushSet v_hasTrick v_hasPush h_purse h_hostRow v_hostMany v_menuSet v_watchTired v_hasProud h_text v_textMany v_seed v_toldMany h_toldAt v_hasTold h_stack v_codes v_ones v_top v_deep v_isWhole h_truths h_imaged h_namesKept h_areKept, aI cI h_s 273 v_s] := hD
    refine lv_if_eq (tgt := 35) hx hb dX12_count_23 (by decide) (fun hc => ?_) (fun hc => ?_)
    · have hr := iteP hc hr
      refine lv_iconst (v := (-1)) hx hb dX12_count_35 (by decide) ?_
      have q0 := Option.some.inj hr
      obtain ⟨e0, q1⟩ := Prod.mk.inj q0
      subst e0; subst q1
      exact W.iret (v := (-1)) hx hb hrt (fun t ht hW => ⟨⟨(-1), (), rfl, rfl, by rw [ht]; exact hP, va_K.moved hW.alike hK, hD⟩, hS.F ht⟩) hS.2.2 dX12_count_36 hlocks
    · have hr := iteN hc hr
      refine lv_aload_n hx hb dX12_count_26 rfl (lv_at hl 0 rfl) ?_
      refine va_get (D := (dC, dI)) (ci := 12) (v := .ref h_s) (C := RX12) (T := TX12) (N := 52) hx hb hts (fun w h => List.mem_cons_of_mem _ (inU_12 w h)) hown hK hP 0 rfl rfl 6 (by decide) (hts _ (List.mem_cons_of_mem _ U_225)) (fun _ h9 => h9) rfl dX12_count_27 ?_
      refine lv_iload_n hx hb dX12_count_30 rfl (lv_at hl 1 rfl) ?_
      obtain ⟨hg, hr⟩ := gI_s hr
      refine z_iald hx hb hK hP 1 0 rfl rfl hg rfl dX12_count_31 ?_
      refine lv_goto (tgt := 36) hx hb dX12_count_32 (by decide) ?_
      refine z_pc (pc' := 36) rfl ?_
      have q0 := Option.some.inj hr
      obtain ⟨e0, q1⟩ := Prod.mk.inj q0
      subst e0; subst q1
      exact W.iret (v := (v_s (Int32.toNatClampNeg x1))) hx hb hrt (fun t ht hW => ⟨⟨(v_s (Int32.toNatClampNeg x1)), (), rfl, rfl, by rw [ht]; exact hP, va_K.moved hW.alike hK, hD⟩, hS.F ht⟩) hS.2.2 dX12_count_36 hlocks
  · have hr := iteP hc hr
    refine lv_aload_n hx hb dX12_count_10 rfl (lv_at hl 0 rfl) ?_
    refine va_get (D := (dC, dI)) (ci := 12) (v := .int v_length) (C := RX12) (T := TX12) (N := 52) hx hb hts (fun w h => List.mem_cons_of_mem _ (inU_12 w h)) hown hK hP 0 rfl rfl 2 (by decide) (hts _ (List.mem_cons_of_mem _ U_289)) (fun _ h9 => h9) rfl dX12_count_11 ?_
    refine lv_goto (tgt := 36) hx hb dX12_count_14 (by decide) ?_
    have q0 := Option.some.inj hr
    obtain ⟨e0, q1⟩ := Prod.mk.inj q0
    subst e0; subst q1
    exact W.iret (v := v_length) hx hb hrt (fun t ht hW => ⟨⟨v_length, (), rfl, rfl, by rw [ht]; exact hP, va_K.moved hW.alike hK, hD⟩, hS.F ht⟩) hS.2.2 dX12_count_36 hlocks
set_option maxHeartbeats 4000000 in
set_option maxRecDepth 100000 in
theorem mX12_count (l : Launch) (dC : Nat → ClassId) (dI : Nat → Nat → Nat) (cI cJ cB cZ cF cG : ClassId) (h_this : Nat) (h_s : Nat) (h_tape : Nat) (h_h : Nat) (h_read : Nat) (h_names : Nat) (h_reserved : Nat) (h_undone : Nat) (h_before : Nat) (h_purse : Nat) (h_hostRow : Nat) (h_text : Nat) (h_toldAt : Nat) (h_stack : Nat) (h_truths : Nat) (h_imaged : Nat) (h_namesKept : Nat) (h_areKept : Nat) (sz : Nat) (v_thrown : Int32) (v_length : Int32) (v_size : Int32) (v_p : Int32) (v_limit : Int32) (v_token : Int32) (v_at : Int32) (v_span : Int32) (v_number : Int32) (v_fault : Int32) (v_faultAt : Int32) (v_word : Int64) (v_got : Int32) (v_lines : Int32) (v_hasChairs : Int32) (v_undoMany : Int32) (v_hostIn : Int32) (v_nextMany : Int32) (v_trickSet : Int32) (v_pushSet : Int32) (v_hasTrick : Int32) (v_hasPush : Int32) (v_hostMany : Int32) (v_menuSet : Int32) (v_watchTired : Int32) (v_hasProud : Int32) (v_textMany : Int32) (v_seed : Int32) (v_toldMany : Int32) (v_hasTold : Int32) (v_codes : Int32) (v_ones : Int32) (v_top : Int32) (v_deep : Int32) (v_isWhole : Int32) (v_s : Nat → Int32) (x1 : Int32) (o_r : Int32) (o_thrown : Int32) (hf : fX12_count v_length v_s v_thrown x1 = some (o_r, o_thrown)) : Met l yX12_count uX12_count ({ frames := 1, cells := 0, slots := 0, locals := 22 }) (va_Pc [.ref h_this, .int x1] (fun U => U.heap.size = sz ∧ va_P (dC, dI) vwCl [oX12 h_this v_thrown h_tape v_length v_size v_p v_limit h_s h_h h_read h_names h_reserved v_token v_at v_span v_number v_fault v_faultAt v_word v_got v_lines v_hasChairs h_undone h_before v_undoMany v_hostIn v_nextMany v_trickSet v_pushSet v_hasTrick v_hasPush h_purse h_hostRow v_hostMany v_menuSet v_watchTired v_hasProud h_text v_textMany v_seed v_toldMany h_toldAt v_hasTold h_stack v_codes v_ones v_top v_deep v_isWhole h_truths h_imaged h_namesKept h_areKept, aI cI h_s 273 v_s] U.heap ∧ va_K (dC, dI) vwCl (TYS cI cJ cB cZ cF cG) U ∧ va_D (fun _ => True) [oX12 h_this v_thrown h_tape v_length v_size v_p v_limit h_s h_h h_read h_names h_reserved v_token v_at v_span v_number v_fault v_faultAt v_word v_got v_lines v_hasChairs h_undone h_before v_undoMany v_hostIn v_nextMany v_trickSet v_pushSet v_hasTrick v_hasPush h_purse h_hostRow v_hostMany v_menuSet v_watchTired v_hasProud h_text v_textMany v_seed v_toldMany h_toldAt v_hasTold h_stack v_codes v_ones v_top v_deep v_isWhole h_truths h_imaged h_namesKept h_areKept, aI cI h_s 273 v_s])) (PQi dC dI cI cJ cB cZ cF cG (va_A [oX12 h_this v_thrown h_tape v_length v_size v_p v_limit h_s h_h h_read h_names h_reserved v_token v_at v_span v_number v_fault v_faultAt v_word v_got v_lines v_hasChairs h_undone h_before v_undoMany v_hostIn v_nextMany v_trickSet v_pushSet v_hasTrick v_hasPush h_purse h_hostRow v_hostMany v_menuSet v_watchTired v_hasProud h_text v_textMany v_seed v_toldMany h_toldAt v_hasTold h_stack v_codes v_ones v_top v_deep v_isWhole h_truths h_imaged h_namesKept h_areKept, aI cI h_s 273 v_s] sz) o_r [oX12 h_this o_thrown h_tape v_length v_size v_p v_limit h_s h_h h_read h_names h_reserved v_token v_at v_span v_number v_fault v_faultAt v_word v_got v_lines v_hasChairs h_undone h_before v_undoMany v_hostIn v_nextMany v_trickSet v_pushSet v_hasTrick v_hasPush h_purse h_hostRow v_hostMany v_menuSet v_watchTired v_hasProud h_text v_textMany v_seed v_toldMany h_toldAt v_hasTold h_stack v_codes v_ones v_top v_deep v_isWhole h_truths h_imaged h_namesKept h_areKept, aI cI h_s 273 v_s]) 0 0 (va_A [oX12 h_this v_thrown h_tape v_length v_size v_p v_limit h_s h_h h_read h_names h_reserved v_token v_at v_span v_number v_fault v_faultAt v_word v_got v_lines v_hasChairs h_undone h_before v_undoMany v_hostIn v_nextMany v_trickSet v_pushSet v_hasTrick v_hasPush h_purse h_hostRow v_hostMany v_menuSet v_watchTired v_hasProud h_text v_textMany v_seed v_toldMany h_toldAt v_hasTold h_stack v_codes v_ones v_top v_deep v_isWhole h_truths h_imaged h_namesKept h_areKept, aI cI h_s 273 v_s] sz) := by
  refine Met.ofW (cc := cX12_count) (maxL := 2) (ret := (some .int)) (by decide) rfl ?_
  intro p e s m args below meth c s₁ B hml hv
  obtain ⟨rfl, hsz, hP, hK, hD0⟩ := hv
  have hx := B.exec
  have hb := B.bytes
  have hr := B.returns
  have hts := atoms_spec (ws := uX12_count) B.pre
  have hown : s.vm.findClass RX12 = some m.cls := findClass_of_methodNamed B.named
  have hlocks := B.notSynchronized
  subst hsz
  have hD := hD0.self (sz := s.heap.size)
  generalize hAe : va_A [oX12 h_this v_thrown h_tape v_length v_size v_p v_limit h_s h_h h_read h_names h_reserved v_token v_at v_span v_number v_fault v_faultAt v_word v_got v_lines v_hasChairs h_undone h_before v_undoMany v_hostIn v_nextMany v_trickSet v_pushSet v_hasTrick v_hasPush h_purse h_hostRow v_hostMany v_menuSet v_watchTired v_hasProud h_text v_textMany v_seed v_toldMany h_toldAt v_hasTold h_stack v_codes v_ones v_top v_deep v_isWhole h_truths h_imaged h_namesKept h_areKept, aI cI h_s 273 v_s] s.heap.size = A at hD ⊢
  have hA : ∀ q : Nat, s.heap.size ≤ q → A q := fun q h => by rw [← hAe]; exact Or.inr h
  have hS : va_S A s.heap s.heap [] := va_S.rf
  have hl := lv_entry ([.ref h_this, .int x1]) (n := 2) (Nat.le_of_ble_eq_true rfl)
  rw [lg_entry_eq]
  generalize (lg_sl ([.ref h_this, .int x1]) ++ List.replicate (2 - (lg_sl ([.ref h_this, .int x1])).length) Slot.unset).toArray = ls at hl ⊢
  have hl : lv_has ls 2 [(0, .ref h_this), (1, .int x1)] := hl
  exact tX12_count hA ⟨hx, hb, hr, hml, hown, hts, hlocks⟩ ⟨Nat.le_refl _, Nat.le_refl _⟩ h_this h_s h_tape h_h h_read h_names h_reserved h_undone h_before h_purse h_hostRow h_text h_toldAt h_stack h_truths h_imaged h_namesKept h_areKept v_length v_size v_p v_limit v_token v_at v_span v_number v_fault v_faultAt v_word v_got v_lines v_hasChairs v_undoMany v_hostIn v_nextMany v_trickSet v_pushSet v_hasTrick v_hasPush v_hostMany v_menuSet v_watchTired v_hasProud v_textMany v_seed v_toldMany v_hasTold v_codes v_ones v_top v_deep v_isWhole v_s o_r o_thrown v_thrown x1 hf _ _ ⟨hK, hP, hD, hS⟩ ls hl
