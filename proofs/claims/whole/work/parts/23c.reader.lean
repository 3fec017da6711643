-- LastSeat$Reader.refuse(I)Z
def uX6_refuse : List Cond := .code yX6_refuse cX6_refuse 2 (some .boolean) :: wsU
set_option maxHeartbeats 4000000 in
set_option maxRecDepth 100000 in
theorem tX6_refuse {p : Program} {l : Launch} {e : Env} {R : Room} {s : State} {m : MethodId} {args : Array Value} {below : List Frame} {meth : Method} {c : Code} {dC : Nat → ClassId} {dI : Nat → Nat → Nat} {cI cJ cB cZ cF cG : ClassId} {A : Nat → Prop} (hA : ∀ q : Nat, s.heap.size ≤ q → A q) (C0 : Cx p s m meth c args cX6_refuse 2 (some .boolean) RX6 uX6_refuse) (hR : 0 ≤ R.frames ∧ 0 ≤ R.locals) (h_this : Nat) (h_tape : Nat) (h_keys : Nat) (v_most : Int32) (v_behind : Int32) (v_at : Int32) (v_kind : Int32) (v_number : Int32) (v_word : Int64) (v_key : Int32) (v_taken : Int32) (o_r : Int32) (o_fault : Int32) (o_faultAt : Int32) :
    ∀ (v_fault : Int32) (v_faultAt : Int32) (x1 : Int32), fX6_refuse v_at v_fault v_faultAt x1 = some (o_r, o_fault, o_faultAt) → ∀ (H : Heap) (locs : List Loc), Wd dC dI cI cJ cB cZ cF cG A s H locs [oX6 h_this h_tape h_keys v_most v_behind v_at v_kind v_number v_word v_key v_taken v_fault v_faultAt] → ∀ (ls : Array Slot), lv_has ls 2 [(0, .ref h_this), (1, .int x1)] → W p l e R s m args below meth c H locs 0 0 (MQ below (PQz dC dI cI cJ cB cZ cF cG A o_r [oX6 h_this h_tape h_keys v_most v_behind v_at v_kind v_number v_word v_key v_taken o_fault o_faultAt]) args s 0 0 A) (F0 m 0 ls []) := by
  obtain ⟨hx, hb, hrt, hml, hown, hts, hlocks⟩ := id C0
  intro v_fault v_faultAt x1 hr H locs hW ls hl
  obtain ⟨hK, hP, hD, hS⟩ := hW
  have hr : (if v_fault = 0 then some (0, x1, v_at) else some (0, v_fault, v_faultAt) : Option (Int32 × Int32 × Int32)) = some (o_r, o_fault, o_faultAt) := hr
  refine lv_aload_n hx hb dX6_refuse_0 rfl (lv_at hl 0 rfl) ?_
  refine va_get (D := (dC, dI)) (ci := 6) (v := .int v_fault) (C := RX6) (T := TX6) (N := 12) hx hb hts (fun w h => List.mem_cons_of_mem _ (inU_6 w h)) hown hK hP 0 rfl rfl 10 (by decide) (hts _ (List.mem_cons_of_mem _ U_323)) (fun _ h9 => h9) rfl dX6_refuse_1 ?_
  refine lv_if_ne (tgt := 20) hx hb dX6_refuse_4 (by decide) (fun hc => ?_) (fun hc => ?_)
  · have hr := iteN hc hr
    refine lv_iconst (v := 0) hx hb dX6_refuse_20 (by decide) ?_
    have q0 := Option.some.inj hr
    obtain ⟨e0, q1⟩ := Prod.mk.inj q0
    obtain ⟨e1, q2⟩ := Prod.mk.inj q1
    subst e0; subst e1; subst q2
    exact W.zret (v := 0) hx hb hrt rfl (fun t ht hW => ⟨⟨0, (), rfl, ⟨rfl, rfl⟩, by rw [ht]; exact hP, va_K.moved hW.alike hK, hD⟩, hS.F ht⟩) hS.2.2 dX6_refuse_21 hlocks
  · have hr := iteP hc hr
    refine lv_aload_n hx hb dX6_refuse_7 rfl (lv_at hl 0 rfl) ?_
    refine lv_iload_n hx hb dX6_refuse_8 rfl (lv_at hl 1 rfl) ?_
    refine va_put (D := (dC, dI)) (ci := 6) (v := .int x1) (ty := .int) (C := RX6) (T := TX6) (N := 12) hx hb hts (fun w h => List.mem_cons_of_mem _ (inU_6 w h)) tyX6 tyX6_ok nmX6 hown hK hP hD hS 0 rfl rfl 10 (by decide) (hts _ (List.mem_cons_of_mem _ U_323)) (fun _ h9 => h9) rfl (by decide +kernel) rfl rfl (Nat.le_of_ble_eq_true rfl) dX6_refuse_9 (fun H locs hP hD hS => ?_)
    have hP : va_P (dC, dI) vwCl [oX6 h_this h_tape h_keys v_most v_behind v_at v_kind v_number v_word v_key v_taken x1 v_faultAt] H := hP
    have hD : va_D A [oX6 h_this h_tape h_keys v_most v_behind v_at v_kind v_number v_word v_key v_taken x1 v_faultAt] := hD
    refine lv_aload_n hx hb dX6_refuse_12 rfl (lv_at hl 0 rfl) ?_
    refine lv_aload_n hx hb dX6_refuse_13 rfl (lv_at hl 0 rfl) ?_
    refine z_pc (pc' := 14) rfl ?_
    refine va_get (D := (dC, dI)) (ci := 6) (v := .int v_at) (C := RX6) (T := TX6) (N := 12) hx hb hts (fun w h => List.mem_cons_of_mem _ (inU_6 w h)) hown hK hP 0 rfl rfl 4 (by decide) (hts _ (List.mem_cons_of_mem _ U_333)) (fun _ h9 => h9) rfl dX6_refuse_14 ?_
    refine va_put (D := (dC, dI)) (ci := 6) (v := .int v_at) (ty := .int) (C := RX6) (T := TX6) (N := 12) hx hb hts (fun w h => List.mem_cons_of_mem _ (inU_6 w h)) tyX6 tyX6_ok nmX6 hown hK hP hD hS 0 rfl rfl 11 (by decide) (hts _ (List.mem_cons_of_mem _ U_324)) (fun _ h9 => h9) rfl (by decide +kernel) rfl rfl (Nat.le_of_ble_eq_true rfl) dX6_refuse_17 (fun H locs hP hD hS => ?_)
    have hP : va_P (dC, dI) vwCl [oX6 h_this h_tape h_keys v_most v_behind v_at v_kind v_number v_word v_key v_taken x1 v_at] H := hP
    have hD : va_D A [oX6 h_this h_tape h_keys v_most v_behind v_at v_kind v_number v_word v_key v_taken x1 v_at] := hD
    refine lv_iconst (v := 0) hx hb dX6_refuse_20 (by decide) ?_
    have q0 := Option.some.inj hr
    obtain ⟨e0, q1⟩ := Prod.mk.inj q0
    obtain ⟨e1, q2⟩ := Prod.mk.inj q1
    subst e0; subst e1; subst q2
    exact W.zret (v := 0) hx hb hrt rfl (fun t ht hW => ⟨⟨0, (), rfl, ⟨rfl, rfl⟩, by rw [ht]; exact hP, va_K.moved hW.alike hK, hD⟩, hS.F ht⟩) hS.2.2 dX6_refuse_21 hlocks
set_option maxHeartbeats 4000000 in
set_option maxRecDepth 100000 in
theorem mX6_refuse (l : Launch) (dC : Nat → ClassId) (dI : Nat → Nat → Nat) (cI cJ cB cZ cF cG : ClassId) (h_this : Nat) (h_tape : Nat) (h_keys : Nat) (sz : Nat) (v_most : Int32) (v_behind : Int32) (v_at : Int32) (v_kind : Int32) (v_number : Int32) (v_word : Int64) (v_key : Int32) (v_taken : Int32) (v_fault : Int32) (v_faultAt : Int32) (x1 : Int32) (o_r : Int32) (o_fault : Int32) (o_faultAt : Int32) (hf : fX6_refuse v_at v_fault v_faultAt x1 = some (o_r, o_fault, o_faultAt)) : Met l yX6_refuse uX6_refuse ({ frames := 0, cells := 0, slots := 0, locals := 0 }) (va_Pc [.ref h_this, .int x1] (fun U => U.heap.size = sz ∧ va_P (dC, dI) vwCl [oX6 h_this h_tape h_keys v_most v_behind v_at v_kind v_number v_word v_key v_taken v_fault v_faultAt] U.heap ∧ va_K (dC, dI) vwCl (TYS cI cJ cB cZ cF cG) U ∧ va_D (fun _ => True) [oX6 h_this h_tape h_keys v_most v_behind v_at v_kind v_number v_word v_key v_taken v_fault v_faultAt])) (PQz dC dI cI cJ cB cZ cF cG (va_A [oX6 h_this h_tape h_keys v_most v_behind v_at v_kind v_number v_word v_key v_taken v_fault v_faultAt] sz) o_r [oX6 h_this h_tape h_keys v_most v_behind v_at v_kind v_number v_word v_key v_taken o_fault o_faultAt]) 0 0 (va_A [oX6 h_this h_tape h_keys v_most v_behind v_at v_kind v_number v_word v_key v_taken v_fault v_faultAt] sz) := by
  refine Met.ofW (cc := cX6_refuse) (maxL := 2) (ret := (some .boolean)) (by decide) rfl ?_
  intro p e s m args below meth c s₁ B hml hv
  obtain ⟨rfl, hsz, hP, hK, hD0⟩ := hv
  have hx := B.exec
  have hb := B.bytes
  have hr := B.returns
  have hts := atoms_spec (ws := uX6_refuse) B.pre
  have hown : s.vm.findClass RX6 = some m.cls := findClass_of_methodNamed B.named
  have hlocks := B.notSynchronized
  subst hsz
  have hD := hD0.self (sz := s.heap.size)
  generalize hAe : va_A [oX6 h_this h_tape h_keys v_most v_behind v_at v_kind v_number v_word v_key v_taken v_fault v_faultAt] s.heap.size = A at hD ⊢
  have hA : ∀ q : Nat, s.heap.size ≤ q → A q := fun q h => by rw [← hAe]; exact Or.inr h
  have hS : va_S A s.heap s.heap [] := va_S.rf
  have hl := lv_entry ([.ref h_this, .int x1]) (n := 2) (Nat.le_of_ble_eq_true rfl)
  rw [lg_entry_eq]
  generalize (lg_sl ([.ref h_this, .int x1]) ++ List.replicate (2 - (lg_sl ([.ref h_this, .int x1])).length) Slot.unset).toArray = ls at hl ⊢
  have hl : lv_has ls 2 [(0, .ref h_this), (1, .int x1)] := hl
  exact tX6_refuse hA ⟨hx, hb, hr, hml, hown, hts, hlocks⟩ ⟨Nat.le_refl _, Nat.le_refl _⟩ h_this h_tape h_keys v_most v_behind v_at v_kind v_number v_word v_key v_taken o_r o_fault o_faultAt v_fault v_faultAt x1 hf _ _ ⟨hK, hP, hD, hS⟩ ls hl
-- LastSeat$Reader.keyOf(J)I
def uX6_keyOf : List Cond := .code yX6_keyOf cX6_keyOf 4 (some .int) :: wsU
set_option maxHeartbeats 4000000 in
set_option maxRecDepth 100000 in
theorem tX6_keyOf_2 {p : Program} {l : Launch} {e : Env} {R : Room} {s : State} {m : MethodId} {args : Array Value} {below : List Frame} {meth : Method} {c : Code} {dC : Nat → ClassId} {dI : Nat → Nat → Nat} {cI cJ cB cZ cF cG : ClassId} {A : Nat → Prop} (hA : ∀ q : Nat, s.heap.size ≤ q → A q) (C0 : Cx p s m meth c args cX6_keyOf 4 (some .int) RX6 uX6_keyOf) (hR : 0 ≤ R.frames ∧ 0 ≤ R.locals) (h_this : Nat) (h_keys : Nat) (h_tape : Nat) (v_most : Int32) (v_behind : Int32) (v_at : Int32) (v_kind : Int32) (v_number : Int32) (v_word : Int64) (v_key : Int32) (v_taken : Int32) (v_fault : Int32) (v_faultAt : Int32) (v_keys : Nat → Int64) (o_r : Int32) :
    ∀ n : Nat, ∀ (x1 : Int64) (x3 : Int32), lX6_keyOf_2 v_keys n x1 x3 = some o_r → ∀ (H : Heap) (locs : List Loc), Wd dC dI cI cJ cB cZ cF cG A s H locs [oX6 h_this h_tape h_keys v_most v_behind v_at v_kind v_number v_word v_key v_taken v_fault v_faultAt, aJ cJ h_keys 22 v_keys] → ∀ (ls : Array Slot), lv_has ls 4 [(0, .ref h_this), (1, .long x1), (3, .int x3)] → W p l e R s m args below meth c H locs 0 0 (MQ below (PQi dC dI cI cJ cB cZ cF cG A o_r [oX6 h_this h_tape h_keys v_most v_behind v_at v_kind v_number v_word v_key v_taken v_fault v_faultAt, aJ cJ h_keys 22 v_keys]) args s 0 0 A) (F0 m 2 ls []) := by
  obtain ⟨hx, hb, hrt, hml, hown, hts, hlocks⟩ := id C0
  intro n
  induction n with
  | zero =>
    intro x1 x3 hr
    exact nomatch (show (none : Option (Int32)) = some _ from hr)
  | succ n ih =>
    intro x1 x3 hr H locs hW ls hl
    obtain ⟨hK, hP, hD, hS⟩ := hW
    have hr : (if 22 ≤ x3 then some (-1) else gI x3 22 (if (lg_cmp (v_keys (Int32.toNatClampNeg x3)) x1) = 0 then some x3 else lX6_keyOf_2 v_keys n x1 (x3 + 1)) : Option (Int32)) = some o_r := hr
    refine lv_iload_n hx hb dX6_keyOf_2 rfl (lv_at hl 2 rfl) ?_
    refine lv_bipush (v := 22) hx hb dX6_keyOf_3 (by decide) ?_
    refine lv_icmp_ge (tgt := 27) hx hb dX6_keyOf_5 (by decide) (fun hc => ?_) (fun hc => ?_)
    · have hr := iteP hc hr
      refine lv_iconst (v := (-1)) hx hb dX6_keyOf_27 (by decide) ?_
      have q0 := Option.some.inj hr
      subst q0
      exact W.iret (v := (-1)) hx hb hrt (fun t ht hW => ⟨⟨(-1), (), rfl, rfl, by rw [ht]; exact hP, va_K.moved hW.alike hK, hD⟩, hS.F ht⟩) hS.2.2 dX6_keyOf_28 hlocks
    · have hr := iteN hc hr
      refine lv_aload_n hx hb dX6_keyOf_8 rfl (lv_at hl 0 rfl) ?_
      refine va_get (D := (dC, dI)) (ci := 6) (v := .ref h_keys) (C := RX6) (T := TX6) (N := 12) hx hb hts (fun w h => List.mem_cons_of_mem _ (inU_6 w h)) hown hK hP 0 rfl rfl 1 (by decide) (hts _ (List.mem_cons_of_mem _ U_74)) (fun _ h9 => h9) rfl dX6_keyOf_9 ?_
      refine lv_iload_n hx hb dX6_keyOf_12 rfl (lv_at hl 2 rfl) ?_
      obtain ⟨hg, hr⟩ := gI_s hr
      refine z_lald hx hb hK hP 1 1 rfl rfl hg rfl dX6_keyOf_13 ?_
      refine lv_lload_n hx hb dX6_keyOf_14 rfl (lv_at hl 1 rfl) ?_
      refine z_pc (pc' := 15) rfl ?_
      refine W.lcmp hx hb dX6_keyOf_15 ?_
      refine lv_if_ne (tgt := 21) hx hb dX6_keyOf_16 (by decide) (fun hc => ?_) (fun hc => ?_)
      · have hr := iteN hc hr
        refine lv_iinc (v := (x3 + 1)) (lv' := [(3, .int (x3 + 1)), (0, .ref h_this), (1, .long x1)]) hx hb dX6_keyOf_21 hl (k := 2) rfl rfl (by decide) rfl (fun ls hl => ?_)
        refine lv_goto (tgt := 2) hx hb dX6_keyOf_24 (by decide) ?_
        exact ih x1 (x3 + 1) hr _ _ ⟨hK, hP, hD, hS⟩ ls (lv_sub hl [1, 2, 0] rfl)
      · have hr := iteP hc hr
        refine lv_iload_n hx hb dX6_keyOf_19 rfl (lv_at hl 2 rfl) ?_
        have q0 := Option.some.inj hr
        subst q0
        exact W.iret (v := x3) hx hb hrt (fun t ht hW => ⟨⟨x3, (), rfl, rfl, by rw [ht]; exact hP, va_K.moved hW.alike hK, hD⟩, hS.F ht⟩) hS.2.2 dX6_keyOf_20 hlocks
set_option maxHeartbeats 4000000 in
set_option maxRecDepth 100000 in
theorem tX6_keyOf {p : Program} {l : Launch} {e : Env} {R : Room} {s : State} {m : MethodId} {args : Array Value} {below : List Frame} {meth : Method} {c : Code} {dC : Nat → ClassId} {dI : Nat → Nat → Nat} {cI cJ cB cZ cF cG : ClassId} {A : Nat → Prop} (hA : ∀ q : Nat, s.heap.size ≤ q → A q) (C0 : Cx p s m meth c args cX6_keyOf 4 (some .int) RX6 uX6_keyOf) (hR : 0 ≤ R.frames ∧ 0 ≤ R.locals) (h_this : Nat) (h_keys : Nat) (h_tape : Nat) (v_most : Int32) (v_behind : Int32) (v_at : Int32) (v_kind : Int32) (v_number : Int32) (v_word : Int64) (v_key : Int32) (v_taken : Int32) (v_fault : Int32) (v_faultAt : Int32) (v_keys : Nat → Int64) (o_r : Int32) :
    ∀ (x1 : Int64), fX6_keyOf v_keys x1 = some o_r → ∀ (H : Heap) (locs : List Loc), Wd dC dI cI cJ cB cZ cF cG A s H locs [oX6 h_this h_tape h_keys v_most v_behind v_at v_kind v_number v_word v_key v_taken v_fault v_faultAt, aJ cJ h_keys 22 v_keys] → ∀ (ls : Array Slot), lv_has ls 4 [(0, .ref h_this), (1, .long x1)] → W p l e R s m args below meth c H locs 0 0 (MQ below (PQi dC dI cI cJ cB cZ cF cG A o_r [oX6 h_this h_tape h_keys v_most v_behind v_at v_kind v_number v_word v_key v_taken v_fault v_faultAt, aJ cJ h_keys 22 v_keys]) args s 0 0 A) (F0 m 0 ls []) := by
  obtain ⟨hx, hb, hrt, hml, hown, hts, hlocks⟩ := id C0
  intro x1 hr H locs hW ls hl
  obtain ⟨hK, hP, hD, hS⟩ := hW
  have hr : (lX6_keyOf_2 v_keys 5000 x1 0 : Option (Int32)) = some o_r := hr
  refine lv_iconst (v := 0) hx hb dX6_keyOf_0 (by decide) ?_
  refine lv_istore_n (lv' := [(3, .int 0), (0, .ref h_this), (1, .long x1)]) hx hb dX6_keyOf_1 rfl hl (by decide) rfl (fun ls hl => ?_)
  exact tX6_keyOf_2 hA C0 hR h_this h_keys h_tape v_most v_behind v_at v_kind v_number v_word v_key v_taken v_fault v_faultAt v_keys o_r 5000 x1 0 hr _ _ ⟨hK, hP, hD, hS⟩ ls (lv_sub hl [1, 2, 0] rfl)
set_option maxHeartbeats 4000000 in
set_option maxRecDepth 100000 in
theorem mX6_keyOf (l : Launch) (dC : Nat → ClassId) (dI : Nat → Nat → Nat) (cI cJ cB cZ cF cG : ClassId) (h_this : Nat) (h_keys : Nat) (h_tape : Nat) (sz : Nat) (v_most : Int32) (v_behind : Int32) (v_at : Int32) (v_kind : Int32) (v_number : Int32) (v_word : Int64) (v_key : Int32) (v_taken : Int32) (v_fault : Int32) (v_faultAt : Int32) (v_keys : Nat → Int64) (x1 : Int64) (o_r : Int32) (hf : fX6_keyOf v_keys x1 = some o_r) : Met l yX6_keyOf uX6_keyOf ({ frames := 0, cells := 0, slots := 0, locals := 0 }) (va_Pc [.ref h_this, .long x1] (fun U => U.heap.size = sz ∧ va_P (dC, dI) vwCl [oX6 h_this h_tape h_keys v_most v_behind v_at v_kind v_number v_word v_key v_taken v_fault v_faultAt, aJ cJ h_keys 22 v_keys] U.heap ∧ va_K (dC, dI) vwCl (TYS cI cJ cB cZ cF cG) U ∧ va_D (fun _ => True) [oX6 h_this h_tape h_keys v_most v_behind v_at v_kind v_number v_word v_key v_taken v_fault v_faultAt, aJ cJ h_keys 22 v_keys])) (PQi dC dI cI cJ cB cZ cF cG (va_A [oX6 h_this h_tape h_keys v_most v_behind v_at v_kind v_number v_word v_key v_taken v_fault v_faultAt, aJ cJ h_keys 22 v_keys] sz) o_r [oX6 h_this h_tape h_keys v_most v_behind v_at v_kind v_number v_word v_key v_taken v_fault v_faultAt, aJ cJ h_keys 22 v_keys]) 0 0 (va_A [oX6 h_this h_tape h_keys v_most v_behind v_at v_kind v_number v_word v_key v_taken v_fault v_faultAt, aJ cJ h_keys 22 v_keys] sz) := by
  refine Met.ofW (cc := cX6_keyOf) (maxL := 4) (ret := (some .int)) (by decide) rfl ?_
  intro p e s m args below meth c s₁ B hml hv
  obtain ⟨rfl, hsz, hP, hK, hD0⟩ := hv
  have hx := B.exec
  have hb := B.bytes
  have hr := B.returns
  have hts := atoms_spec (ws := uX6_keyOf) B.pre
  have hown : s.vm.findClass RX6 = some m.cls := findClass_of_methodNamed B.named
  have hlocks := B.notSynchronized
  subst hsz
  have hD := hD0.self (sz := s.heap.size)
  generalize hAe : va_A [oX6 h_this h_tape h_keys v_most v_behind v_at v_kind v_number v_word v_key v_taken v_fault v_faultAt, aJ cJ h_keys 22 v_keys] s.heap.size = A at hD ⊢
  have hA : ∀ q : Nat, s.heap.size ≤ q → A q := fun q h => by rw [← hAe]; exact Or.inr h
  have hS : va_S A s.heap s.heap [] := va_S.rf
  have hl := lv_entry ([.ref h_this, .long x1]) (n := 4) (Nat.le_of_ble_eq_true rfl)
  rw [lg_entry_eq]
  generalize (lg_sl ([.ref h_this, .long x1]) ++ List.replicate (4 - (lg_sl ([.ref h_this, .long x1])).length) Slot.unset).toArray = ls at hl ⊢
  have hl : lv_has ls 4 [(0, .ref h_this), (1, .long x1)] := hl
  exact tX6_keyOf hA ⟨hx, hb, hr, hml, hown, hts, hlocks⟩ ⟨Nat.le_refl _, Nat.le_refl _⟩ h_this h_keys h_tape v_most v_behind v_at v_kind v_number v_word v_key v_taken v_fault v_faultAt v_keys o_r x1 hf _ _ ⟨hK, hP, hD, hS⟩ ls hl
-- LastSeat$Reader.readRun()V
def uX6_readRun : List Cond := .code yX6_readRun cX6_readRun 5 none :: wsU
set_option maxHeartbeats 4000000 in
set_option maxRecDepth 100000 in
theorem tX6_readRun_92 {p : Program} {l : Launch} {e : Env} {R : Room} {s : State} {m : MethodId} {args : Array Value} {below : List Frame} {meth : Method} {c : Code} {dC : Nat → ClassId} {dI : Nat → Nat → Nat} {cI cJ cB cZ cF cG : ClassId} {A : Nat → Prop} {k22 : Int32 → Int32 → Int32 → Int64 → Int32 → Int32 → Option (Int32 × Int32 × Int32 × Int64)} {k139 : Int32 → Int32 → Int32 → Int64 → Int32 → Int32 → Option (Int32 × Int32 × Int32 × Int64)} (hA : ∀ q : Nat, s.heap.size ≤ q → A q) (C0 : Cx p s m meth c args cX6_readRun 5 none RX6 uX6_readRun) (hR : 0 ≤ R.frames ∧ 0 ≤ R.locals) (h_this : Nat) (h_tape : Nat) (h_tape_bytes : Nat) (h_keys : Nat) (n_tape_bytes : Nat) (v_most : Int32) (v_at : Int32) (v_key : Int32) (v_taken : Int32) (v_fault : Int32) (v_faultAt : Int32) (v_tape_size : Int32) (v_tape_bytes : Nat → Int32) (o_behind : Int32) (o_kind : Int32) (o_number : Int32) (o_word : Int64) (hk22 : ∀ (v_behind : Int32) (v_kind : Int32) (v_number : Int32) (v_word : Int64) (x1 : Int32) (x2 : Int32), k22 v_behind v_kind v_number v_word x1 x2 = some (o_behind, o_kind, o_number, o_word) → ∀ (H : Heap) (locs : List Loc), Wd dC dI cI cJ cB cZ cF cG A s H locs [oX6 h_this h_tape h_keys v_most v_behind v_at v_kind v_number v_word v_key v_taken v_fault v_faultAt, oX10 h_tape h_tape_bytes v_tape_size, aB cB h_tape_bytes n_tape_bytes v_tape_bytes] → ∀ (ls : Array Slot), lv_has ls 5 [(0, .ref h_this), (1, .int x1), (2, .int x2), (3, .ref h_tape_bytes)] → W p l e R s m args below meth c H locs 0 0 (MQ below (PQv dC dI cI cJ cB cZ cF cG A [oX6 h_this h_tape h_keys v_most o_behind v_at o_kind o_number o_word v_key v_taken v_fault v_faultAt, oX10 h_tape h_tape_bytes v_tape_size, aB cB h_tape_bytes n_tape_bytes v_tape_bytes]) args s 0 0 A) (F0 m 22 ls [])) (hk139 : ∀ (v_behind : Int32) (v_kind : Int32) (v_number : Int32) (v_word : Int64) (x1 : Int32) (x2 : Int32), k139 v_behind v_kind v_number v_word x1 x2 = some (o_behind, o_kind, o_number, o_word) → ∀ (H : Heap) (locs : List Loc), Wd dC dI cI cJ cB cZ cF cG A s H locs [oX6 h_this h_tape h_keys v_most v_behind v_at v_kind v_number v_word v_key v_taken v_fault v_faultAt, oX10 h_tape h_tape_bytes v_tape_size, aB cB h_tape_bytes n_tape_bytes v_tape_bytes] → ∀ (ls : Array Slot), lv_has ls 5 [(0, .ref h_this), (1, .int x1), (2, .int x2)] → W p l e R s m args below meth c H locs 0 0 (MQ below (PQv dC dI cI cJ cB cZ cF cG A [oX6 h_this h_tape h_keys v_most o_behind v_at o_kind o_number o_word v_key v_taken v_fault v_faultAt, oX10 h_tape h_tape_bytes v_tape_size, aB cB h_tape_bytes n_tape_bytes v_tape_bytes]) args s 0 0 A) (F0 m 139 ls [])) :
    ∀ (v_behind : Int32) (v_kind : Int32) (v_number : Int32) (v_word : Int64) (x1 : Int32) (x2 : Int32) (x4 : Int32), bX6_readRun_92 n_tape_bytes v_tape_size v_tape_bytes k22 k139 v_behind v_kind v_number v_word x1 x2 x4 = some (o_behind, o_kind, o_number, o_word) → ∀ (H : Heap) (locs : List Loc), Wd dC dI cI cJ cB cZ cF cG A s H locs [oX6 h_this h_tape h_keys v_most v_behind v_at v_kind v_number v_word v_key v_taken v_fault v_faultAt, oX10 h_tape h_tape_bytes v_tape_size, aB cB h_tape_bytes n_tape_bytes v_tape_bytes] → ∀ (ls : Array Slot), lv_has ls 5 [(0, .ref h_this), (1, .int x1), (2, .int x2), (3, .ref h_tape_bytes), (4, .int x4)] → W p l e R s m args below meth c H locs 0 0 (MQ below (PQv dC dI cI cJ cB cZ cF cG A [oX6 h_this h_tape h_keys v_most o_behind v_at o_kind o_number o_word v_key v_taken v_fault v_faultAt, oX10 h_tape h_tape_bytes v_tape_size, aB cB h_tape_bytes n_tape_bytes v_tape_bytes]) args s 0 0 A) (F0 m 92 ls []) := by
  obtain ⟨hx, hb, hrt, hml, hown, hts, hlocks⟩ := id C0
  intro v_behind v_kind v_number v_word x1 x2 x4 hr H locs hW ls hl
  obtain ⟨hK, hP, hD, hS⟩ := hW
  have hr : (if x4 < 48 then k139 v_behind v_kind v_number v_word x1 x2 else if 57 < x4 then k139 v_behind v_kind v_number v_word x1 x2 else nmv ((v_number * 10) + (x4 - 48)) (fun w1 => k22 (v_behind + 1) v_kind w1 v_word x1 (x2 + 1)) : Option (Int32 × Int32 × Int32 × Int64)) = some (o_behind, o_kind, o_number, o_word) := hr
  refine lv_iload hx hb dX6_readRun_92 (lv_at hl 4 rfl) ?_
  refine lv_bipush (v := 48) hx hb dX6_readRun_94 (by decide) ?_
  refine lv_icmp_lt (tgt := 139) hx hb dX6_readRun_96 (by decide) (fun hc => ?_) (fun hc => ?_)
  · have hr := iteP hc hr
    exact hk139 v_behind v_kind v_number v_word x1 x2 hr _ _ ⟨hK, hP, hD, hS⟩ ls (lv_sub hl [0, 1, 2] rfl)
  · have hr := iteN hc hr
    refine lv_iload hx hb dX6_readRun_99 (lv_at hl 4 rfl) ?_
    refine lv_bipush (v := 57) hx hb dX6_readRun_101 (by decide) ?_
    refine lv_icmp_gt (tgt := 139) hx hb dX6_readRun_103 (by decide) (fun hc => ?_) (fun hc => ?_)
    · have hr := iteP hc hr
      exact hk139 v_behind v_kind v_number v_word x1 x2 hr _ _ ⟨hK, hP, hD, hS⟩ ls (lv_sub hl [0, 1, 2] rfl)
    · have hr := iteN hc hr
      refine lv_aload_n hx hb dX6_readRun_106 rfl (lv_at hl 0 rfl) ?_
      refine lv_aload_n hx hb dX6_readRun_107 rfl (lv_at hl 0 rfl) ?_
      refine va_get (D := (dC, dI)) (ci := 6) (v := .int v_number) (C := RX6) (T := TX6) (N := 12) hx hb hts (fun w h => List.mem_cons_of_mem _ (inU_6 w h)) hown hK hP 0 rfl rfl 6 (by decide) (hts _ (List.mem_cons_of_mem _ U_345)) (fun _ h9 => h9) rfl dX6_readRun_108 ?_
      refine lv_bipush (v := 10) hx hb dX6_readRun_111 (by decide) ?_
      refine lv_imul hx hb dX6_readRun_113 ?_
      refine z_pc (pc' := 114) rfl ?_
      refine lv_iload hx hb dX6_readRun_114 (lv_at hl 4 rfl) ?_
      refine lv_bipush (v := 48) hx hb dX6_readRun_116 (by decide) ?_
      refine lv_isub hx hb dX6_readRun_118 ?_
      refine lv_iadd hx hb dX6_readRun_119 ?_
      obtain ⟨w1, hw1, hr⟩ := nm_s hr
      refine z_topi hw1 ?_
      refine va_put (D := (dC, dI)) (ci := 6) (v := .int w1) (ty := .int) (C := RX6) (T := TX6) (N := 12) hx hb hts (fun w h => List.mem_cons_of_mem _ (inU_6 w h)) tyX6 tyX6_ok nmX6 hown hK hP hD hS 0 rfl rfl 6 (by decide) (hts _ (List.mem_cons_of_mem _ U_345)) (fun _ h9 => h9) rfl (by decide +kernel) rfl rfl (Nat.le_of_ble_eq_true rfl) dX6_readRun_120 (fun H locs hP hD hS => ?_)
      have hP : va_P (dC, dI) vwCl [oX6 h_this h_tape h_keys v_most v_behind v_at v_kind w1 v_word v_key v_taken v_fault v_faultAt, oX10 h_tape h_tape_bytes v_tape_size, aB cB h_tape_bytes n_tape_bytes v_tape_bytes] H := hP
      have hD : va_D A [oX6 h_this h_tape h_keys v_most v_behind v_at v_kind w1 v_word v_key v_taken v_fault v_faultAt, oX10 h_tape h_tape_bytes v_tape_size, aB cB h_tape_bytes n_tape_bytes v_tape_bytes] := hD
      refine lv_iinc (v := (x2 + 1)) (lv' := [(2, .int (x2 + 1)), (0, .ref h_this), (1, .int x1), (3, .ref h_tape_bytes), (4, .int x4)]) hx hb dX6_readRun_123 hl (k := 2) rfl rfl (by decide) rfl (fun ls hl => ?_)
      refine z_pc (pc' := 126) rfl ?_
      refine lv_aload_n hx hb dX6_readRun_126 rfl (lv_at hl 1 rfl) ?_
      refine lv_dup hx hb dX6_readRun_127 rfl ?_
      refine va_get (D := (dC, dI)) (ci := 6) (v := .int v_behind) (C := RX6) (T := TX6) (N := 12) hx hb hts (fun w h => List.mem_cons_of_mem _ (inU_6 w h)) hown hK hP 0 rfl rfl 3 (by decide) (hts _ (List.mem_cons_of_mem _ U_322)) (fun _ h9 => h9) rfl dX6_readRun_128 ?_
      refine lv_iconst (v := 1) hx hb dX6_readRun_131 (by decide) ?_
      refine lv_iadd hx hb dX6_readRun_132 ?_
      refine va_put (D := (dC, dI)) (ci := 6) (v := .int (v_behind + 1)) (ty := .int) (C := RX6) (T := TX6) (N := 12) hx hb hts (fun w h => List.mem_cons_of_mem _ (inU_6 w h)) tyX6 tyX6_ok nmX6 hown hK hP hD hS 0 rfl rfl 3 (by decide) (hts _ (List.mem_cons_of_mem _ U_322)) (fun _ h9 => h9) rfl (by decide +kernel) rfl rfl (Nat.le_of_ble_eq_true rfl) dX6_readRun_133 (fun H locs hP hD hS => ?_)
      have hP : va_P (dC, dI) vwCl [oX6 h_this h_tape h_keys v_most (v_behind + 1) v_at v_kind w1 v_word v_key v_taken v_fault v_faultAt, oX10 h_tape h_tape_bytes v_tape_size, aB cB h_tape_bytes n_tape_bytes v_tape_bytes] H := hP
      have hD : va_D A [oX6 h_this h_tape h_keys v_most (v_behind + 1) v_at v_kind w1 v_word v_key v_taken v_fault v_faultAt, oX10 h_tape h_tape_bytes v_tape_size, aB cB h_tape_bytes n_tape_bytes v_tape_bytes] := hD
      refine z_pc (pc' := 136) rfl ?_
      refine lv_goto (tgt := 22) hx hb dX6_readRun_136 (by decide) ?_
      exact hk22 (v_behind + 1) v_kind w1 v_word x1 (x2 + 1) hr _ _ ⟨hK, hP, hD, hS⟩ ls (lv_sub hl [1, 2, 0, 3] rfl)
set_option maxHeartbeats 4000000 in
set_option maxRecDepth 100000 in
theorem tX6_readRun_22 {p : Program} {l : Launch} {e : Env} {R : Room} {s : State} {m : MethodId} {args : Array Value} {below : List Frame} {meth : Method} {c : Code} {dC : Nat → ClassId} {dI : Nat → Nat → Nat} {cI cJ cB cZ cF cG : ClassId} {A : Nat → Prop} {k139 : Int32 → Int32 → Int32 → Int64 → Int32 → Int32 → Option (Int32 × Int32 × Int32 × Int64)} (hA : ∀ q : Nat, s.heap.size ≤ q → A q) (C0 : Cx p s m meth c args cX6_readRun 5 none RX6 uX6_readRun) (hR : 0 ≤ R.frames ∧ 0 ≤ R.locals) (h_this : Nat) (h_tape : Nat) (h_tape_bytes : Nat) (h_keys : Nat) (n_tape_bytes : Nat) (v_most : Int32) (v_at : Int32) (v_key : Int32) (v_taken : Int32) (v_fault : Int32) (v_faultAt : Int32) (v_tape_size : Int32) (v_tape_bytes : Nat → Int32) (o_behind : Int32) (o_kind : Int32) (o_number : Int32) (o_word : Int64) (hk139 : ∀ (v_behind : Int32) (v_kind : Int32) (v_number : Int32) (v_word : Int64) (x1 : Int32) (x2 : Int32), k139 v_behind v_kind v_number v_word x1 x2 = some (o_behind, o_kind, o_number, o_word) → ∀ (H : Heap) (locs : List Loc), Wd dC dI cI cJ cB cZ cF cG A s H locs [oX6 h_this h_tape h_keys v_most v_behind v_at v_kind v_number v_word v_key v_taken v_fault v_faultAt, oX10 h_tape h_tape_bytes v_tape_size, aB cB h_tape_bytes n_tape_bytes v_tape_bytes] → ∀ (ls : Array Slot), lv_has ls 5 [(0, .ref h_this), (1, .int x1), (2, .int x2)] → W p l e R s m args below meth c H locs 0 0 (MQ below (PQv dC dI cI cJ cB cZ cF cG A [oX6 h_this h_tape h_keys v_most o_behind v_at o_kind o_number o_word v_key v_taken v_fault v_faultAt, oX10 h_tape h_tape_bytes v_tape_size, aB cB h_tape_bytes n_tape_bytes v_tape_bytes]) args s 0 0 A) (F0 m 139 ls [])) :
    ∀ n : Nat, ∀ (v_behind : Int32) (v_kind : Int32) (v_number : Int32) (v_word : Int64) (x1 : Int32) (x2 : Int32), lX6_readRun_22 n_tape_bytes v_tape_size v_tape_bytes k139 n v_behind v_kind v_number v_word x1 x2 = some (o_behind, o_kind, o_number, o_word) → ∀ (H : Heap) (locs : List Loc), Wd dC dI cI cJ cB cZ cF cG A s H locs [oX6 h_this h_tape h_keys v_most v_behind v_at v_kind v_number v_word v_key v_taken v_fault v_faultAt, oX10 h_tape h_tape_bytes v_tape_size, aB cB h_tape_bytes n_tape_bytes v_tape_bytes] → ∀ (ls : Array Slot), lv_has ls 5 [(0, .ref h_this), (1, .int x1), (2, .int x2), (3, .ref h_tape_bytes)] → W p l e R s m args below meth c H locs 0 0 (MQ below (PQv dC dI cI cJ cB cZ cF cG A [oX6 h_this h_tape h_keys v_most o_behind v_at o_kind o_number o_word v_key v_taken v_fault v_faultAt, oX10 h_tape h_tape_bytes v_tape_size, aB cB h_tape_bytes n_tape_bytes v_tape_bytes]) args s 0 0 A) (F0 m 22 ls []) := by
  obtain ⟨hx, hb, hrt, hml, hown, hts, hlocks⟩ := id C0
  intro n
  induction n with
  | zero =>
    intro v_behind v_kind v_number v_word x1 x2 hr
    exact nomatch (show (none : Option (Int32 × Int32 × Int32 × Int64)) = some _ from hr)
  | succ n ih =>
    intro v_behind v_kind v_number v_word x1 x2 hr H locs hW ls hl
    obtain ⟨hK, hP, hD, hS⟩ := hW
    have hr : (if v_tape_size ≤ v_behind then k139 v_behind v_kind v_number v_word x1 x2 else if (Int32.ofNat n_tape_bytes) ≤ v_behind then k139 v_behind v_kind v_number v_word x1 x2 else gI v_behind n_tape_bytes (nmv (v_tape_bytes (Int32.toNatClampNeg v_behind)) (fun w2 => if w2 < 97 then bX6_readRun_92 n_tape_bytes v_tape_size v_tape_bytes (lX6_readRun_22 n_tape_bytes v_tape_size v_tape_bytes k139 n) k139 v_behind v_kind v_number v_word x1 x2 w2 else if 122 < w2 then bX6_readRun_92 n_tape_bytes v_tape_size v_tape_bytes (lX6_readRun_22 n_tape_bytes v_tape_size v_tape_bytes k139 n) k139 v_behind v_kind v_number v_word x1 x2 w2 else nmv ((v_word * 32) + (Int32.toInt64 (w2 - 96))) (fun w3 => lX6_readRun_22 n_tape_bytes v_tape_size v_tape_bytes k139 n (v_behind + 1) v_kind v_number w3 (x1 + 1) x2))) : Option (Int32 × Int32 × Int32 × Int64)) = some (o_behind, o_kind, o_number, o_word) := hr
    refine lv_aload_n hx hb dX6_readRun_22 rfl (lv_at hl 0 rfl) ?_
    refine va_get (D := (dC, dI)) (ci := 6) (v := .int v_behind) (C := RX6) (T := TX6) (N := 12) hx hb hts (fun w h => List.mem_cons_of_mem _ (inU_6 w h)) hown hK hP 0 rfl rfl 3 (by decide) (hts _ (List.mem_cons_of_mem _ U_322)) (fun _ h9 => h9) rfl dX6_readRun_23 ?_
    refine lv_aload_n hx hb dX6_readRun_26 rfl (lv_at hl 0 rfl) ?_
    refine va_get (D := (dC, dI)) (ci := 6) (v := .ref h_tape) (C := RX6) (T := TX6) (N := 12) hx hb hts (fun w h => List.mem_cons_of_mem _ (inU_6 w h)) hown hK hP 0 rfl rfl 0 (by decide) (hts _ (List.mem_cons_of_mem _ U_73)) (fun _ h9 => h9) rfl dX6_readRun_27 ?_
    refine va_get (D := (dC, dI)) (ci := 10) (v := .int v_tape_size) (C := RX10) (T := TX10) (N := 2) hx hb hts (fun w h => List.mem_cons_of_mem _ (inU_10 w h)) hown hK hP 1 rfl rfl 1 (by decide) (hts _ (List.mem_cons_of_mem _ U_329)) (fun _ h9 => h9) rfl dX6_readRun_30 ?_
    refine z_pc (pc' := 33) rfl ?_
    refine lv_icmp_ge (tgt := 139) hx hb dX6_readRun_33 (by decide) (fun hc => ?_) (fun hc => ?_)
    · have hr := iteP hc hr
      exact hk139 v_behind v_kind v_number v_word x1 x2 hr _ _ ⟨hK, hP, hD, hS⟩ ls (lv_sub hl [0, 1, 2] rfl)
    · have hr := iteN hc hr
      refine lv_aload_n hx hb dX6_readRun_36 rfl (lv_at hl 0 rfl) ?_
      refine va_get (D := (dC, dI)) (ci := 6) (v := .int v_behind) (C := RX6) (T := TX6) (N := 12) hx hb hts (fun w h => List.mem_cons_of_mem _ (inU_6 w h)) hown hK hP 0 rfl rfl 3 (by decide) (hts _ (List.mem_cons_of_mem _ U_322)) (fun _ h9 => h9) rfl dX6_readRun_37 ?_
      refine lv_aload_n hx hb dX6_readRun_40 rfl (lv_at hl 3 rfl) ?_
      refine va_alen (v := (Int32.ofNat n_tape_bytes)) hx hb hK hP 2 2 rfl rfl rfl dX6_readRun_41 ?_
      refine lv_icmp_ge (tgt := 139) hx hb dX6_readRun_42 (by decide) (fun hc => ?_) (fun hc => ?_)
      · have hr := iteP hc hr
        exact hk139 v_behind v_kind v_number v_word x1 x2 hr _ _ ⟨hK, hP, hD, hS⟩ ls (lv_sub hl [0, 1, 2] rfl)
      · have hr := iteN hc hr
        refine lv_aload_n hx hb dX6_readRun_45 rfl (lv_at hl 3 rfl) ?_
        refine lv_aload_n hx hb dX6_readRun_46 rfl (lv_at hl 0 rfl) ?_
        refine va_get (D := (dC, dI)) (ci := 6) (v := .int v_behind) (C := RX6) (T := TX6) (N := 12) hx hb hts (fun w h => List.mem_cons_of_mem _ (inU_6 w h)) hown hK hP 0 rfl rfl 3 (by decide) (hts _ (List.mem_cons_of_mem _ U_322)) (fun _ h9 => h9) rfl dX6_readRun_47 ?_
        obtain ⟨hg, hr⟩ := gI_s hr
        refine z_bald hx hb hK hP 2 2 rfl rfl hg rfl dX6_readRun_50 ?_
        obtain ⟨w2, hw2, hr⟩ := nm_s hr
        refine z_topi hw2 ?_
        refine lv_istore (lv' := [(4, .int w2), (0, .ref h_this), (1, .int x1), (2, .int x2), (3, .ref h_tape_bytes)]) hx hb dX6_readRun_51 hl (by decide) rfl (fun ls hl => ?_)
        refine z_pc (pc' := 53) rfl ?_
        refine lv_iload hx hb dX6_readRun_53 (lv_at hl 0 rfl) ?_
        refine lv_bipush (v := 97) hx hb dX6_readRun_55 (by decide) ?_
        refine lv_icmp_lt (tgt := 92) hx hb dX6_readRun_57 (by decide) (fun hc => ?_) (fun hc => ?_)
        · have hr := iteP hc hr
          exact tX6_readRun_92 hA C0 hR h_this h_tape h_tape_bytes h_keys n_tape_bytes v_most v_at v_key v_taken v_fault v_faultAt v_tape_size v_tape_bytes o_behind o_kind o_number o_word ih hk139 v_behind v_kind v_number v_word x1 x2 w2 hr _ _ ⟨hK, hP, hD, hS⟩ ls (lv_sub hl [1, 2, 3, 4, 0] rfl)
        · have hr := iteN hc hr
          refine lv_iload hx hb dX6_readRun_60 (lv_at hl 0 rfl) ?_
          refine lv_bipush (v := 122) hx hb dX6_readRun_62 (by decide) ?_
          refine lv_icmp_gt (tgt := 92) hx hb dX6_readRun_64 (by decide) (fun hc => ?_) (fun hc => ?_)
          · have hr := iteP hc hr
            exact tX6_readRun_92 hA C0 hR h_this h_tape h_tape_bytes h_keys n_tape_bytes v_most v_at v_key v_taken v_fault v_faultAt v_tape_size v_tape_bytes o_behind o_kind o_number o_word ih hk139 v_behind v_kind v_number v_word x1 x2 w2 hr _ _ ⟨hK, hP, hD, hS⟩ ls (lv_sub hl [1, 2, 3, 4, 0] rfl)
          · have hr := iteN hc hr
            refine lv_aload_n hx hb dX6_readRun_67 rfl (lv_at hl 1 rfl) ?_
            refine lv_aload_n hx hb dX6_readRun_68 rfl (lv_at hl 1 rfl) ?_
            refine va_get (D := (dC, dI)) (ci := 6) (v := .long v_word) (C := RX6) (T := TX6) (N := 12) hx hb hts (fun w h => List.mem_cons_of_mem _ (inU_6 w h)) hown hK hP 0 rfl rfl 7 (by decide) (hts _ (List.mem_cons_of_mem _ U_336)) (fun _ h9 => h9) rfl dX6_readRun_69 ?_
            refine lv_ldc2 (v := 32) hx hb hown (hts _ (List.mem_cons_of_mem _ U_75)) dX6_readRun_72 ?_
            refine lv_lmul hx hb dX6_readRun_75 ?_
            refine z_pc (pc' := 76) rfl ?_
            refine lv_iload hx hb dX6_readRun_76 (lv_at hl 0 rfl) ?_
            refine lv_bipush (v := 96) hx hb dX6_readRun_78 (by decide) ?_
            refine lv_isub hx hb dX6_readRun_80 ?_
            refine lv_i2l (v := (Int32.toInt64 (w2 - 96))) hx hb dX6_readRun_81 rfl ?_
            refine lv_ladd hx hb dX6_readRun_82 ?_
            obtain ⟨w3, hw3, hr⟩ := nm_s hr
            refine z_topl hw3 ?_
            refine va_put (D := (dC, dI)) (ci := 6) (v := .long w3) (ty := .long) (C := RX6) (T := TX6) (N := 12) hx hb hts (fun w h => List.mem_cons_of_mem _ (inU_6 w h)) tyX6 tyX6_ok nmX6 hown hK hP hD hS 0 rfl rfl 7 (by decide) (hts _ (List.mem_cons_of_mem _ U_336)) (fun _ h9 => h9) rfl (by decide +kernel) rfl rfl (Nat.le_of_ble_eq_true rfl) dX6_readRun_83 (fun H locs hP hD hS => ?_)
            have hP : va_P (dC, dI) vwCl [oX6 h_this h_tape h_keys v_most v_behind v_at v_kind v_number w3 v_key v_taken v_fault v_faultAt, oX10 h_tape h_tape_bytes v_tape_size, aB cB h_tape_bytes n_tape_bytes v_tape_bytes] H := hP
            have hD : va_D A [oX6 h_this h_tape h_keys v_most v_behind v_at v_kind v_number w3 v_key v_taken v_fault v_faultAt, oX10 h_tape h_tape_bytes v_tape_size, aB cB h_tape_bytes n_tape_bytes v_tape_bytes] := hD
            refine z_pc (pc' := 86) rfl ?_
            refine lv_iinc (v := (x1 + 1)) (lv' := [(1, .int (x1 + 1)), (4, .int w2), (0, .ref h_this), (2, .int x2), (3, .ref h_tape_bytes)]) hx hb dX6_readRun_86 hl (k := 2) rfl rfl (by decide) rfl (fun ls hl => ?_)
            refine lv_goto (tgt := 126) hx hb dX6_readRun_89 (by decide) ?_
            refine lv_aload_n hx hb dX6_readRun_126 rfl (lv_at hl 2 rfl) ?_
            refine lv_dup hx hb dX6_readRun_127 rfl ?_
            refine va_get (D := (dC, dI)) (ci := 6) (v := .int v_behind) (C := RX6) (T := TX6) (N := 12) hx hb hts (fun w h => List.mem_cons_of_mem _ (inU_6 w h)) hown hK hP 0 rfl rfl 3 (by decide) (hts _ (List.mem_cons_of_mem _ U_322)) (fun _ h9 => h9) rfl dX6_readRun_128 ?_
            refine lv_iconst (v := 1) hx hb dX6_readRun_131 (by decide) ?_
            refine z_pc (pc' := 132) rfl ?_
            refine lv_iadd hx hb dX6_readRun_132 ?_
            refine va_put (D := (dC, dI)) (ci := 6) (v := .int (v_behind + 1)) (ty := .int) (C := RX6) (T := TX6) (N := 12) hx hb hts (fun w h => List.mem_cons_of_mem _ (inU_6 w h)) tyX6 tyX6_ok nmX6 hown hK hP hD hS 0 rfl rfl 3 (by decide) (hts _ (List.mem_cons_of_mem _ U_322)) (fun _ h9 => h9) rfl (by decide +kernel) rfl rfl (Nat.le_of_ble_eq_true rfl) dX6_readRun_133 (fun H locs hP hD hS => ?_)
            have hP : va_P (dC, dI) vwCl [oX6 h_this h_tape h_keys v_most (v_behind + 1) v_at v_kind v_number w3 v_key v_taken v_fault v_faultAt, oX10 h_tape h_tape_bytes v_tape_size, aB cB h_tape_bytes n_tape_bytes v_tape_bytes] H := hP
            have hD : va_D A [oX6 h_this h_tape h_keys v_most (v_behind + 1) v_at v_kind v_number w3 v_key v_taken v_fault v_faultAt, oX10 h_tape h_tape_bytes v_tape_size, aB cB h_tape_bytes n_tape_bytes v_tape_bytes] := hD
            refine lv_goto (tgt := 22) hx hb dX6_readRun_136 (by decide) ?_
            exact ih (v_behind + 1) v_kind v_number w3 (x1 + 1) x2 hr _ _ ⟨hK, hP, hD, hS⟩ ls (lv_sub hl [2, 0, 3, 4] rfl)
set_option maxHeartbeats 4000000 in
set_option maxRecDepth 100000 in
theorem tX6_readRun_158 {p : Program} {l : Launch} {e : Env} {R : Room} {s : State} {m : MethodId} {args : Array Value} {below : List Frame} {meth : Method} {c : Code} {dC : Nat → ClassId} {dI : Nat → Nat → Nat} {cI cJ cB cZ cF cG : ClassId} {A : Nat → Prop} (hA : ∀ q : Nat, s.heap.size ≤ q → A q) (C0 : Cx p s m meth c args cX6_readRun 5 none RX6 uX6_readRun) (hR : 0 ≤ R.frames ∧ 0 ≤ R.locals) (h_this : Nat) (h_tape : Nat) (h_tape_bytes : Nat) (h_keys : Nat) (n_tape_bytes : Nat) (v_most : Int32) (v_at : Int32) (v_key : Int32) (v_taken : Int32) (v_fault : Int32) (v_faultAt : Int32) (v_tape_size : Int32) (v_tape_bytes : Nat → Int32) (o_behind : Int32) (o_kind : Int32) (o_number : Int32) (o_word : Int64) :
    ∀ (v_behind : Int32) (v_kind : Int32) (v_number : Int32) (v_word : Int64) (x1 : Int32) (x2 : Int32), bX6_readRun_158 n_tape_bytes v_tape_size v_tape_bytes v_behind v_kind v_number v_word x1 x2 = some (o_behind, o_kind, o_number, o_word) → ∀ (H : Heap) (locs : List Loc), Wd dC dI cI cJ cB cZ cF cG A s H locs [oX6 h_this h_tape h_keys v_most v_behind v_at v_kind v_number v_word v_key v_taken v_fault v_faultAt, oX10 h_tape h_tape_bytes v_tape_size, aB cB h_tape_bytes n_tape_bytes v_tape_bytes] → ∀ (ls : Array Slot), lv_has ls 5 [(0, .ref h_this), (1, .int x1), (2, .int x2)] → W p l e R s m args below meth c H locs 0 0 (MQ below (PQv dC dI cI cJ cB cZ cF cG A [oX6 h_this h_tape h_keys v_most o_behind v_at o_kind o_number o_word v_key v_taken v_fault v_faultAt, oX10 h_tape h_tape_bytes v_tape_size, aB cB h_tape_bytes n_tape_bytes v_tape_bytes]) args s 0 0 A) (F0 m 158 ls []) := by
  obtain ⟨hx, hb, hrt, hml, hown, hts, hlocks⟩ := id C0
  intro v_behind v_kind v_number v_word x1 x2 hr H locs hW ls hl
  obtain ⟨hK, hP, hD, hS⟩ := hW
  have hr : (if x1 = 0 then if 3 < x2 then some (v_behind, 1, v_number, v_word) else some (v_behind, 48, v_number, v_word) else some (v_behind, 1, v_number, v_word) : Option (Int32 × Int32 × Int32 × Int64)) = some (o_behind, o_kind, o_number, o_word) := hr
  refine lv_aload_n hx hb dX6_readRun_158 rfl (lv_at hl 0 rfl) ?_
  refine lv_iload_n hx hb dX6_readRun_159 rfl (lv_at hl 1 rfl) ?_
  refine lv_if_ne (tgt := 173) hx hb dX6_readRun_160 (by decide) (fun hc => ?_) (fun hc => ?_)
  · have hr := iteN hc hr
    refine lv_iconst (v := 1) hx hb dX6_readRun_173 (by decide) ?_
    refine va_put (D := (dC, dI)) (ci := 6) (v := .int 1) (ty := .int) (C := RX6) (T := TX6) (N := 12) hx hb hts (fun w h => List.mem_cons_of_mem _ (inU_6 w h)) tyX6 tyX6_ok nmX6 hown hK hP hD hS 0 rfl rfl 5 (by decide) (hts _ (List.mem_cons_of_mem _ U_335)) (fun _ h9 => h9) rfl (by decide +kernel) rfl rfl (Nat.le_of_ble_eq_true rfl) dX6_readRun_174 (fun H locs hP hD hS => ?_)
    have hP : va_P (dC, dI) vwCl [oX6 h_this h_tape h_keys v_most v_behind v_at 1 v_number v_word v_key v_taken v_fault v_faultAt, oX10 h_tape h_tape_bytes v_tape_size, aB cB h_tape_bytes n_tape_bytes v_tape_bytes] H := hP
    have hD : va_D A [oX6 h_this h_tape h_keys v_most v_behind v_at 1 v_number v_word v_key v_taken v_fault v_faultAt, oX10 h_tape h_tape_bytes v_tape_size, aB cB h_tape_bytes n_tape_bytes v_tape_bytes] := hD
    have q0 := Option.some.inj hr
    obtain ⟨e0, q1⟩ := Prod.mk.inj q0
    obtain ⟨e1, q2⟩ := Prod.mk.inj q1
    obtain ⟨e2, q3⟩ := Prod.mk.inj q2
    subst e0; subst e1; subst e2; subst q3
    exact W.vret hx hb hrt (fun t ht hW => ⟨⟨(), rfl, trivial, by rw [ht]; exact hP, va_K.moved hW.alike hK, hD⟩, hS.F ht⟩) hS.2.2 dX6_readRun_177 hlocks
  · have hr := iteP hc hr
    refine lv_iload_n hx hb dX6_readRun_163 rfl (lv_at hl 2 rfl) ?_
    refine lv_iconst (v := 3) hx hb dX6_readRun_164 (by decide) ?_
    refine lv_icmp_gt (tgt := 173) hx hb dX6_readRun_165 (by decide) (fun hc => ?_) (fun hc => ?_)
    · have hr := iteP hc hr
      refine lv_iconst (v := 1) hx hb dX6_readRun_173 (by decide) ?_
      refine va_put (D := (dC, dI)) (ci := 6) (v := .int 1) (ty := .int) (C := RX6) (T := TX6) (N := 12) hx hb hts (fun w h => List.mem_cons_of_mem _ (inU_6 w h)) tyX6 tyX6_ok nmX6 hown hK hP hD hS 0 rfl rfl 5 (by decide) (hts _ (List.mem_cons_of_mem _ U_335)) (fun _ h9 => h9) rfl (by decide +kernel) rfl rfl (Nat.le_of_ble_eq_true rfl) dX6_readRun_174 (fun H locs hP hD hS => ?_)
      have hP : va_P (dC, dI) vwCl [oX6 h_this h_tape h_keys v_most v_behind v_at 1 v_number v_word v_key v_taken v_fault v_faultAt, oX10 h_tape h_tape_bytes v_tape_size, aB cB h_tape_bytes n_tape_bytes v_tape_bytes] H := hP
      have hD : va_D A [oX6 h_this h_tape h_keys v_most v_behind v_at 1 v_number v_word v_key v_taken v_fault v_faultAt, oX10 h_tape h_tape_bytes v_tape_size, aB cB h_tape_bytes n_tape_bytes v_tape_bytes] := hD
      have q0 := Option.some.inj hr
      obtain ⟨e0, q1⟩ := Prod.mk.inj q0
      obtain ⟨e1, q2⟩ := Prod.mk.inj q1
      obtain ⟨e2, q3⟩ := Prod.mk.inj q2
      subst e0; subst e1; subst e2; subst q3
      exact W.vret hx hb hrt (fun t ht hW => ⟨⟨(), rfl, trivial, by rw [ht]; exact hP, va_K.moved hW.alike hK, hD⟩, hS.F ht⟩) hS.2.2 dX6_readRun_177 hlocks
    · have hr := iteN hc hr
      refine lv_bipush (v := 48) hx hb dX6_readRun_168 (by decide) ?_
      refine lv_goto (tgt := 174) hx hb dX6_readRun_170 (by decide) ?_
      refine va_put (D := (dC, dI)) (ci := 6) (v := .int 48) (ty := .int) (C := RX6) (T := TX6) (N := 12) hx hb hts (fun w h => List.mem_cons_of_mem _ (inU_6 w h)) tyX6 tyX6_ok nmX6 hown hK hP hD hS 0 rfl rfl 5 (by decide) (hts _ (List.mem_cons_of_mem _ U_335)) (fun _ h9 => h9) rfl (by decide +kernel) rfl rfl (Nat.le_of_ble_eq_true rfl) dX6_readRun_174 (fun H locs hP hD hS => ?_)
      have hP : va_P (dC, dI) vwCl [oX6 h_this h_tape h_keys v_most v_behind v_at 48 v_number v_word v_key v_taken v_fault v_faultAt, oX10 h_tape h_tape_bytes v_tape_size, aB cB h_tape_bytes n_tape_bytes v_tape_bytes] H := hP
      have hD : va_D A [oX6 h_this h_tape h_keys v_most v_behind v_at 48 v_number v_word v_key v_taken v_fault v_faultAt, oX10 h_tape h_tape_bytes v_tape_size, aB cB h_tape_bytes n_tape_bytes v_tape_bytes] := hD
      have q0 := Option.some.inj hr
      obtain ⟨e0, q1⟩ := Prod.mk.inj q0
      obtain ⟨e1, q2⟩ := Prod.mk.inj q1
      obtain ⟨e2, q3⟩ := Prod.mk.inj q2
      subst e0; subst e1; subst e2; subst q3
      exact W.vret hx hb hrt (fun t ht hW => ⟨⟨(), rfl, trivial, by rw [ht]; exact hP, va_K.moved hW.alike hK, hD⟩, hS.F ht⟩) hS.2.2 dX6_readRun_177 hlocks
set_option maxHeartbeats 4000000 in
set_option maxRecDepth 100000 in
theorem tX6_readRun_139 {p : Program} {l : Launch} {e : Env} {R : Room} {s : State} {m : MethodId} {args : Array Value} {below : List Frame} {meth : Method} {c : Code} {dC : Nat → ClassId} {dI : Nat → Nat → Nat} {cI cJ cB cZ cF cG : ClassId} {A : Nat → Prop} (hA : ∀ q : Nat, s.heap.size ≤ q → A q) (C0 : Cx p s m meth c args cX6_readRun 5 none RX6 uX6_readRun) (hR : 0 ≤ R.frames ∧ 0 ≤ R.locals) (h_this : Nat) (h_tape : Nat) (h_tape_bytes : Nat) (h_keys : Nat) (n_tape_bytes : Nat) (v_most : Int32) (v_at : Int32) (v_key : Int32) (v_taken : Int32) (v_fault : Int32) (v_faultAt : Int32) (v_tape_size : Int32) (v_tape_bytes : Nat → Int32) (o_behind : Int32) (o_kind : Int32) (o_number : Int32) (o_word : Int64) :
    ∀ (v_behind : Int32) (v_kind : Int32) (v_number : Int32) (v_word : Int64) (x1 : Int32) (x2 : Int32), bX6_readRun_139 n_tape_bytes v_tape_size v_tape_bytes v_behind v_kind v_number v_word x1 x2 = some (o_behind, o_kind, o_number, o_word) → ∀ (H : Heap) (locs : List Loc), Wd dC dI cI cJ cB cZ cF cG A s H locs [oX6 h_this h_tape h_keys v_most v_behind v_at v_kind v_number v_word v_key v_taken v_fault v_faultAt, oX10 h_tape h_tape_bytes v_tape_size, aB cB h_tape_bytes n_tape_bytes v_tape_bytes] → ∀ (ls : Array Slot), lv_has ls 5 [(0, .ref h_this), (1, .int x1), (2, .int x2)] → W p l e R s m args below meth c H locs 0 0 (MQ below (PQv dC dI cI cJ cB cZ cF cG A [oX6 h_this h_tape h_keys v_most o_behind v_at o_kind o_number o_word v_key v_taken v_fault v_faultAt, oX10 h_tape h_tape_bytes v_tape_size, aB cB h_tape_bytes n_tape_bytes v_tape_bytes]) args s 0 0 A) (F0 m 139 ls []) := by
  obtain ⟨hx, hb, hrt, hml, hown, hts, hlocks⟩ := id C0
  intro v_behind v_kind v_number v_word x1 x2 hr H locs hW ls hl
  obtain ⟨hK, hP, hD, hS⟩ := hW
  have hr : (if x2 = 0 then if 7 < x1 then bX6_readRun_158 n_tape_bytes v_tape_size v_tape_bytes v_behind v_kind v_number v_word x1 x2 else some (v_behind, 97, v_number, v_word) else bX6_readRun_158 n_tape_bytes v_tape_size v_tape_bytes v_behind v_kind v_number v_word x1 x2 : Option (Int32 × Int32 × Int32 × Int64)) = some (o_behind, o_kind, o_number, o_word) := hr
  refine lv_iload_n hx hb dX6_readRun_139 rfl (lv_at hl 2 rfl) ?_
  refine lv_if_ne (tgt := 158) hx hb dX6_readRun_140 (by decide) (fun hc => ?_) (fun hc => ?_)
  · have hr := iteN hc hr
    exact tX6_readRun_158 hA C0 hR h_this h_tape h_tape_bytes h_keys n_tape_bytes v_most v_at v_key v_taken v_fault v_faultAt v_tape_size v_tape_bytes o_behind o_kind o_number o_word v_behind v_kind v_number v_word x1 x2 hr _ _ ⟨hK, hP, hD, hS⟩ ls (lv_sub hl [0, 1, 2] rfl)
  · have hr := iteP hc hr
    refine lv_iload_n hx hb dX6_readRun_143 rfl (lv_at hl 1 rfl) ?_
    refine lv_bipush (v := 7) hx hb dX6_readRun_144 (by decide) ?_
    refine lv_icmp_gt (tgt := 158) hx hb dX6_readRun_146 (by decide) (fun hc => ?_) (fun hc => ?_)
    · have hr := iteP hc hr
      exact tX6_readRun_158 hA C0 hR h_this h_tape h_tape_bytes h_keys n_tape_bytes v_most v_at v_key v_taken v_fault v_faultAt v_tape_size v_tape_bytes o_behind o_kind o_number o_word v_behind v_kind v_number v_word x1 x2 hr _ _ ⟨hK, hP, hD, hS⟩ ls (lv_sub hl [0, 1, 2] rfl)
    · have hr := iteN hc hr
      refine lv_aload_n hx hb dX6_readRun_149 rfl (lv_at hl 0 rfl) ?_
      refine lv_bipush (v := 97) hx hb dX6_readRun_150 (by decide) ?_
      refine va_put (D := (dC, dI)) (ci := 6) (v := .int 97) (ty := .int) (C := RX6) (T := TX6) (N := 12) hx hb hts (fun w h => List.mem_cons_of_mem _ (inU_6 w h)) tyX6 tyX6_ok nmX6 hown hK hP hD hS 0 rfl rfl 5 (by decide) (hts _ (List.mem_cons_of_mem _ U_335)) (fun _ h9 => h9) rfl (by decide +kernel) rfl rfl (Nat.le_of_ble_eq_true rfl) dX6_readRun_152 (fun H locs hP hD hS => ?_)
      have hP : va_P (dC, dI) vwCl [oX6 h_this h_tape h_keys v_most v_behind v_at 97 v_number v_word v_key v_taken v_fault v_faultAt, oX10 h_tape h_tape_bytes v_tape_size, aB cB h_tape_bytes n_tape_bytes v_tape_bytes] H := hP
      have hD : va_D A [oX6 h_this h_tape h_keys v_most v_behind v_at 97 v_number v_word v_key v_taken v_fault v_faultAt, oX10 h_tape h_tape_bytes v_tape_size, aB cB h_tape_bytes n_tape_bytes v_tape_bytes] := hD
      refine lv_goto (tgt := 177) hx hb dX6_readRun_155 (by decide) ?_
      have q0 := Option.some.inj hr
      obtain ⟨e0, q1⟩ := Prod.mk.inj q0
      obtain ⟨e1, q2⟩ := Prod.mk.inj q1
      obtain ⟨e2, q3⟩ := Prod.mk.inj q2
      subst e0; subst e1; subst e2; subst q3
      exact W.vret hx hb hrt (fun t ht hW => ⟨⟨(), rfl, trivial, by rw [ht]; exact hP, va_K.moved hW.alike hK, hD⟩, hS.F ht⟩) hS.2.2 dX6_readRun_177 hlocks
set_option maxHeartbeats 4000000 in
set_option maxRecDepth 100000 in
theorem tX6_readRun {p : Program} {l : Launch} {e : Env} {R : Room} {s : State} {m : MethodId} {args : Array Value} {below : List Frame} {meth : Method} {c : Code} {dC : Nat → ClassId} {dI : Nat → Nat → Nat} {cI cJ cB cZ cF cG : ClassId} {A : Nat → Prop} (hA : ∀ q : Nat, s.heap.size ≤ q → A q) (C0 : Cx p s m meth c args cX6_readRun 5 none RX6 uX6_readRun) (hR : 0 ≤ R.frames ∧ 0 ≤ R.locals) (h_this : Nat) (h_tape : Nat) (h_tape_bytes : Nat) (h_keys : Nat) (n_tape_bytes : Nat) (v_most : Int32) (v_at : Int32) (v_key : Int32) (v_taken : Int32) (v_fault : Int32) (v_faultAt : Int32) (v_tape_size : Int32) (v_tape_bytes : Nat → Int32) (o_behind : Int32) (o_kind : Int32) (o_number : Int32) (o_word : Int64) :
    ∀ (v_behind : Int32) (v_kind : Int32) (v_number : Int32) (v_word : Int64), fX6_readRun n_tape_bytes v_tape_size v_tape_bytes v_behind v_kind v_number v_word = some (o_behind, o_kind, o_number, o_word) → ∀ (H : Heap) (locs : List Loc), Wd dC dI cI cJ cB cZ cF cG A s H locs [oX6 h_this h_tape h_keys v_most v_behind v_at v_kind v_number v_word v_key v_taken v_fault v_faultAt, oX10 h_tape h_tape_bytes v_tape_size, aB cB h_tape_bytes n_tape_bytes v_tape_bytes] → ∀ (ls : Array Slot), lv_has ls 5 [(0, .ref h_this)] → W p l e R s m args below meth c H locs 0 0 (MQ below (PQv dC dI cI cJ cB cZ cF cG A [oX6 h_this h_tape h_keys v_most o_behind v_at o_kind o_number o_word v_key v_taken v_fault v_faultAt, oX10 h_tape h_tape_bytes v_tape_size, aB cB h_tape_bytes n_tape_bytes v_tape_bytes]) args s 0 0 A) (F0 m 0 ls []) := by
  obtain ⟨hx, hb, hrt, hml, hown, hts, hlocks⟩ := id C0
  intro v_behind v_kind v_number v_word hr H locs hW ls hl
  obtain ⟨hK, hP, hD, hS⟩ := hW
  have hr : (lX6_readRun_22 n_tape_bytes v_tape_size v_tape_bytes (bX6_readRun_139 n_tape_bytes v_tape_size v_tape_bytes) 5000 v_behind v_kind 0 0 0 0 : Option (Int32 × Int32 × Int32 × Int64)) = some (o_behind, o_kind, o_number, o_word) := hr
  refine lv_iconst (v := 0) hx hb dX6_readRun_0 (by decide) ?_
  refine lv_istore_n (lv' := [(1, .int 0), (0, .ref h_this)]) hx hb dX6_readRun_1 rfl hl (by decide) rfl (fun ls hl => ?_)
  refine lv_iconst (v := 0) hx hb dX6_readRun_2 (by decide) ?_
  refine lv_istore_n (lv' := [(2, .int 0), (1, .int 0), (0, .ref h_this)]) hx hb dX6_readRun_3 rfl hl (by decide) rfl (fun ls hl => ?_)
  refine lv_aload_n hx hb dX6_readRun_4 rfl (lv_at hl 2 rfl) ?_
  refine z_pc (pc' := 5) rfl ?_
  refine lv_lconst (v := 0) hx hb dX6_readRun_5 (by decide) ?_
  refine va_put (D := (dC, dI)) (ci := 6) (v := .long 0) (ty := .long) (C := RX6) (T := TX6) (N := 12) hx hb hts (fun w h => List.mem_cons_of_mem _ (inU_6 w h)) tyX6 tyX6_ok nmX6 hown hK hP hD hS 0 rfl rfl 7 (by decide) (hts _ (List.mem_cons_of_mem _ U_336)) (fun _ h9 => h9) rfl (by decide +kernel) rfl rfl (Nat.le_of_ble_eq_true rfl) dX6_readRun_6 (fun H locs hP hD hS => ?_)
  have hP : va_P (dC, dI) vwCl [oX6 h_this h_tape h_keys v_most v_behind v_at v_kind v_number 0 v_key v_taken v_fault v_faultAt, oX10 h_tape h_tape_bytes v_tape_size, aB cB h_tape_bytes n_tape_bytes v_tape_bytes] H := hP
  have hD : va_D A [oX6 h_this h_tape h_keys v_most v_behind v_at v_kind v_number 0 v_key v_taken v_fault v_faultAt, oX10 h_tape h_tape_bytes v_tape_size, aB cB h_tape_bytes n_tape_bytes v_tape_bytes] := hD
  refine lv_aload_n hx hb dX6_readRun_9 rfl (lv_at hl 2 rfl) ?_
  refine lv_iconst (v := 0) hx hb dX6_readRun_10 (by decide) ?_
  refine va_put (D := (dC, dI)) (ci := 6) (v := .int 0) (ty := .int) (C := RX6) (T := TX6) (N := 12) hx hb hts (fun w h => List.mem_cons_of_mem _ (inU_6 w h)) tyX6 tyX6_ok nmX6 hown hK hP hD hS 0 rfl rfl 6 (by decide) (hts _ (List.mem_cons_of_mem _ U_345)) (fun _ h9 => h9) rfl (by decide +kernel) rfl rfl (Nat.le_of_ble_eq_true rfl) dX6_readRun_11 (fun H locs hP hD hS => ?_)
  have hP : va_P (dC, dI) vwCl [oX6 h_this h_tape h_keys v_most v_behind v_at v_kind 0 0 v_key v_taken v_fault v_faultAt, oX10 h_tape h_tape_bytes v_tape_size, aB cB h_tape_bytes n_tape_bytes v_tape_bytes] H := hP
  have hD : va_D A [oX6 h_this h_tape h_keys v_most v_behind v_at v_kind 0 0 v_key v_taken v_fault v_faultAt, oX10 h_tape h_tape_bytes v_tape_size, aB cB h_tape_bytes n_tape_bytes v_tape_bytes] := hD
  refine lv_aload_n hx hb dX6_readRun_14 rfl (lv_at hl 2 rfl) ?_
  refine z_pc (pc' := 15) rfl ?_
  refine va_get (D := (dC, dI)) (ci := 6) (v := .ref h_tape) (C := RX6) (T := TX6) (N := 12) hx hb hts (fun w h => List.mem_cons_of_mem _ (inU_6 w h)) hown hK hP 0 rfl rfl 0 (by decide) (hts _ (List.mem_cons_of_mem _ U_73)) (fun _ h9 => h9) rfl dX6_readRun_15 ?_
  refine va_get (D := (dC, dI)) (ci := 10) (v := .ref h_tape_bytes) (C := RX10) (T := TX10) (N := 2) hx hb hts (fun w h => List.mem_cons_of_mem _ (inU_10 w h)) hown hK hP 1 rfl rfl 0 (by decide) (hts _ (List.mem_cons_of_mem _ U_346)) (fun _ h9 => h9) rfl dX6_readRun_18 ?_
  refine lv_astore_n (lv' := [(3, .ref h_tape_bytes), (2, .int 0), (1, .int 0), (0, .ref h_this)]) hx hb dX6_readRun_21 rfl hl (by decide) rfl (fun ls hl => ?_)
  exact tX6_readRun_22 hA C0 hR h_this h_tape h_tape_bytes h_keys n_tape_bytes v_most v_at v_key v_taken v_fault v_faultAt v_tape_size v_tape_bytes o_behind o_kind o_number o_word (tX6_readRun_139 hA C0 hR h_this h_tape h_tape_bytes h_keys n_tape_bytes v_most v_at v_key v_taken v_fault v_faultAt v_tape_size v_tape_bytes o_behind o_kind o_number o_word) 5000 v_behind v_kind 0 0 0 0 hr _ _ ⟨hK, hP, hD, hS⟩ ls (lv_sub hl [3, 2, 1, 0] rfl)
set_option maxHeartbeats 4000000 in
set_option maxRecDepth 100000 in
theorem mX6_readRun (l : Launch) (dC : Nat → ClassId) (dI : Nat → Nat → Nat) (cI cJ cB cZ cF cG : ClassId) (h_this : Nat) (h_tape : Nat) (h_tape_bytes : Nat) (h_keys : Nat) (sz : Nat) (n_tape_bytes : Nat) (v_most : Int32) (v_behind : Int32) (v_at : Int32) (v_kind : Int32) (v_number : Int32) (v_word : Int64) (v_key : Int32) (v_taken : Int32) (v_fault : Int32) (v_faultAt : Int32) (v_tape_size : Int32) (v_tape_bytes : Nat → Int32) (o_behind : Int32) (o_kind : Int32) (o_number : Int32) (o_word : Int64) (hf : fX6_readRun n_tape_bytes v_tape_size v_tape_bytes v_behind v_kind v_number v_word = some (o_behind, o_kind, o_number, o_word)) : Met l yX6_readRun uX6_readRun ({ frames := 0, cells := 0, slots := 0, locals := 0 }) (va_Pc [.ref h_this] (fun U => U.heap.size = sz ∧ va_P (dC, dI) vwCl [oX6 h_this h_tape h_keys v_most v_behind v_at v_kind v_number v_word v_key v_taken v_fault v_faultAt, oX10 h_tape h_tape_bytes v_tape_size, aB cB h_tape_bytes n_tape_bytes v_tape_bytes] U.heap ∧ va_K (dC, dI) vwCl (TYS cI cJ cB cZ cF cG) U ∧ va_D (fun _ => True) [oX6 h_this h_tape h_keys v_most v_behind v_at v_kind v_number v_word v_key v_taken v_fault v_faultAt, oX10 h_tape h_tape_bytes v_tape_size, aB cB h_tape_bytes n_tape_bytes v_tape_bytes])) (PQv dC dI cI cJ cB cZ cF cG (va_A [oX6 h_this h_tape h_keys v_most v_behind v_at v_kind v_number v_word v_key v_taken v_fault v_faultAt, oX10 h_tape h_tape_bytes v_tape_size, aB cB h_tape_bytes n_tape_bytes v_tape_bytes] sz) [oX6 h_this h_tape h_keys v_most o_behind v_at o_kind o_number o_word v_key v_taken v_fault v_faultAt, oX10 h_tape h_tape_bytes v_tape_size, aB cB h_tape_bytes n_tape_bytes v_tape_bytes]) 0 0 (va_A [oX6 h_this h_tape h_keys v_most v_behind v_at v_kind v_number v_word v_key v_taken v_fault v_faultAt, oX10 h_tape h_tape_bytes v_tape_size, aB cB h_tape_bytes n_tape_bytes v_tape_bytes] sz) := by
  refine Met.ofW (cc := cX6_readRun) (maxL := 5) (ret := none) (by decide) rfl ?_
  intro p e s m args below meth c s₁ B hml hv
  obtain ⟨rfl, hsz, hP, hK, hD0⟩ := hv
  have hx := B.exec
  have hb := B.bytes
  have hr := B.returns
  have hts := atoms_spec (ws := uX6_readRun) B.pre
  have hown : s.vm.findClass RX6 = some m.cls := findClass_of_methodNamed B.named
  have hlocks := B.notSynchronized
  subst hsz
  have hD := hD0.self (sz := s.heap.size)
  generalize hAe : va_A [oX6 h_this h_tape h_keys v_most v_behind v_at v_kind v_number v_word v_key v_taken v_fault v_faultAt, oX10 h_tape h_tape_bytes v_tape_size, aB cB h_tape_bytes n_tape_bytes v_tape_bytes] s.heap.size = A at hD ⊢
  have hA : ∀ q : Nat, s.heap.size ≤ q → A q := fun q h => by rw [← hAe]; exact Or.inr h
  have hS : va_S A s.heap s.heap [] := va_S.rf
  have hl := lv_entry ([.ref h_this]) (n := 5) (Nat.le_of_ble_eq_true rfl)
  rw [lg_entry_eq]
  generalize (lg_sl ([.ref h_this]) ++ List.replicate (5 - (lg_sl ([.ref h_this])).length) Slot.unset).toArray = ls at hl ⊢
  have hl : lv_has ls 5 [(0, .ref h_this)] := hl
  exact tX6_readRun hA ⟨hx, hb, hr, hml, hown, hts, hlocks⟩ ⟨Nat.le_refl _, Nat.le_refl _⟩ h_this h_tape h_tape_bytes h_keys n_tape_bytes v_most v_at v_key v_taken v_fault v_faultAt v_tape_size v_tape_bytes o_behind o_kind o_number o_word v_behind v_kind v_number v_word hf _ _ ⟨hK, hP, hD, hS⟩ ls hl
-- LastSeat$Reader.step()V
def uX6_step : List Cond := .code yX6_step cX6_step 3 none :: wsU
set_option maxHeartbeats 4000000 in
set_option maxRecDepth 100000 in
theorem tX6_step_38 {p : Program} {l : Launch} {e : Env} {R : Room} {s : State} {m : MethodId} {args : Array Value} {below : List Frame} {meth : Method} {c : Code} {dC : Nat → ClassId} {dI : Nat → Nat → Nat} {cI cJ cB cZ cF cG : ClassId} {A : Nat → Prop} {k12 : Int32 → Int32 → Int32 → Int32 → Int64 → Int32 → Int32 → Option (Int32 × Int32 × Int32 × Int32 × Int64 × Int32)} (hA : ∀ q : Nat, s.heap.size ≤ q → A q) (C0 : Cx p s m meth c args cX6_step 3 none RX6 uX6_step) (hR : 1 ≤ R.frames ∧ 60 ≤ R.locals) (h_this : Nat) (h_tape : Nat) (h_tape_bytes : Nat) (h_keys : Nat) (n_tape_bytes : Nat) (v_most : Int32) (v_taken : Int32) (v_fault : Int32) (v_faultAt : Int32) (v_tape_size : Int32) (v_tape_bytes : Nat → Int32) (v_keys : Nat → Int64) (o_behind : Int32) (o_at : Int32) (o_kind : Int32) (o_number : Int32) (o_word : Int64) (o_key : Int32) (hk12 : ∀ (v_behind : Int32) (v_at : Int32) (v_kind : Int32) (v_number : Int32) (v_word : Int64) (v_key : Int32) (x1 : Int32), k12 v_behind v_at v_kind v_number v_word v_key x1 = some (o_behind, o_at, o_kind, o_number, o_word, o_key) → ∀ (H : Heap) (locs : List Loc), Wd dC dI cI cJ cB cZ cF cG A s H locs [oX6 h_this h_tape h_keys v_most v_behind v_at v_kind v_number v_word v_key v_taken v_fault v_faultAt, oX10 h_tape h_tape_bytes v_tape_size, aB cB h_tape_bytes n_tape_bytes v_tape_bytes, aJ cJ h_keys 22 v_keys] → ∀ (ls : Array Slot), lv_has ls 3 [(0, .ref h_this), (1, .int x1)] → W p l e R s m args below meth c H locs 0 0 (MQ below (PQv dC dI cI cJ cB cZ cF cG A [oX6 h_this h_tape h_keys v_most o_behind o_at o_kind o_number o_word o_key v_taken v_fault v_faultAt, oX10 h_tape h_tape_bytes v_tape_size, aB cB h_tape_bytes n_tape_bytes v_tape_bytes, aJ cJ h_keys 22 v_keys]) args s 0 0 A) (F0 m 12 ls [])) :
    ∀ (v_behind : Int32) (v_at : Int32) (v_kind : Int32) (v_number : Int32) (v_word : Int64) (v_key : Int32), bX6_step_38 n_tape_bytes v_most v_tape_size v_tape_bytes v_keys k12 v_behind v_at v_kind v_number v_word v_key = some (o_behind, o_at, o_kind, o_number, o_word, o_key) → ∀ (H : Heap) (locs : List Loc), Wd dC dI cI cJ cB cZ cF cG A s H locs [oX6 h_this h_tape h_keys v_most v_behind v_at v_kind v_number v_word v_key v_taken v_fault v_faultAt, oX10 h_tape h_tape_bytes v_tape_size, aB cB h_tape_bytes n_tape_bytes v_tape_bytes, aJ cJ h_keys 22 v_keys] → ∀ (ls : Array Slot), lv_has ls 3 [(0, .ref h_this)] → W p l e R s m args below meth c H locs 0 0 (MQ below (PQv dC dI cI cJ cB cZ cF cG A [oX6 h_this h_tape h_keys v_most o_behind o_at o_kind o_number o_word o_key v_taken v_fault v_faultAt, oX10 h_tape h_tape_bytes v_tape_size, aB cB h_tape_bytes n_tape_bytes v_tape_bytes, aJ cJ h_keys 22 v_keys]) args s 0 0 A) (F0 m 38 ls []) := by
  obtain ⟨hx, hb, hrt, hml, hown, hts, hlocks⟩ := id C0
  intro v_behind v_at v_kind v_number v_word v_key hr H locs hW ls hl
  obtain ⟨hK, hP, hD, hS⟩ := hW
  have hr : ((fX10_at n_tape_bytes v_tape_size v_tape_bytes (v_behind + 1)).bind (fun r_1 => k12 (v_behind + 1) v_at v_kind v_number v_word v_key r_1) : Option (Int32 × Int32 × Int32 × Int32 × Int64 × Int32)) = some (o_behind, o_at, o_kind, o_number, o_word, o_key) := hr
  refine lv_aload_n hx hb dX6_step_38 rfl (lv_at hl 0 rfl) ?_
  refine lv_dup hx hb dX6_step_39 rfl ?_
  refine va_get (D := (dC, dI)) (ci := 6) (v := .int v_behind) (C := RX6) (T := TX6) (N := 12) hx hb hts (fun w h => List.mem_cons_of_mem _ (inU_6 w h)) hown hK hP 0 rfl rfl 3 (by decide) (hts _ (List.mem_cons_of_mem _ U_322)) (fun _ h9 => h9) rfl dX6_step_40 ?_
  refine lv_iconst (v := 1) hx hb dX6_step_43 (by decide) ?_
  refine lv_iadd hx hb dX6_step_44 ?_
  refine z_pc (pc' := 45) rfl ?_
  refine va_put (D := (dC, dI)) (ci := 6) (v := .int (v_behind + 1)) (ty := .int) (C := RX6) (T := TX6) (N := 12) hx hb hts (fun w h => List.mem_cons_of_mem _ (inU_6 w h)) tyX6 tyX6_ok nmX6 hown hK hP hD hS 0 rfl rfl 3 (by decide) (hts _ (List.mem_cons_of_mem _ U_322)) (fun _ h9 => h9) rfl (by decide +kernel) rfl rfl (Nat.le_of_ble_eq_true rfl) dX6_step_45 (fun H locs hP hD hS => ?_)
  have hP : va_P (dC, dI) vwCl [oX6 h_this h_tape h_keys v_most (v_behind + 1) v_at v_kind v_number v_word v_key v_taken v_fault v_faultAt, oX10 h_tape h_tape_bytes v_tape_size, aB cB h_tape_bytes n_tape_bytes v_tape_bytes, aJ cJ h_keys 22 v_keys] H := hP
  have hD : va_D A [oX6 h_this h_tape h_keys v_most (v_behind + 1) v_at v_kind v_number v_word v_key v_taken v_fault v_faultAt, oX10 h_tape h_tape_bytes v_tape_size, aB cB h_tape_bytes n_tape_bytes v_tape_bytes, aJ cJ h_keys 22 v_keys] := hD
  refine lv_aload_n hx hb dX6_step_48 rfl (lv_at hl 0 rfl) ?_
  refine va_get (D := (dC, dI)) (ci := 6) (v := .ref h_tape) (C := RX6) (T := TX6) (N := 12) hx hb hts (fun w h => List.mem_cons_of_mem _ (inU_6 w h)) hown hK hP 0 rfl rfl 0 (by decide) (hts _ (List.mem_cons_of_mem _ U_73)) (fun _ h9 => h9) rfl dX6_step_49 ?_
  refine lv_aload_n hx hb dX6_step_52 rfl (lv_at hl 0 rfl) ?_
  refine va_get (D := (dC, dI)) (ci := 6) (v := .int (v_behind + 1)) (C := RX6) (T := TX6) (N := 12) hx hb hts (fun w h => List.mem_cons_of_mem _ (inU_6 w h)) hown hK hP 0 rfl rfl 3 (by decide) (hts _ (List.mem_cons_of_mem _ U_322)) (fun _ h9 => h9) rfl dX6_step_53 ?_
  obtain ⟨r_1, ho, hr⟩ := bind_s hr
  have hPc := hP.sub (ws' := [oX10 h_tape h_tape_bytes v_tape_size, aB cB h_tape_bytes n_tape_bytes v_tape_bytes]) [1, 2] rfl
  have hDc := hD.sub (ws' := [oX10 h_tape h_tape_bytes v_tape_size, aB cB h_tape_bytes n_tape_bytes v_tape_bytes]) [1, 2] (by decide) rfl
  have hFc := va_free (wc := [oX10 h_tape h_tape_bytes v_tape_size, aB cB h_tape_bytes n_tape_bytes v_tape_bytes]) hD hS hA [1, 2] rfl
  refine va_calli (va_runV (As := [.int (v_behind + 1)]) (rest := []) ⟨hx, hb, hml, hown, hts⟩ (mX10_at l dC dI cI cJ cB cZ cF cG h_tape h_tape_bytes H.size n_tape_bytes v_tape_size v_tape_bytes (v_behind + 1) r_1 ho) (cwV 1 hts (goodV U_337 U_338 U_339 U_15 U_340) rfl rfl rfl (by decide +kernel) ⟨Nat.le_trans (by decide) hR.1, Nat.le_trans (Nat.le_of_ble_eq_true rfl) hR.2⟩) ⟨fun a U g mk q => by obtain ⟨q0, q1, qP, qK, qD⟩ := q; exact ⟨q0, q1, qP, va_K.moved (u := U) (U := U.calling g mk a) (Vm.Alike.refl U.vm) qK, qD⟩, va_recv hK hPc (ci := 10) (q0 := 0) rfl rfl, fun U hU hW => ⟨rfl, by rw [hU], by rw [hU]; exact hPc, va_K.moved hW.alike hK, hDc.weaken (fun _ _ _ _ => trivial)⟩⟩ rfl rfl hl.1 rfl (lv_room (Nat.le_of_ble_eq_true rfl)) dX6_step_56 ⟨Nat.zero_le _, Nat.zero_le _⟩) hS (fun q _ h => hFc q h) hFc (fun rz u t H1 locs ht hvm hw hB hz1 hk1 hS => ?_)
  obtain ⟨hP1, hK1, hD1⟩ := hB
  have hw := hw.symm; subst hw
  rw [ht] at hP1
  obtain ⟨hP, hD⟩ := va_join (wr := [oX6 h_this h_tape h_keys v_most (v_behind + 1) v_at v_kind v_number v_word v_key v_taken v_fault v_faultAt, aJ cJ h_keys 22 v_keys]) (w1 := [oX10 h_tape h_tape_bytes v_tape_size, aB cB h_tape_bytes n_tape_bytes v_tape_bytes]) hP hD [1, 2] [0, 3] rfl rfl (by decide) (by decide) hk1 hFc hP1 hD1
  generalize H1 = H at hP hS ⊢
  have hP := hP.sub (ws' := [oX6 h_this h_tape h_keys v_most (v_behind + 1) v_at v_kind v_number v_word v_key v_taken v_fault v_faultAt, oX10 h_tape h_tape_bytes v_tape_size, aB cB h_tape_bytes n_tape_bytes v_tape_bytes, aJ cJ h_keys 22 v_keys]) [0, 2, 3, 1] rfl
  have hD := hD.sub (ws' := [oX6 h_this h_tape h_keys v_most (v_behind + 1) v_at v_kind v_number v_word v_key v_taken v_fault v_faultAt, oX10 h_tape h_tape_bytes v_tape_size, aB cB h_tape_bytes n_tape_bytes v_tape_bytes, aJ cJ h_keys 22 v_keys]) [0, 2, 3, 1] (by decide) rfl
  refine z_pc (pc' := 59) rfl ?_
  refine lv_istore_n (lv' := [(1, .int r_1), (0, .ref h_this)]) hx hb dX6_step_59 rfl hl (by decide) rfl (fun ls hl => ?_)
  refine lv_goto (tgt := 12) hx hb dX6_step_60 (by decide) ?_
  exact hk12 (v_behind + 1) v_at v_kind v_number v_word v_key r_1 hr _ _ ⟨hK, hP, hD, hS⟩ ls (lv_sub hl [1, 0] rfl)
set_option maxHeartbeats 4000000 in
set_option maxRecDepth 100000 in
theorem tX6_step_12 {p : Program} {l : Launch} {e : Env} {R : Room} {s : State} {m : MethodId} {args : Array Value} {below : List Frame} {meth : Method} {c : Code} {dC : Nat → ClassId} {dI : Nat → Nat → Nat} {cI cJ cB cZ cF cG : ClassId} {A : Nat → Prop} {k63 : Int32 → Int32 → Int32 → Int32 → Int64 → Int32 → Int32 → Option (Int32 × Int32 × Int32 × Int32 × Int64 × Int32)} (hA : ∀ q : Nat, s.heap.size ≤ q → A q) (C0 : Cx p s m meth c args cX6_step 3 none RX6 uX6_step) (hR : 1 ≤ R.frames ∧ 60 ≤ R.locals) (h_this : Nat) (h_tape : Nat) (h_tape_bytes : Nat) (h_keys : Nat) (n_tape_bytes : Nat) (v_most : Int32) (v_taken : Int32) (v_fault : Int32) (v_faultAt : Int32) (v_tape_size : Int32) (v_tape_bytes : Nat → Int32) (v_keys : Nat → Int64) (o_behind : Int32) (o_at : Int32) (o_kind : Int32) (o_number : Int32) (o_word : Int64) (o_key : Int32) (hk63 : ∀ (v_behind : Int32) (v_at : Int32) (v_kind : Int32) (v_number : Int32) (v_word : Int64) (v_key : Int32) (x1 : Int32), k63 v_behind v_at v_kind v_number v_word v_key x1 = some (o_behind, o_at, o_kind, o_number, o_word, o_key) → ∀ (H : Heap) (locs : List Loc), Wd dC dI cI cJ cB cZ cF cG A s H locs [oX6 h_this h_tape h_keys v_most v_behind v_at v_kind v_number v_word v_key v_taken v_fault v_faultAt, oX10 h_tape h_tape_bytes v_tape_size, aB cB h_tape_bytes n_tape_bytes v_tape_bytes, aJ cJ h_keys 22 v_keys] → ∀ (ls : Array Slot), lv_has ls 3 [(0, .ref h_this), (1, .int x1)] → W p l e R s m args below meth c H locs 0 0 (MQ below (PQv dC dI cI cJ cB cZ cF cG A [oX6 h_this h_tape h_keys v_most o_behind o_at o_kind o_number o_word o_key v_taken v_fault v_faultAt, oX10 h_tape h_tape_bytes v_tape_size, aB cB h_tape_bytes n_tape_bytes v_tape_bytes, aJ cJ h_keys 22 v_keys]) args s 0 0 A) (F0 m 63 ls [])) :
    ∀ n : Nat, ∀ (v_behind : Int32) (v_at : Int32) (v_kind : Int32) (v_number : Int32) (v_word : Int64) (v_key : Int32) (x1 : Int32), lX6_step_12 n_tape_bytes v_most v_tape_size v_tape_bytes v_keys k63 n v_behind v_at v_kind v_number v_word v_key x1 = some (o_behind, o_at, o_kind, o_number, o_word, o_key) → ∀ (H : Heap) (locs : List Loc), Wd dC dI cI cJ cB cZ cF cG A s H locs [oX6 h_this h_tape h_keys v_most v_behind v_at v_kind v_number v_word v_key v_taken v_fault v_faultAt, oX10 h_tape h_tape_bytes v_tape_size, aB cB h_tape_bytes n_tape_bytes v_tape_bytes, aJ cJ h_keys 22 v_keys] → ∀ (ls : Array Slot), lv_has ls 3 [(0, .ref h_this), (1, .int x1)] → W p l e R s m args below meth c H locs 0 0 (MQ below (PQv dC dI cI cJ cB cZ cF cG A [oX6 h_this h_tape h_keys v_most o_behind o_at o_kind o_number o_word o_key v_taken v_fault v_faultAt, oX10 h_tape h_tape_bytes v_tape_size, aB cB h_tape_bytes n_tape_bytes v_tape_bytes, aJ cJ h_keys 22 v_keys]) args s 0 0 A) (F0 m 12 ls []) := by
  obtain ⟨hx, hb, hrt, hml, hown, hts, hlocks⟩ := id C0
  intro n
  induction n with
  | zero =>
    intro v_behind v_at v_kind v_number v_word v_key x1 hr
    exact nomatch (show (none : Option (Int32 × Int32 × Int32 × Int32 × Int64 × Int32)) = some _ from hr)
  | succ n ih =>
    intro v_behind v_at v_kind v_number v_word v_key x1 hr H locs hW ls hl
    obtain ⟨hK, hP, hD, hS⟩ := hW
    have hr : (if v_tape_size ≤ v_behind then k63 v_behind v_at v_kind v_number v_word v_key x1 else if x1 = 32 then bX6_step_38 n_tape_bytes v_most v_tape_size v_tape_bytes v_keys (lX6_step_12 n_tape_bytes v_most v_tape_size v_tape_bytes v_keys k63 n) v_behind v_at v_kind v_number v_word v_key else if x1 = 10 then bX6_step_38 n_tape_bytes v_most v_tape_size v_tape_bytes v_keys (lX6_step_12 n_tape_bytes v_most v_tape_size v_tape_bytes v_keys k63 n) v_behind v_at v_kind v_number v_word v_key else k63 v_behind v_at v_kind v_number v_word v_key x1 : Option (Int32 × Int32 × Int32 × Int32 × Int64 × Int32)) = some (o_behind, o_at, o_kind, o_number, o_word, o_key) := hr
    refine lv_aload_n hx hb dX6_step_12 rfl (lv_at hl 0 rfl) ?_
    refine va_get (D := (dC, dI)) (ci := 6) (v := .int v_behind) (C := RX6) (T := TX6) (N := 12) hx hb hts (fun w h => List.mem_cons_of_mem _ (inU_6 w h)) hown hK hP 0 rfl rfl 3 (by decide) (hts _ (List.mem_cons_of_mem _ U_322)) (fun _ h9 => h9) rfl dX6_step_13 ?_
    refine lv_aload_n hx hb dX6_step_16 rfl (lv_at hl 0 rfl) ?_
    refine va_get (D := (dC, dI)) (ci := 6) (v := .ref h_tape) (C := RX6) (T := TX6) (N := 12) hx hb hts (fun w h => List.mem_cons_of_mem _ (inU_6 w h)) hown hK hP 0 rfl rfl 0 (by decide) (hts _ (List.mem_cons_of_mem _ U_73)) (fun _ h9 => h9) rfl dX6_step_17 ?_
    refine va_get (D := (dC, dI)) (ci := 10) (v := .int v_tape_size) (C := RX10) (T := TX10) (N := 2) hx hb hts (fun w h => List.mem_cons_of_mem _ (inU_10 w h)) hown hK hP 1 rfl rfl 1 (by decide) (hts _ (List.mem_cons_of_mem _ U_329)) (fun _ h9 => h9) rfl dX6_step_20 ?_
    refine z_pc (pc' := 23) rfl ?_
    refine lv_icmp_ge (tgt := 63) hx hb dX6_step_23 (by decide) (fun hc => ?_) (fun hc => ?_)
    · have hr := iteP hc hr
      exact hk63 v_behind v_at v_kind v_number v_word v_key x1 hr _ _ ⟨hK, hP, hD, hS⟩ ls (lv_sub hl [0, 1] rfl)
    · have hr := iteN hc hr
      refine lv_iload_n hx hb dX6_step_26 rfl (lv_at hl 1 rfl) ?_
      refine lv_bipush (v := 32) hx hb dX6_step_27 (by decide) ?_
      refine lv_icmp_eq (tgt := 38) hx hb dX6_step_29 (by decide) (fun hc => ?_) (fun hc => ?_)
      · have hr := iteP hc hr
        exact tX6_step_38 hA C0 hR h_this h_tape h_tape_bytes h_keys n_tape_bytes v_most v_taken v_fault v_faultAt v_tape_size v_tape_bytes v_keys o_behind o_at o_kind o_number o_word o_key ih v_behind v_at v_kind v_number v_word v_key hr _ _ ⟨hK, hP, hD, hS⟩ ls (lv_sub hl [0] rfl)
      · have hr := iteN hc hr
        refine lv_iload_n hx hb dX6_step_32 rfl (lv_at hl 1 rfl) ?_
        refine lv_bipush (v := 10) hx hb dX6_step_33 (by decide) ?_
        refine lv_icmp_ne (tgt := 63) hx hb dX6_step_35 (by decide) (fun hc => ?_) (fun hc => ?_)
        · have hr := iteN hc hr
          exact hk63 v_behind v_at v_kind v_number v_word v_key x1 hr _ _ ⟨hK, hP, hD, hS⟩ ls (lv_sub hl [0, 1] rfl)
        · have hr := iteP hc hr
          exact tX6_step_38 hA C0 hR h_this h_tape h_tape_bytes h_keys n_tape_bytes v_most v_taken v_fault v_faultAt v_tape_size v_tape_bytes v_keys o_behind o_at o_kind o_number o_word o_key ih v_behind v_at v_kind v_number v_word v_key hr _ _ ⟨hK, hP, hD, hS⟩ ls (lv_sub hl [0] rfl)
set_option maxHeartbeats 4000000 in
set_option maxRecDepth 100000 in
theorem tX6_step_162 {p : Program} {l : Launch} {e : Env} {R : Room} {s : State} {m : MethodId} {args : Array Value} {below : List Frame} {meth : Method} {c : Code} {dC : Nat → ClassId} {dI : Nat → Nat → Nat} {cI cJ cB cZ cF cG : ClassId} {A : Nat → Prop} (hA : ∀ q : Nat, s.heap.size ≤ q → A q) (C0 : Cx p s m meth c args cX6_step 3 none RX6 uX6_step) (hR : 1 ≤ R.frames ∧ 60 ≤ R.locals) (h_this : Nat) (h_tape : Nat) (h_tape_bytes : Nat) (h_keys : Nat) (n_tape_bytes : Nat) (v_most : Int32) (v_taken : Int32) (v_fault : Int32) (v_faultAt : Int32) (v_tape_size : Int32) (v_tape_bytes : Nat → Int32) (v_keys : Nat → Int64) (o_behind : Int32) (o_at : Int32) (o_kind : Int32) (o_number : Int32) (o_word : Int64) (o_key : Int32) :
    ∀ (v_behind : Int32) (v_at : Int32) (v_kind : Int32) (v_number : Int32) (v_word : Int64) (v_key : Int32), bX6_step_162 n_tape_bytes v_most v_tape_size v_tape_bytes v_keys v_behind v_at v_kind v_number v_word v_key = some (o_behind, o_at, o_kind, o_number, o_word, o_key) → ∀ (H : Heap) (locs : List Loc), Wd dC dI cI cJ cB cZ cF cG A s H locs [oX6 h_this h_tape h_keys v_most v_behind v_at v_kind v_number v_word v_key v_taken v_fault v_faultAt, oX10 h_tape h_tape_bytes v_tape_size, aB cB h_tape_bytes n_tape_bytes v_tape_bytes, aJ cJ h_keys 22 v_keys] → ∀ (ls : Array Slot), lv_has ls 3 [(0, .ref h_this)] → W p l e R s m args below meth c H locs 0 0 (MQ below (PQv dC dI cI cJ cB cZ cF cG A [oX6 h_this h_tape h_keys v_most o_behind o_at o_kind o_number o_word o_key v_taken v_fault v_faultAt, oX10 h_tape h_tape_bytes v_tape_size, aB cB h_tape_bytes n_tape_bytes v_tape_bytes, aJ cJ h_keys 22 v_keys]) args s 0 0 A) (F0 m 162 ls []) := by
  obtain ⟨hx, hb, hrt, hml, hown, hts, hlocks⟩ := id C0
  intro v_behind v_at v_kind v_number v_word v_key hr H locs hW ls hl
  obtain ⟨hK, hP, hD, hS⟩ := hW
  have hr : ((fX6_readRun n_tape_bytes v_tape_size v_tape_bytes v_behind v_kind v_number v_word).bind (fun (u2_behind, u2_kind, u2_number, u2_word) => if u2_kind = 97 then (fX6_keyOf v_keys u2_word).bind (fun r_3 => some (u2_behind, v_at, u2_kind, u2_number, u2_word, r_3)) else some (u2_behind, v_at, u2_kind, u2_number, u2_word, (-1))) : Option (Int32 × Int32 × Int32 × Int32 × Int64 × Int32)) = some (o_behind, o_at, o_kind, o_number, o_word, o_key) := hr
  refine lv_aload_n hx hb dX6_step_162 rfl (lv_at hl 0 rfl) ?_
  obtain ⟨⟨u2_behind, u2_kind, u2_number, u2_word⟩, ho, hr⟩ := bind_s hr
  dsimp only at hr
  have hPc := hP.sub (ws' := [oX6 h_this h_tape h_keys v_most v_behind v_at v_kind v_number v_word v_key v_taken v_fault v_faultAt, oX10 h_tape h_tape_bytes v_tape_size, aB cB h_tape_bytes n_tape_bytes v_tape_bytes]) [0, 1, 2] rfl
  have hDc := hD.sub (ws' := [oX6 h_this h_tape h_keys v_most v_behind v_at v_kind v_number v_word v_key v_taken v_fault v_faultAt, oX10 h_tape h_tape_bytes v_tape_size, aB cB h_tape_bytes n_tape_bytes v_tape_bytes]) [0, 1, 2] (by decide) rfl
  have hFc := va_free (wc := [oX6 h_this h_tape h_keys v_most v_behind v_at v_kind v_number v_word v_key v_taken v_fault v_faultAt, oX10 h_tape h_tape_bytes v_tape_size, aB cB h_tape_bytes n_tape_bytes v_tape_bytes]) hD hS hA [0, 1, 2] rfl
  refine va_callv (va_runV (As := []) (rest := []) ⟨hx, hb, hml, hown, hts⟩ (mX6_readRun l dC dI cI cJ cB cZ cF cG h_this h_tape h_tape_bytes h_keys H.size n_tape_bytes v_most v_behind v_at v_kind v_number v_word v_key v_taken v_fault v_faultAt v_tape_size v_tape_bytes u2_behind u2_kind u2_number u2_word ho) (cwV 0 hts (goodV U_341 U_342 U_343 U_20 U_344) rfl rfl rfl (by decide +kernel) ⟨Nat.le_trans (by decide) hR.1, Nat.le_trans (Nat.le_of_ble_eq_true rfl) hR.2⟩) ⟨fun a U g mk q => by obtain ⟨q0, q1, qP, qK, qD⟩ := q; exact ⟨q0, q1, qP, va_K.moved (u := U) (U := U.calling g mk a) (Vm.Alike.refl U.vm) qK, qD⟩, va_recv hK hPc (ci := 6) (q0 := 0) rfl rfl, fun U hU hW => ⟨rfl, by rw [hU], by rw [hU]; exact hPc, va_K.moved hW.alike hK, hDc.weaken (fun _ _ _ _ => trivial)⟩⟩ rfl rfl hl.1 rfl (lv_room (Nat.le_of_ble_eq_true rfl)) dX6_step_163 ⟨Nat.zero_le _, Nat.zero_le _⟩) hS (fun q _ h => hFc q h) hFc (fun u t H1 locs ht hvm hw hB hz1 hk1 hS => ?_)
  obtain ⟨hP1, hK1, hD1⟩ := hB
  rw [ht] at hP1
  obtain ⟨hP, hD⟩ := va_join (wr := [aJ cJ h_keys 22 v_keys]) (w1 := [oX6 h_this h_tape h_keys v_most u2_behind v_at u2_kind u2_number u2_word v_key v_taken v_fault v_faultAt, oX10 h_tape h_tape_bytes v_tape_size, aB cB h_tape_bytes n_tape_bytes v_tape_bytes]) hP hD [0, 1, 2] [3] rfl rfl (by decide) (by decide) hk1 hFc hP1 hD1
  generalize H1 = H at hP hS ⊢
  have hP := hP.sub (ws' := [oX6 h_this h_tape h_keys v_most u2_behind v_at u2_kind u2_number u2_word v_key v_taken v_fault v_faultAt, oX10 h_tape h_tape_bytes v_tape_size, aB cB h_tape_bytes n_tape_bytes v_tape_bytes, aJ cJ h_keys 22 v_keys]) [1, 2, 3, 0] rfl
  have hD := hD.sub (ws' := [oX6 h_this h_tape h_keys v_most u2_behind v_at u2_kind u2_number u2_word v_key v_taken v_fault v_faultAt, oX10 h_tape h_tape_bytes v_tape_size, aB cB h_tape_bytes n_tape_bytes v_tape_bytes, aJ cJ h_keys 22 v_keys]) [1, 2, 3, 0] (by decide) rfl
  refine lv_aload_n hx hb dX6_step_166 rfl (lv_at hl 0 rfl) ?_
  refine lv_aload_n hx hb dX6_step_167 rfl (lv_at hl 0 rfl) ?_
  refine va_get (D := (dC, dI)) (ci := 6) (v := .int u2_kind) (C := RX6) (T := TX6) (N := 12) hx hb hts (fun w h => List.mem_cons_of_mem _ (inU_6 w h)) hown hK hP 0 rfl rfl 5 (by decide) (hts _ (List.mem_cons_of_mem _ U_335)) (fun _ h9 => h9) rfl dX6_step_168 ?_
  refine z_pc (pc' := 171) rfl ?_
  refine lv_bipush (v := 97) hx hb dX6_step_171 (by decide) ?_
  refine lv_icmp_ne (tgt := 187) hx hb dX6_step_173 (by decide) (fun hc => ?_) (fun hc => ?_)
  · have hr := iteN hc hr
    refine lv_iconst (v := (-1)) hx hb dX6_step_187 (by decide) ?_
    refine va_put (D := (dC, dI)) (ci := 6) (v := .int (-1)) (ty := .int) (C := RX6) (T := TX6) (N := 12) hx hb hts (fun w h => List.mem_cons_of_mem _ (inU_6 w h)) tyX6 tyX6_ok nmX6 hown hK hP hD hS 0 rfl rfl 8 (by decide) (hts _ (List.mem_cons_of_mem _ U_334)) (fun _ h9 => h9) rfl (by decide +kernel) rfl rfl (Nat.le_of_ble_eq_true rfl) dX6_step_188 (fun H locs hP hD hS => ?_)
    have hP : va_P (dC, dI) vwCl [oX6 h_this h_tape h_keys v_most u2_behind v_at u2_kind u2_number u2_word (-1) v_taken v_fault v_faultAt, oX10 h_tape h_tape_bytes v_tape_size, aB cB h_tape_bytes n_tape_bytes v_tape_bytes, aJ cJ h_keys 22 v_keys] H := hP
    have hD : va_D A [oX6 h_this h_tape h_keys v_most u2_behind v_at u2_kind u2_number u2_word (-1) v_taken v_fault v_faultAt, oX10 h_tape h_tape_bytes v_tape_size, aB cB h_tape_bytes n_tape_bytes v_tape_bytes, aJ cJ h_keys 22 v_keys] := hD
    refine lv_goto (tgt := 259) hx hb dX6_step_191 (by decide) ?_
    have q0 := Option.some.inj hr
    obtain ⟨e0, q1⟩ := Prod.mk.inj q0
    obtain ⟨e1, q2⟩ := Prod.mk.inj q1
    obtain ⟨e2, q3⟩ := Prod.mk.inj q2
    obtain ⟨e3, q4⟩ := Prod.mk.inj q3
    obtain ⟨e4, q5⟩ := Prod.mk.inj q4
    subst e0; subst e1; subst e2; subst e3; subst e4; subst q5
    exact W.vret hx hb hrt (fun t ht hW => ⟨⟨(), rfl, trivial, by rw [ht]; exact hP, va_K.moved hW.alike hK, hD⟩, hS.F ht⟩) hS.2.2 dX6_step_259 hlocks
  · have hr := iteP hc hr
    refine lv_aload_n hx hb dX6_step_176 rfl (lv_at hl 0 rfl) ?_
    refine lv_aload_n hx hb dX6_step_177 rfl (lv_at hl 0 rfl) ?_
    refine va_get (D := (dC, dI)) (ci := 6) (v := .long u2_word) (C := RX6) (T := TX6) (N := 12) hx hb hts (fun w h => List.mem_cons_of_mem _ (inU_6 w h)) hown hK hP 0 rfl rfl 7 (by decide) (hts _ (List.mem_cons_of_mem _ U_336)) (fun _ h9 => h9) rfl dX6_step_178 ?_
    obtain ⟨r_3, ho, hr⟩ := bind_s hr
    have hPc := hP.sub (ws' := [oX6 h_this h_tape h_keys v_most u2_behind v_at u2_kind u2_number u2_word v_key v_taken v_fault v_faultAt, aJ cJ h_keys 22 v_keys]) [0, 3] rfl
    have hDc := hD.sub (ws' := [oX6 h_this h_tape h_keys v_most u2_behind v_at u2_kind u2_number u2_word v_key v_taken v_fault v_faultAt, aJ cJ h_keys 22 v_keys]) [0, 3] (by decide) rfl
    have hFc := va_free (wc := [oX6 h_this h_tape h_keys v_most u2_behind v_at u2_kind u2_number u2_word v_key v_taken v_fault v_faultAt, aJ cJ h_keys 22 v_keys]) hD hS hA [0, 3] rfl
    refine va_calli (va_runV (As := [.long u2_word]) (rest := [.ref h_this]) ⟨hx, hb, hml, hown, hts⟩ (mX6_keyOf l dC dI cI cJ cB cZ cF cG h_this h_keys h_tape H.size v_most u2_behind v_at u2_kind u2_number u2_word v_key v_taken v_fault v_faultAt v_keys u2_word r_3 ho) (cwV 1 hts (goodV U_347 U_348 U_349 U_20 U_350) rfl rfl rfl (by decide +kernel) ⟨Nat.le_trans (by decide) hR.1, Nat.le_trans (Nat.le_of_ble_eq_true rfl) hR.2⟩) ⟨fun a U g mk q => by obtain ⟨q0, q1, qP, qK, qD⟩ := q; exact ⟨q0, q1, qP, va_K.moved (u := U) (U := U.calling g mk a) (Vm.Alike.refl U.vm) qK, qD⟩, va_recv hK hPc (ci := 6) (q0 := 0) rfl rfl, fun U hU hW => ⟨rfl, by rw [hU], by rw [hU]; exact hPc, va_K.moved hW.alike hK, hDc.weaken (fun _ _ _ _ => trivial)⟩⟩ rfl rfl hl.1 rfl (lv_room (Nat.le_of_ble_eq_true rfl)) dX6_step_181 ⟨Nat.zero_le _, Nat.zero_le _⟩) hS (fun q _ h => hFc q h) hFc (fun rz u t H1 locs ht hvm hw hB hz1 hk1 hS => ?_)
    obtain ⟨hP1, hK1, hD1⟩ := hB
    have hw := hw.symm; subst hw
    rw [ht] at hP1
    obtain ⟨hP, hD⟩ := va_join (wr := [oX10 h_tape h_tape_bytes v_tape_size, aB cB h_tape_bytes n_tape_bytes v_tape_bytes]) (w1 := [oX6 h_this h_tape h_keys v_most u2_behind v_at u2_kind u2_number u2_word v_key v_taken v_fault v_faultAt, aJ cJ h_keys 22 v_keys]) hP hD [0, 3] [1, 2] rfl rfl (by decide) (by decide) hk1 hFc hP1 hD1
    generalize H1 = H at hP hS ⊢
    have hP := hP.sub (ws' := [oX6 h_this h_tape h_keys v_most u2_behind v_at u2_kind u2_number u2_word v_key v_taken v_fault v_faultAt, oX10 h_tape h_tape_bytes v_tape_size, aB cB h_tape_bytes n_tape_bytes v_tape_bytes, aJ cJ h_keys 22 v_keys]) [2, 0, 1, 3] rfl
    have hD := hD.sub (ws' := [oX6 h_this h_tape h_keys v_most u2_behind v_at u2_kind u2_number u2_word v_key v_taken v_fault v_faultAt, oX10 h_tape h_tape_bytes v_tape_size, aB cB h_tape_bytes n_tape_bytes v_tape_bytes, aJ cJ h_keys 22 v_keys]) [2, 0, 1, 3] (by decide) rfl
    refine lv_goto (tgt := 188) hx hb dX6_step_184 (by decide) ?_
    refine z_pc (pc' := 188) rfl ?_
    refine va_put (D := (dC, dI)) (ci := 6) (v := .int r_3) (ty := .int) (C := RX6) (T := TX6) (N := 12) hx hb hts (fun w h => List.mem_cons_of_mem _ (inU_6 w h)) tyX6 tyX6_ok nmX6 hown hK hP hD hS 0 rfl rfl 8 (by decide) (hts _ (List.mem_cons_of_mem _ U_334)) (fun _ h9 => h9) rfl (by decide +kernel) rfl rfl (Nat.le_of_ble_eq_true rfl) dX6_step_188 (fun H locs hP hD hS => ?_)
    have hP : va_P (dC, dI) vwCl [oX6 h_this h_tape h_keys v_most u2_behind v_at u2_kind u2_number u2_word r_3 v_taken v_fault v_faultAt, oX10 h_tape h_tape_bytes v_tape_size, aB cB h_tape_bytes n_tape_bytes v_tape_bytes, aJ cJ h_keys 22 v_keys] H := hP
    have hD : va_D A [oX6 h_this h_tape h_keys v_most u2_behind v_at u2_kind u2_number u2_word r_3 v_taken v_fault v_faultAt, oX10 h_tape h_tape_bytes v_tape_size, aB cB h_tape_bytes n_tape_bytes v_tape_bytes, aJ cJ h_keys 22 v_keys] := hD
    refine lv_goto (tgt := 259) hx hb dX6_step_191 (by decide) ?_
    have q0 := Option.some.inj hr
    obtain ⟨e0, q1⟩ := Prod.mk.inj q0
    obtain ⟨e1, q2⟩ := Prod.mk.inj q1
    obtain ⟨e2, q3⟩ := Prod.mk.inj q2
    obtain ⟨e3, q4⟩ := Prod.mk.inj q3
    obtain ⟨e4, q5⟩ := Prod.mk.inj q4
    subst e0; subst e1; subst e2; subst e3; subst e4; subst q5
    exact W.vret hx hb hrt (fun t ht hW => ⟨⟨(), rfl, trivial, by rw [ht]; exact hP, va_K.moved hW.alike hK, hD⟩, hS.F ht⟩) hS.2.2 dX6_step_259 hlocks
set_option maxHeartbeats 4000000 in
set_option maxRecDepth 100000 in
theorem tX6_step_235 {p : Program} {l : Launch} {e : Env} {R : Room} {s : State} {m : MethodId} {args : Array Value} {below : List Frame} {meth : Method} {c : Code} {dC : Nat → ClassId} {dI : Nat → Nat → Nat} {cI cJ cB cZ cF cG : ClassId} {A : Nat → Prop} (hA : ∀ q : Nat, s.heap.size ≤ q → A q) (C0 : Cx p s m meth c args cX6_step 3 none RX6 uX6_step) (hR : 1 ≤ R.frames ∧ 60 ≤ R.locals) (h_this : Nat) (h_tape : Nat) (h_tape_bytes : Nat) (h_keys : Nat) (n_tape_bytes : Nat) (v_most : Int32) (v_taken : Int32) (v_fault : Int32) (v_faultAt : Int32) (v_tape_size : Int32) (v_tape_bytes : Nat → Int32) (v_keys : Nat → Int64) (o_behind : Int32) (o_at : Int32) (o_kind : Int32) (o_number : Int32) (o_word : Int64) (o_key : Int32) :
    ∀ (v_behind : Int32) (v_at : Int32) (v_kind : Int32) (v_number : Int32) (v_word : Int64) (v_key : Int32) (x1 : Int32) (y0 : Int32), bX6_step_235 n_tape_bytes v_most v_tape_size v_tape_bytes v_keys v_behind v_at v_kind v_number v_word v_key x1 y0 = some (o_behind, o_at, o_kind, o_number, o_word, o_key) → ∀ (H : Heap) (locs : List Loc), Wd dC dI cI cJ cB cZ cF cG A s H locs [oX6 h_this h_tape h_keys v_most v_behind v_at v_kind v_number v_word v_key v_taken v_fault v_faultAt, oX10 h_tape h_tape_bytes v_tape_size, aB cB h_tape_bytes n_tape_bytes v_tape_bytes, aJ cJ h_keys 22 v_keys] → ∀ (ls : Array Slot), lv_has ls 3 [(0, .ref h_this), (1, .int x1)] → W p l e R s m args below meth c H locs 0 0 (MQ below (PQv dC dI cI cJ cB cZ cF cG A [oX6 h_this h_tape h_keys v_most o_behind o_at o_kind o_number o_word o_key v_taken v_fault v_faultAt, oX10 h_tape h_tape_bytes v_tape_size, aB cB h_tape_bytes n_tape_bytes v_tape_bytes, aJ cJ h_keys 22 v_keys]) args s 0 0 A) (F0 m 235 ls [.int y0]) := by
  obtain ⟨hx, hb, hrt, hml, hown, hts, hlocks⟩ := id C0
  intro v_behind v_at v_kind v_number v_word v_key x1 y0 hr H locs hW ls hl
  obtain ⟨hK, hP, hD, hS⟩ := hW
  have hr : (if y0 = 0 then some ((v_behind + 1), v_at, 1, v_number, v_word, v_key) else some ((v_behind + 1), v_at, x1, v_number, v_word, v_key) : Option (Int32 × Int32 × Int32 × Int32 × Int64 × Int32)) = some (o_behind, o_at, o_kind, o_number, o_word, o_key) := hr
  refine lv_istore_n (lv' := [(2, .int y0), (0, .ref h_this), (1, .int x1)]) hx hb dX6_step_235 rfl hl (by decide) rfl (fun ls hl => ?_)
  refine lv_aload_n hx hb dX6_step_236 rfl (lv_at hl 1 rfl) ?_
  refine lv_iload_n hx hb dX6_step_237 rfl (lv_at hl 0 rfl) ?_
  refine lv_if_eq (tgt := 245) hx hb dX6_step_238 (by decide) (fun hc => ?_) (fun hc => ?_)
  · have hr := iteP hc hr
    refine lv_iconst (v := 1) hx hb dX6_step_245 (by decide) ?_
    refine va_put (D := (dC, dI)) (ci := 6) (v := .int 1) (ty := .int) (C := RX6) (T := TX6) (N := 12) hx hb hts (fun w h => List.mem_cons_of_mem _ (inU_6 w h)) tyX6 tyX6_ok nmX6 hown hK hP hD hS 0 rfl rfl 5 (by decide) (hts _ (List.mem_cons_of_mem _ U_335)) (fun _ h9 => h9) rfl (by decide +kernel) rfl rfl (Nat.le_of_ble_eq_true rfl) dX6_step_246 (fun H locs hP hD hS => ?_)
    have hP : va_P (dC, dI) vwCl [oX6 h_this h_tape h_keys v_most v_behind v_at 1 v_number v_word v_key v_taken v_fault v_faultAt, oX10 h_tape h_tape_bytes v_tape_size, aB cB h_tape_bytes n_tape_bytes v_tape_bytes, aJ cJ h_keys 22 v_keys] H := hP
    have hD : va_D A [oX6 h_this h_tape h_keys v_most v_behind v_at 1 v_number v_word v_key v_taken v_fault v_faultAt, oX10 h_tape h_tape_bytes v_tape_size, aB cB h_tape_bytes n_tape_bytes v_tape_bytes, aJ cJ h_keys 22 v_keys] := hD
    refine lv_aload_n hx hb dX6_step_249 rfl (lv_at hl 1 rfl) ?_
    refine lv_dup hx hb dX6_step_250 rfl ?_
    refine va_get (D := (dC, dI)) (ci := 6) (v := .int v_behind) (C := RX6) (T := TX6) (N := 12) hx hb hts (fun w h => List.mem_cons_of_mem _ (inU_6 w h)) hown hK hP 0 rfl rfl 3 (by decide) (hts _ (List.mem_cons_of_mem _ U_322)) (fun _ h9 => h9) rfl dX6_step_251 ?_
    refine z_pc (pc' := 254) rfl ?_
    refine lv_iconst (v := 1) hx hb dX6_step_254 (by decide) ?_
    refine lv_iadd hx hb dX6_step_255 ?_
    refine va_put (D := (dC, dI)) (ci := 6) (v := .int (v_behind + 1)) (ty := .int) (C := RX6) (T := TX6) (N := 12) hx hb hts (fun w h => List.mem_cons_of_mem _ (inU_6 w h)) tyX6 tyX6_ok nmX6 hown hK hP hD hS 0 rfl rfl 3 (by decide) (hts _ (List.mem_cons_of_mem _ U_322)) (fun _ h9 => h9) rfl (by decide +kernel) rfl rfl (Nat.le_of_ble_eq_true rfl) dX6_step_256 (fun H locs hP hD hS => ?_)
    have hP : va_P (dC, dI) vwCl [oX6 h_this h_tape h_keys v_most (v_behind + 1) v_at 1 v_number v_word v_key v_taken v_fault v_faultAt, oX10 h_tape h_tape_bytes v_tape_size, aB cB h_tape_bytes n_tape_bytes v_tape_bytes, aJ cJ h_keys 22 v_keys] H := hP
    have hD : va_D A [oX6 h_this h_tape h_keys v_most (v_behind + 1) v_at 1 v_number v_word v_key v_taken v_fault v_faultAt, oX10 h_tape h_tape_bytes v_tape_size, aB cB h_tape_bytes n_tape_bytes v_tape_bytes, aJ cJ h_keys 22 v_keys] := hD
    have q0 := Option.some.inj hr
    obtain ⟨e0, q1⟩ := Prod.mk.inj q0
    obtain ⟨e1, q2⟩ := Prod.mk.inj q1
    obtain ⟨e2, q3⟩ := Prod.mk.inj q2
    obtain ⟨e3, q4⟩ := Prod.mk.inj q3
    obtain ⟨e4, q5⟩ := Prod.mk.inj q4
    subst e0; subst e1; subst e2; subst e3; subst e4; subst q5
    exact W.vret hx hb hrt (fun t ht hW => ⟨⟨(), rfl, trivial, by rw [ht]; exact hP, va_K.moved hW.alike hK, hD⟩, hS.F ht⟩) hS.2.2 dX6_step_259 hlocks
  · have hr := iteN hc hr
    refine lv_iload_n hx hb dX6_step_241 rfl (lv_at hl 2 rfl) ?_
    refine lv_goto (tgt := 246) hx hb dX6_step_242 (by decide) ?_
    refine va_put (D := (dC, dI)) (ci := 6) (v := .int x1) (ty := .int) (C := RX6) (T := TX6) (N := 12) hx hb hts (fun w h => List.mem_cons_of_mem _ (inU_6 w h)) tyX6 tyX6_ok nmX6 hown hK hP hD hS 0 rfl rfl 5 (by decide) (hts _ (List.mem_cons_of_mem _ U_335)) (fun _ h9 => h9) rfl (by decide +kernel) rfl rfl (Nat.le_of_ble_eq_true rfl) dX6_step_246 (fun H locs hP hD hS => ?_)
    have hP : va_P (dC, dI) vwCl [oX6 h_this h_tape h_keys v_most v_behind v_at x1 v_number v_word v_key v_taken v_fault v_faultAt, oX10 h_tape h_tape_bytes v_tape_size, aB cB h_tape_bytes n_tape_bytes v_tape_bytes, aJ cJ h_keys 22 v_keys] H := hP
    have hD : va_D A [oX6 h_this h_tape h_keys v_most v_behind v_at x1 v_number v_word v_key v_taken v_fault v_faultAt, oX10 h_tape h_tape_bytes v_tape_size, aB cB h_tape_bytes n_tape_bytes v_tape_bytes, aJ cJ h_keys 22 v_keys] := hD
    refine lv_aload_n hx hb dX6_step_249 rfl (lv_at hl 1 rfl) ?_
    refine lv_dup hx hb dX6_step_250 rfl ?_
    refine z_pc (pc' := 251) rfl ?_
    refine va_get (D := (dC, dI)) (ci := 6) (v := .int v_behind) (C := RX6) (T := TX6) (N := 12) hx hb hts (fun w h => List.mem_cons_of_mem _ (inU_6 w h)) hown hK hP 0 rfl rfl 3 (by decide) (hts _ (List.mem_cons_of_mem _ U_322)) (fun _ h9 => h9) rfl dX6_step_251 ?_
    refine lv_iconst (v := 1) hx hb dX6_step_254 (by decide) ?_
    refine lv_iadd hx hb dX6_step_255 ?_
    refine va_put (D := (dC, dI)) (ci := 6) (v := .int (v_behind + 1)) (ty := .int) (C := RX6) (T := TX6) (N := 12) hx hb hts (fun w h => List.mem_cons_of_mem _ (inU_6 w h)) tyX6 tyX6_ok nmX6 hown hK hP hD hS 0 rfl rfl 3 (by decide) (hts _ (List.mem_cons_of_mem _ U_322)) (fun _ h9 => h9) rfl (by decide +kernel) rfl rfl (Nat.le_of_ble_eq_true rfl) dX6_step_256 (fun H locs hP hD hS => ?_)
    have hP : va_P (dC, dI) vwCl [oX6 h_this h_tape h_keys v_most (v_behind + 1) v_at x1 v_number v_word v_key v_taken v_fault v_faultAt, oX10 h_tape h_tape_bytes v_tape_size, aB cB h_tape_bytes n_tape_bytes v_tape_bytes, aJ cJ h_keys 22 v_keys] H := hP
    have hD : va_D A [oX6 h_this h_tape h_keys v_most (v_behind + 1) v_at x1 v_number v_word v_key v_taken v_fault v_faultAt, oX10 h_tape h_tape_bytes v_tape_size, aB cB h_tape_bytes n_tape_bytes v_tape_bytes, aJ cJ h_keys 22 v_keys] := hD
    have q0 := Option.some.inj hr
    obtain ⟨e0, q1⟩ := Prod.mk.inj q0
    obtain ⟨e1, q2⟩ := Prod.mk.inj q1
    obtain ⟨e2, q3⟩ := Prod.mk.inj q2
    obtain ⟨e3, q4⟩ := Prod.mk.inj q3
    obtain ⟨e4, q5⟩ := Prod.mk.inj q4
    subst e0; subst e1; subst e2; subst e3; subst e4; subst q5
    exact W.vret hx hb hrt (fun t ht hW => ⟨⟨(), rfl, trivial, by rw [ht]; exact hP, va_K.moved hW.alike hK, hD⟩, hS.F ht⟩) hS.2.2 dX6_step_259 hlocks
set_option maxHeartbeats 4000000 in
set_option maxRecDepth 100000 in
theorem tX6_step_194 {p : Program} {l : Launch} {e : Env} {R : Room} {s : State} {m : MethodId} {args : Array Value} {below : List Frame} {meth : Method} {c : Code} {dC : Nat → ClassId} {dI : Nat → Nat → Nat} {cI cJ cB cZ cF cG : ClassId} {A : Nat → Prop} (hA : ∀ q : Nat, s.heap.size ≤ q → A q) (C0 : Cx p s m meth c args cX6_step 3 none RX6 uX6_step) (hR : 1 ≤ R.frames ∧ 60 ≤ R.locals) (h_this : Nat) (h_tape : Nat) (h_tape_bytes : Nat) (h_keys : Nat) (n_tape_bytes : Nat) (v_most : Int32) (v_taken : Int32) (v_fault : Int32) (v_faultAt : Int32) (v_tape_size : Int32) (v_tape_bytes : Nat → Int32) (v_keys : Nat → Int64) (o_behind : Int32) (o_at : Int32) (o_kind : Int32) (o_number : Int32) (o_word : Int64) (o_key : Int32) :
    ∀ (v_behind : Int32) (v_at : Int32) (v_kind : Int32) (v_number : Int32) (v_word : Int64) (v_key : Int32) (x1 : Int32), bX6_step_194 n_tape_bytes v_most v_tape_size v_tape_bytes v_keys v_behind v_at v_kind v_number v_word v_key x1 = some (o_behind, o_at, o_kind, o_number, o_word, o_key) → ∀ (H : Heap) (locs : List Loc), Wd dC dI cI cJ cB cZ cF cG A s H locs [oX6 h_this h_tape h_keys v_most v_behind v_at v_kind v_number v_word v_key v_taken v_fault v_faultAt, oX10 h_tape h_tape_bytes v_tape_size, aB cB h_tape_bytes n_tape_bytes v_tape_bytes, aJ cJ h_keys 22 v_keys] → ∀ (ls : Array Slot), lv_has ls 3 [(0, .ref h_this), (1, .int x1)] → W p l e R s m args below meth c H locs 0 0 (MQ below (PQv dC dI cI cJ cB cZ cF cG A [oX6 h_this h_tape h_keys v_most o_behind o_at o_kind o_number o_word o_key v_taken v_fault v_faultAt, oX10 h_tape h_tape_bytes v_tape_size, aB cB h_tape_bytes n_tape_bytes v_tape_bytes, aJ cJ h_keys 22 v_keys]) args s 0 0 A) (F0 m 194 ls []) := by
  obtain ⟨hx, hb, hrt, hml, hown, hts, hlocks⟩ := id C0
  intro v_behind v_at v_kind v_number v_word v_key x1 hr H locs hW ls hl
  obtain ⟨hK, hP, hD, hS⟩ := hW
  have hr : (if x1 = 59 then bX6_step_235 n_tape_bytes v_most v_tape_size v_tape_bytes v_keys v_behind v_at v_kind v_number v_word v_key x1 1 else if x1 = 60 then bX6_step_235 n_tape_bytes v_most v_tape_size v_tape_bytes v_keys v_behind v_at v_kind v_number v_word v_key x1 1 else if x1 = 61 then bX6_step_235 n_tape_bytes v_most v_tape_size v_tape_bytes v_keys v_behind v_at v_kind v_number v_word v_key x1 1 else if x1 = 62 then bX6_step_235 n_tape_bytes v_most v_tape_size v_tape_bytes v_keys v_behind v_at v_kind v_number v_word v_key x1 1 else if x1 = 40 then bX6_step_235 n_tape_bytes v_most v_tape_size v_tape_bytes v_keys v_behind v_at v_kind v_number v_word v_key x1 1 else if x1 = 41 then bX6_step_235 n_tape_bytes v_most v_tape_size v_tape_bytes v_keys v_behind v_at v_kind v_number v_word v_key x1 1 else bX6_step_235 n_tape_bytes v_most v_tape_size v_tape_bytes v_keys v_behind v_at v_kind v_number v_word v_key x1 0 : Option (Int32 × Int32 × Int32 × Int32 × Int64 × Int32)) = some (o_behind, o_at, o_kind, o_number, o_word, o_key) := hr
  refine lv_iload_n hx hb dX6_step_194 rfl (lv_at hl 1 rfl) ?_
  refine lv_bipush (v := 59) hx hb dX6_step_195 (by decide) ?_
  refine lv_icmp_eq (tgt := 230) hx hb dX6_step_197 (by decide) (fun hc => ?_) (fun hc => ?_)
  · have hr := iteP hc hr
    refine lv_iconst (v := 1) hx hb dX6_step_230 (by decide) ?_
    refine lv_goto (tgt := 235) hx hb dX6_step_231 (by decide) ?_
    exact tX6_step_235 hA C0 hR h_this h_tape h_tape_bytes h_keys n_tape_bytes v_most v_taken v_fault v_faultAt v_tape_size v_tape_bytes v_keys o_behind o_at o_kind o_number o_word o_key v_behind v_at v_kind v_number v_word v_key x1 1 hr _ _ ⟨hK, hP, hD, hS⟩ ls (lv_sub hl [0, 1] rfl)
  · have hr := iteN hc hr
    refine lv_iload_n hx hb dX6_step_200 rfl (lv_at hl 1 rfl) ?_
    refine lv_bipush (v := 60) hx hb dX6_step_201 (by decide) ?_
    refine lv_icmp_eq (tgt := 230) hx hb dX6_step_203 (by decide) (fun hc => ?_) (fun hc => ?_)
    · have hr := iteP hc hr
      refine lv_iconst (v := 1) hx hb dX6_step_230 (by decide) ?_
      refine lv_goto (tgt := 235) hx hb dX6_step_231 (by decide) ?_
      exact tX6_step_235 hA C0 hR h_this h_tape h_tape_bytes h_keys n_tape_bytes v_most v_taken v_fault v_faultAt v_tape_size v_tape_bytes v_keys o_behind o_at o_kind o_number o_word o_key v_behind v_at v_kind v_number v_word v_key x1 1 hr _ _ ⟨hK, hP, hD, hS⟩ ls (lv_sub hl [0, 1] rfl)
    · have hr := iteN hc hr
      refine lv_iload_n hx hb dX6_step_206 rfl (lv_at hl 1 rfl) ?_
      refine lv_bipush (v := 61) hx hb dX6_step_207 (by decide) ?_
      refine lv_icmp_eq (tgt := 230) hx hb dX6_step_209 (by decide) (fun hc => ?_) (fun hc => ?_)
      · have hr := iteP hc hr
        refine lv_iconst (v := 1) hx hb dX6_step_230 (by decide) ?_
        refine lv_goto (tgt := 235) hx hb dX6_step_231 (by decide) ?_
        exact tX6_step_235 hA C0 hR h_this h_tape h_tape_bytes h_keys n_tape_bytes v_most v_taken v_fault v_faultAt v_tape_size v_tape_bytes v_keys o_behind o_at o_kind o_number o_word o_key v_behind v_at v_kind v_number v_word v_key x1 1 hr _ _ ⟨hK, hP, hD, hS⟩ ls (lv_sub hl [0, 1] rfl)
      · have hr := iteN hc hr
        refine lv_iload_n hx hb dX6_step_212 rfl (lv_at hl 1 rfl) ?_
        refine lv_bipush (v := 62) hx hb dX6_step_213 (by decide) ?_
        refine lv_icmp_eq (tgt := 230) hx hb dX6_step_215 (by decide) (fun hc => ?_) (fun hc => ?_)
        · have hr := iteP hc hr
          refine lv_iconst (v := 1) hx hb dX6_step_230 (by decide) ?_
          refine lv_goto (tgt := 235) hx hb dX6_step_231 (by decide) ?_
          exact tX6_step_235 hA C0 hR h_this h_tape h_tape_bytes h_keys n_tape_bytes v_most v_taken v_fault v_faultAt v_tape_size v_tape_bytes v_keys o_behind o_at o_kind o_number o_word o_key v_behind v_at v_kind v_number v_word v_key x1 1 hr _ _ ⟨hK, hP, hD, hS⟩ ls (lv_sub hl [0, 1] rfl)
        · have hr := iteN hc hr
          refine lv_iload_n hx hb dX6_step_218 rfl (lv_at hl 1 rfl) ?_
          refine lv_bipush (v := 40) hx hb dX6_step_219 (by decide) ?_
          refine lv_icmp_eq (tgt := 230) hx hb dX6_step_221 (by decide) (fun hc => ?_) (fun hc => ?_)
          · have hr := iteP hc hr
            refine lv_iconst (v := 1) hx hb dX6_step_230 (by decide) ?_
            refine lv_goto (tgt := 235) hx hb dX6_step_231 (by decide) ?_
            exact tX6_step_235 hA C0 hR h_this h_tape h_tape_bytes h_keys n_tape_bytes v_most v_taken v_fault v_faultAt v_tape_size v_tape_bytes v_keys o_behind o_at o_kind o_number o_word o_key v_behind v_at v_kind v_number v_word v_key x1 1 hr _ _ ⟨hK, hP, hD, hS⟩ ls (lv_sub hl [0, 1] rfl)
          · have hr := iteN hc hr
            refine lv_iload_n hx hb dX6_step_224 rfl (lv_at hl 1 rfl) ?_
            refine lv_bipush (v := 41) hx hb dX6_step_225 (by decide) ?_
            refine lv_icmp_ne (tgt := 234) hx hb dX6_step_227 (by decide) (fun hc => ?_) (fun hc => ?_)
            · have hr := iteN hc hr
              refine lv_iconst (v := 0) hx hb dX6_step_234 (by decide) ?_
              exact tX6_step_235 hA C0 hR h_this h_tape h_tape_bytes h_keys n_tape_bytes v_most v_taken v_fault v_faultAt v_tape_size v_tape_bytes v_keys o_behind o_at o_kind o_number o_word o_key v_behind v_at v_kind v_number v_word v_key x1 0 hr _ _ ⟨hK, hP, hD, hS⟩ ls (lv_sub hl [0, 1] rfl)
            · have hr := iteP hc hr
              refine lv_iconst (v := 1) hx hb dX6_step_230 (by decide) ?_
              refine lv_goto (tgt := 235) hx hb dX6_step_231 (by decide) ?_
              exact tX6_step_235 hA C0 hR h_this h_tape h_tape_bytes h_keys n_tape_bytes v_most v_taken v_fault v_faultAt v_tape_size v_tape_bytes v_keys o_behind o_at o_kind o_number o_word o_key v_behind v_at v_kind v_number v_word v_key x1 1 hr _ _ ⟨hK, hP, hD, hS⟩ ls (lv_sub hl [0, 1] rfl)
set_option maxHeartbeats 4000000 in
set_option maxRecDepth 100000 in
theorem tX6_step_116 {p : Program} {l : Launch} {e : Env} {R : Room} {s : State} {m : MethodId} {args : Array Value} {below : List Frame} {meth : Method} {c : Code} {dC : Nat → ClassId} {dI : Nat → Nat → Nat} {cI cJ cB cZ cF cG : ClassId} {A : Nat → Prop} (hA : ∀ q : Nat, s.heap.size ≤ q → A q) (C0 : Cx p s m meth c args cX6_step 3 none RX6 uX6_step) (hR : 1 ≤ R.frames ∧ 60 ≤ R.locals) (h_this : Nat) (h_tape : Nat) (h_tape_bytes : Nat) (h_keys : Nat) (n_tape_bytes : Nat) (v_most : Int32) (v_taken : Int32) (v_fault : Int32) (v_faultAt : Int32) (v_tape_size : Int32) (v_tape_bytes : Nat → Int32) (v_keys : Nat → Int64) (o_behind : Int32) (o_at : Int32) (o_kind : Int32) (o_number : Int32) (o_word : Int64) (o_key : Int32) :
    ∀ (v_behind : Int32) (v_at : Int32) (v_kind : Int32) (v_number : Int32) (v_word : Int64) (v_key : Int32) (x1 : Int32), bX6_step_116 n_tape_bytes v_most v_tape_size v_tape_bytes v_keys v_behind v_at v_kind v_number v_word v_key x1 = some (o_behind, o_at, o_kind, o_number, o_word, o_key) → ∀ (H : Heap) (locs : List Loc), Wd dC dI cI cJ cB cZ cF cG A s H locs [oX6 h_this h_tape h_keys v_most v_behind v_at v_kind v_number v_word v_key v_taken v_fault v_faultAt, oX10 h_tape h_tape_bytes v_tape_size, aB cB h_tape_bytes n_tape_bytes v_tape_bytes, aJ cJ h_keys 22 v_keys] → ∀ (ls : Array Slot), lv_has ls 3 [(0, .ref h_this), (1, .int x1)] → W p l e R s m args below meth c H locs 0 0 (MQ below (PQv dC dI cI cJ cB cZ cF cG A [oX6 h_this h_tape h_keys v_most o_behind o_at o_kind o_number o_word o_key v_taken v_fault v_faultAt, oX10 h_tape h_tape_bytes v_tape_size, aB cB h_tape_bytes n_tape_bytes v_tape_bytes, aJ cJ h_keys 22 v_keys]) args s 0 0 A) (F0 m 116 ls []) := by
  obtain ⟨hx, hb, hrt, hml, hown, hts, hlocks⟩ := id C0
  intro v_behind v_at v_kind v_number v_word v_key x1 hr H locs hW ls hl
  obtain ⟨hK, hP, hD, hS⟩ := hW
  have hr : (if v_behind < v_tape_size then if x1 < 97 then if x1 < 48 then bX6_step_194 n_tape_bytes v_most v_tape_size v_tape_bytes v_keys v_behind v_at v_kind v_number v_word v_key x1 else if 57 < x1 then bX6_step_194 n_tape_bytes v_most v_tape_size v_tape_bytes v_keys v_behind v_at v_kind v_number v_word v_key x1 else bX6_step_162 n_tape_bytes v_most v_tape_size v_tape_bytes v_keys v_behind v_at v_kind v_number v_word v_key else if x1 ≤ 122 then bX6_step_162 n_tape_bytes v_most v_tape_size v_tape_bytes v_keys v_behind v_at v_kind v_number v_word v_key else if x1 < 48 then bX6_step_194 n_tape_bytes v_most v_tape_size v_tape_bytes v_keys v_behind v_at v_kind v_number v_word v_key x1 else if 57 < x1 then bX6_step_194 n_tape_bytes v_most v_tape_size v_tape_bytes v_keys v_behind v_at v_kind v_number v_word v_key x1 else bX6_step_162 n_tape_bytes v_most v_tape_size v_tape_bytes v_keys v_behind v_at v_kind v_number v_word v_key else some (v_behind, v_at, 0, v_number, v_word, v_key) : Option (Int32 × Int32 × Int32 × Int32 × Int64 × Int32)) = some (o_behind, o_at, o_kind, o_number, o_word, o_key) := hr
  refine lv_aload_n hx hb dX6_step_116 rfl (lv_at hl 0 rfl) ?_
  refine va_get (D := (dC, dI)) (ci := 6) (v := .int v_behind) (C := RX6) (T := TX6) (N := 12) hx hb hts (fun w h => List.mem_cons_of_mem _ (inU_6 w h)) hown hK hP 0 rfl rfl 3 (by decide) (hts _ (List.mem_cons_of_mem _ U_322)) (fun _ h9 => h9) rfl dX6_step_117 ?_
  refine lv_aload_n hx hb dX6_step_120 rfl (lv_at hl 0 rfl) ?_
  refine va_get (D := (dC, dI)) (ci := 6) (v := .ref h_tape) (C := RX6) (T := TX6) (N := 12) hx hb hts (fun w h => List.mem_cons_of_mem _ (inU_6 w h)) hown hK hP 0 rfl rfl 0 (by decide) (hts _ (List.mem_cons_of_mem _ U_73)) (fun _ h9 => h9) rfl dX6_step_121 ?_
  refine va_get (D := (dC, dI)) (ci := 10) (v := .int v_tape_size) (C := RX10) (T := TX10) (N := 2) hx hb hts (fun w h => List.mem_cons_of_mem _ (inU_10 w h)) hown hK hP 1 rfl rfl 1 (by decide) (hts _ (List.mem_cons_of_mem _ U_329)) (fun _ h9 => h9) rfl dX6_step_124 ?_
  refine z_pc (pc' := 127) rfl ?_
  refine lv_icmp_lt (tgt := 138) hx hb dX6_step_127 (by decide) (fun hc => ?_) (fun hc => ?_)
  · have hr := iteP hc hr
    refine lv_iload_n hx hb dX6_step_138 rfl (lv_at hl 1 rfl) ?_
    refine lv_bipush (v := 97) hx hb dX6_step_139 (by decide) ?_
    refine lv_icmp_lt (tgt := 150) hx hb dX6_step_141 (by decide) (fun hc => ?_) (fun hc => ?_)
    · have hr := iteP hc hr
      refine lv_iload_n hx hb dX6_step_150 rfl (lv_at hl 1 rfl) ?_
      refine lv_bipush (v := 48) hx hb dX6_step_151 (by decide) ?_
      refine lv_icmp_lt (tgt := 194) hx hb dX6_step_153 (by decide) (fun hc => ?_) (fun hc => ?_)
      · have hr := iteP hc hr
        exact tX6_step_194 hA C0 hR h_this h_tape h_tape_bytes h_keys n_tape_bytes v_most v_taken v_fault v_faultAt v_tape_size v_tape_bytes v_keys o_behind o_at o_kind o_number o_word o_key v_behind v_at v_kind v_number v_word v_key x1 hr _ _ ⟨hK, hP, hD, hS⟩ ls (lv_sub hl [0, 1] rfl)
      · have hr := iteN hc hr
        refine lv_iload_n hx hb dX6_step_156 rfl (lv_at hl 1 rfl) ?_
        refine lv_bipush (v := 57) hx hb dX6_step_157 (by decide) ?_
        refine lv_icmp_gt (tgt := 194) hx hb dX6_step_159 (by decide) (fun hc => ?_) (fun hc => ?_)
        · have hr := iteP hc hr
          exact tX6_step_194 hA C0 hR h_this h_tape h_tape_bytes h_keys n_tape_bytes v_most v_taken v_fault v_faultAt v_tape_size v_tape_bytes v_keys o_behind o_at o_kind o_number o_word o_key v_behind v_at v_kind v_number v_word v_key x1 hr _ _ ⟨hK, hP, hD, hS⟩ ls (lv_sub hl [0, 1] rfl)
        · have hr := iteN hc hr
          exact tX6_step_162 hA C0 hR h_this h_tape h_tape_bytes h_keys n_tape_bytes v_most v_taken v_fault v_faultAt v_tape_size v_tape_bytes v_keys o_behind o_at o_kind o_number o_word o_key v_behind v_at v_kind v_number v_word v_key hr _ _ ⟨hK, hP, hD, hS⟩ ls (lv_sub hl [0] rfl)
    · have hr := iteN hc hr
      refine lv_iload_n hx hb dX6_step_144 rfl (lv_at hl 1 rfl) ?_
      refine lv_bipush (v := 122) hx hb dX6_step_145 (by decide) ?_
      refine lv_icmp_le (tgt := 162) hx hb dX6_step_147 (by decide) (fun hc => ?_) (fun hc => ?_)
      · have hr := iteP hc hr
        exact tX6_step_162 hA C0 hR h_this h_tape h_tape_bytes h_keys n_tape_bytes v_most v_taken v_fault v_faultAt v_tape_size v_tape_bytes v_keys o_behind o_at o_kind o_number o_word o_key v_behind v_at v_kind v_number v_word v_key hr _ _ ⟨hK, hP, hD, hS⟩ ls (lv_sub hl [0] rfl)
      · have hr := iteN hc hr
        refine lv_iload_n hx hb dX6_step_150 rfl (lv_at hl 1 rfl) ?_
        refine lv_bipush (v := 48) hx hb dX6_step_151 (by decide) ?_
        refine lv_icmp_lt (tgt := 194) hx hb dX6_step_153 (by decide) (fun hc => ?_) (fun hc => ?_)
        · have hr := iteP hc hr
          exact tX6_step_194 hA C0 hR h_this h_tape h_tape_bytes h_keys n_tape_bytes v_most v_taken v_fault v_faultAt v_tape_size v_tape_bytes v_keys o_behind o_at o_kind o_number o_word o_key v_behind v_at v_kind v_number v_word v_key x1 hr _ _ ⟨hK, hP, hD, hS⟩ ls (lv_sub hl [0, 1] rfl)
        · have hr := iteN hc hr
          refine lv_iload_n hx hb dX6_step_156 rfl (lv_at hl 1 rfl) ?_
          refine lv_bipush (v := 57) hx hb dX6_step_157 (by decide) ?_
          refine lv_icmp_gt (tgt := 194) hx hb dX6_step_159 (by decide) (fun hc => ?_) (fun hc => ?_)
          · have hr := iteP hc hr
            exact tX6_step_194 hA C0 hR h_this h_tape h_tape_bytes h_keys n_tape_bytes v_most v_taken v_fault v_faultAt v_tape_size v_tape_bytes v_keys o_behind o_at o_kind o_number o_word o_key v_behind v_at v_kind v_number v_word v_key x1 hr _ _ ⟨hK, hP, hD, hS⟩ ls (lv_sub hl [0, 1] rfl)
          · have hr := iteN hc hr
            exact tX6_step_162 hA C0 hR h_this h_tape h_tape_bytes h_keys n_tape_bytes v_most v_taken v_fault v_faultAt v_tape_size v_tape_bytes v_keys o_behind o_at o_kind o_number o_word o_key v_behind v_at v_kind v_number v_word v_key hr _ _ ⟨hK, hP, hD, hS⟩ ls (lv_sub hl [0] rfl)
  · have hr := iteN hc hr
    refine lv_aload_n hx hb dX6_step_130 rfl (lv_at hl 0 rfl) ?_
    refine lv_iconst (v := 0) hx hb dX6_step_131 (by decide) ?_
    refine va_put (D := (dC, dI)) (ci := 6) (v := .int 0) (ty := .int) (C := RX6) (T := TX6) (N := 12) hx hb hts (fun w h => List.mem_cons_of_mem _ (inU_6 w h)) tyX6 tyX6_ok nmX6 hown hK hP hD hS 0 rfl rfl 5 (by decide) (hts _ (List.mem_cons_of_mem _ U_335)) (fun _ h9 => h9) rfl (by decide +kernel) rfl rfl (Nat.le_of_ble_eq_true rfl) dX6_step_132 (fun H locs hP hD hS => ?_)
    have hP : va_P (dC, dI) vwCl [oX6 h_this h_tape h_keys v_most v_behind v_at 0 v_number v_word v_key v_taken v_fault v_faultAt, oX10 h_tape h_tape_bytes v_tape_size, aB cB h_tape_bytes n_tape_bytes v_tape_bytes, aJ cJ h_keys 22 v_keys] H := hP
    have hD : va_D A [oX6 h_this h_tape h_keys v_most v_behind v_at 0 v_number v_word v_key v_taken v_fault v_faultAt, oX10 h_tape h_tape_bytes v_tape_size, aB cB h_tape_bytes n_tape_bytes v_tape_bytes, aJ cJ h_keys 22 v_keys] := hD
    refine lv_goto (tgt := 259) hx hb dX6_step_135 (by decide) ?_
    have q0 := Option.some.inj hr
    obtain ⟨e0, q1⟩ := Prod.mk.inj q0
    obtain ⟨e1, q2⟩ := Prod.mk.inj q1
    obtain ⟨e2, q3⟩ := Prod.mk.inj q2
    obtain ⟨e3, q4⟩ := Prod.mk.inj q3
    obtain ⟨e4, q5⟩ := Prod.mk.inj q4
    subst e0; subst e1; subst e2; subst e3; subst e4; subst q5
    exact W.vret hx hb hrt (fun t ht hW => ⟨⟨(), rfl, trivial, by rw [ht]; exact hP, va_K.moved hW.alike hK, hD⟩, hS.F ht⟩) hS.2.2 dX6_step_259 hlocks
set_option maxHeartbeats 4000000 in
set_option maxRecDepth 100000 in
theorem tX6_step_63 {p : Program} {l : Launch} {e : Env} {R : Room} {s : State} {m : MethodId} {args : Array Value} {below : List Frame} {meth : Method} {c : Code} {dC : Nat → ClassId} {dI : Nat → Nat → Nat} {cI cJ cB cZ cF cG : ClassId} {A : Nat → Prop} (hA : ∀ q : Nat, s.heap.size ≤ q → A q) (C0 : Cx p s m meth c args cX6_step 3 none RX6 uX6_step) (hR : 1 ≤ R.frames ∧ 60 ≤ R.locals) (h_this : Nat) (h_tape : Nat) (h_tape_bytes : Nat) (h_keys : Nat) (n_tape_bytes : Nat) (v_most : Int32) (v_taken : Int32) (v_fault : Int32) (v_faultAt : Int32) (v_tape_size : Int32) (v_tape_bytes : Nat → Int32) (v_keys : Nat → Int64) (o_behind : Int32) (o_at : Int32) (o_kind : Int32) (o_number : Int32) (o_word : Int64) (o_key : Int32) :
    ∀ (v_behind : Int32) (v_at : Int32) (v_kind : Int32) (v_number : Int32) (v_word : Int64) (v_key : Int32) (x1 : Int32), bX6_step_63 n_tape_bytes v_most v_tape_size v_tape_bytes v_keys v_behind v_at v_kind v_number v_word v_key x1 = some (o_behind, o_at, o_kind, o_number, o_word, o_key) → ∀ (H : Heap) (locs : List Loc), Wd dC dI cI cJ cB cZ cF cG A s H locs [oX6 h_this h_tape h_keys v_most v_behind v_at v_kind v_number v_word v_key v_taken v_fault v_faultAt, oX10 h_tape h_tape_bytes v_tape_size, aB cB h_tape_bytes n_tape_bytes v_tape_bytes, aJ cJ h_keys 22 v_keys] → ∀ (ls : Array Slot), lv_has ls 3 [(0, .ref h_this), (1, .int x1)] → W p l e R s m args below meth c H locs 0 0 (MQ below (PQv dC dI cI cJ cB cZ cF cG A [oX6 h_this h_tape h_keys v_most o_behind o_at o_kind o_number o_word o_key v_taken v_fault v_faultAt, oX10 h_tape h_tape_bytes v_tape_size, aB cB h_tape_bytes n_tape_bytes v_tape_bytes, aJ cJ h_keys 22 v_keys]) args s 0 0 A) (F0 m 63 ls []) := by
  obtain ⟨hx, hb, hrt, hml, hown, hts, hlocks⟩ := id C0
  intro v_behind v_at v_kind v_number v_word v_key x1 hr H locs hW ls hl
  obtain ⟨hK, hP, hD, hS⟩ := hW
  have hr : (nmv (if v_most < v_behind then v_most else v_behind) (fun w1 => if v_behind < v_most then bX6_step_116 n_tape_bytes v_most v_tape_size v_tape_bytes v_keys v_behind w1 v_kind v_number v_word (-1) x1 else if v_tape_size ≤ v_most then bX6_step_116 n_tape_bytes v_most v_tape_size v_tape_bytes v_keys v_behind w1 v_kind v_number v_word (-1) x1 else some (v_behind, w1, 1, v_number, v_word, (-1))) : Option (Int32 × Int32 × Int32 × Int32 × Int64 × Int32)) = some (o_behind, o_at, o_kind, o_number, o_word, o_key) := hr
  refine lv_aload_n hx hb dX6_step_63 rfl (lv_at hl 0 rfl) ?_
  refine lv_aload_n hx hb dX6_step_64 rfl (lv_at hl 0 rfl) ?_
  refine va_get (D := (dC, dI)) (ci := 6) (v := .int v_behind) (C := RX6) (T := TX6) (N := 12) hx hb hts (fun w h => List.mem_cons_of_mem _ (inU_6 w h)) hown hK hP 0 rfl rfl 3 (by decide) (hts _ (List.mem_cons_of_mem _ U_322)) (fun _ h9 => h9) rfl dX6_step_65 ?_
  refine lv_aload_n hx hb dX6_step_68 rfl (lv_at hl 0 rfl) ?_
  refine va_get (D := (dC, dI)) (ci := 6) (v := .int v_most) (C := RX6) (T := TX6) (N := 12) hx hb hts (fun w h => List.mem_cons_of_mem _ (inU_6 w h)) hown hK hP 0 rfl rfl 2 (by decide) (hts _ (List.mem_cons_of_mem _ U_321)) (fun _ h9 => h9) rfl dX6_step_69 ?_
  refine z_pc (pc' := 72) rfl ?_
  refine va_mmin hx hb (hml.trans hl.1.symm) hown (hts _ (List.mem_cons_of_mem _ U_330)) (hts _ (List.mem_cons_of_mem _ U_331)) (hts _ (List.mem_cons_of_mem _ U_64)) (hts _ (List.mem_cons_of_mem _ U_332)) (Nat.le_trans (by decide) hR.1) (Nat.le_trans (Nat.le_of_ble_eq_true rfl) hR.2) (Nat.zero_le _) (Nat.zero_le _) dX6_step_72 ?_
  obtain ⟨w1, hw1, hr⟩ := nm_s hr
  refine z_topi hw1 ?_
  refine va_put (D := (dC, dI)) (ci := 6) (v := .int w1) (ty := .int) (C := RX6) (T := TX6) (N := 12) hx hb hts (fun w h => List.mem_cons_of_mem _ (inU_6 w h)) tyX6 tyX6_ok nmX6 hown hK hP hD hS 0 rfl rfl 4 (by decide) (hts _ (List.mem_cons_of_mem _ U_333)) (fun _ h9 => h9) rfl (by decide +kernel) rfl rfl (Nat.le_of_ble_eq_true rfl) dX6_step_75 (fun H locs hP hD hS => ?_)
  have hP : va_P (dC, dI) vwCl [oX6 h_this h_tape h_keys v_most v_behind w1 v_kind v_number v_word v_key v_taken v_fault v_faultAt, oX10 h_tape h_tape_bytes v_tape_size, aB cB h_tape_bytes n_tape_bytes v_tape_bytes, aJ cJ h_keys 22 v_keys] H := hP
  have hD : va_D A [oX6 h_this h_tape h_keys v_most v_behind w1 v_kind v_number v_word v_key v_taken v_fault v_faultAt, oX10 h_tape h_tape_bytes v_tape_size, aB cB h_tape_bytes n_tape_bytes v_tape_bytes, aJ cJ h_keys 22 v_keys] := hD
  refine lv_aload_n hx hb dX6_step_78 rfl (lv_at hl 0 rfl) ?_
  refine lv_iconst (v := (-1)) hx hb dX6_step_79 (by decide) ?_
  refine va_put (D := (dC, dI)) (ci := 6) (v := .int (-1)) (ty := .int) (C := RX6) (T := TX6) (N := 12) hx hb hts (fun w h => List.mem_cons_of_mem _ (inU_6 w h)) tyX6 tyX6_ok nmX6 hown hK hP hD hS 0 rfl rfl 8 (by decide) (hts _ (List.mem_cons_of_mem _ U_334)) (fun _ h9 => h9) rfl (by decide +kernel) rfl rfl (Nat.le_of_ble_eq_true rfl) dX6_step_80 (fun H locs hP hD hS => ?_)
  have hP : va_P (dC, dI) vwCl [oX6 h_this h_tape h_keys v_most v_behind w1 v_kind v_number v_word (-1) v_taken v_fault v_faultAt, oX10 h_tape h_tape_bytes v_tape_size, aB cB h_tape_bytes n_tape_bytes v_tape_bytes, aJ cJ h_keys 22 v_keys] H := hP
  have hD : va_D A [oX6 h_this h_tape h_keys v_most v_behind w1 v_kind v_number v_word (-1) v_taken v_fault v_faultAt, oX10 h_tape h_tape_bytes v_tape_size, aB cB h_tape_bytes n_tape_bytes v_tape_bytes, aJ cJ h_keys 22 v_keys] := hD
  refine lv_aload_n hx hb dX6_step_83 rfl (lv_at hl 0 rfl) ?_
  refine z_pc (pc' := 84) rfl ?_
  refine va_get (D := (dC, dI)) (ci := 6) (v := .int v_behind) (C := RX6) (T := TX6) (N := 12) hx hb hts (fun w h => List.mem_cons_of_mem _ (inU_6 w h)) hown hK hP 0 rfl rfl 3 (by decide) (hts _ (List.mem_cons_of_mem _ U_322)) (fun _ h9 => h9) rfl dX6_step_84 ?_
  refine lv_aload_n hx hb dX6_step_87 rfl (lv_at hl 0 rfl) ?_
  refine va_get (D := (dC, dI)) (ci := 6) (v := .int v_most) (C := RX6) (T := TX6) (N := 12) hx hb hts (fun w h => List.mem_cons_of_mem _ (inU_6 w h)) hown hK hP 0 rfl rfl 2 (by decide) (hts _ (List.mem_cons_of_mem _ U_321)) (fun _ h9 => h9) rfl dX6_step_88 ?_
  refine lv_icmp_lt (tgt := 116) hx hb dX6_step_91 (by decide) (fun hc => ?_) (fun hc => ?_)
  · have hr := iteP hc hr
    exact tX6_step_116 hA C0 hR h_this h_tape h_tape_bytes h_keys n_tape_bytes v_most v_taken v_fault v_faultAt v_tape_size v_tape_bytes v_keys o_behind o_at o_kind o_number o_word o_key v_behind w1 v_kind v_number v_word (-1) x1 hr _ _ ⟨hK, hP, hD, hS⟩ ls (lv_sub hl [0, 1] rfl)
  · have hr := iteN hc hr
    refine lv_aload_n hx hb dX6_step_94 rfl (lv_at hl 0 rfl) ?_
    refine va_get (D := (dC, dI)) (ci := 6) (v := .ref h_tape) (C := RX6) (T := TX6) (N := 12) hx hb hts (fun w h => List.mem_cons_of_mem _ (inU_6 w h)) hown hK hP 0 rfl rfl 0 (by decide) (hts _ (List.mem_cons_of_mem _ U_73)) (fun _ h9 => h9) rfl dX6_step_95 ?_
    refine va_get (D := (dC, dI)) (ci := 10) (v := .int v_tape_size) (C := RX10) (T := TX10) (N := 2) hx hb hts (fun w h => List.mem_cons_of_mem _ (inU_10 w h)) hown hK hP 1 rfl rfl 1 (by decide) (hts _ (List.mem_cons_of_mem _ U_329)) (fun _ h9 => h9) rfl dX6_step_98 ?_
    refine lv_aload_n hx hb dX6_step_101 rfl (lv_at hl 0 rfl) ?_
    refine va_get (D := (dC, dI)) (ci := 6) (v := .int v_most) (C := RX6) (T := TX6) (N := 12) hx hb hts (fun w h => List.mem_cons_of_mem _ (inU_6 w h)) hown hK hP 0 rfl rfl 2 (by decide) (hts _ (List.mem_cons_of_mem _ U_321)) (fun _ h9 => h9) rfl dX6_step_102 ?_
    refine z_pc (pc' := 105) rfl ?_
    refine lv_icmp_le (tgt := 116) hx hb dX6_step_105 (by decide) (fun hc => ?_) (fun hc => ?_)
    · have hr := iteP hc hr
      exact tX6_step_116 hA C0 hR h_this h_tape h_tape_bytes h_keys n_tape_bytes v_most v_taken v_fault v_faultAt v_tape_size v_tape_bytes v_keys o_behind o_at o_kind o_number o_word o_key v_behind w1 v_kind v_number v_word (-1) x1 hr _ _ ⟨hK, hP, hD, hS⟩ ls (lv_sub hl [0, 1] rfl)
    · have hr := iteN hc hr
      refine lv_aload_n hx hb dX6_step_108 rfl (lv_at hl 0 rfl) ?_
      refine lv_iconst (v := 1) hx hb dX6_step_109 (by decide) ?_
      refine va_put (D := (dC, dI)) (ci := 6) (v := .int 1) (ty := .int) (C := RX6) (T := TX6) (N := 12) hx hb hts (fun w h => List.mem_cons_of_mem _ (inU_6 w h)) tyX6 tyX6_ok nmX6 hown hK hP hD hS 0 rfl rfl 5 (by decide) (hts _ (List.mem_cons_of_mem _ U_335)) (fun _ h9 => h9) rfl (by decide +kernel) rfl rfl (Nat.le_of_ble_eq_true rfl) dX6_step_110 (fun H locs hP hD hS => ?_)
      have hP : va_P (dC, dI) vwCl [oX6 h_this h_tape h_keys v_most v_behind w1 1 v_number v_word (-1) v_taken v_fault v_faultAt, oX10 h_tape h_tape_bytes v_tape_size, aB cB h_tape_bytes n_tape_bytes v_tape_bytes, aJ cJ h_keys 22 v_keys] H := hP
      have hD : va_D A [oX6 h_this h_tape h_keys v_most v_behind w1 1 v_number v_word (-1) v_taken v_fault v_faultAt, oX10 h_tape h_tape_bytes v_tape_size, aB cB h_tape_bytes n_tape_bytes v_tape_bytes, aJ cJ h_keys 22 v_keys] := hD
      refine lv_goto (tgt := 259) hx hb dX6_step_113 (by decide) ?_
      have q0 := Option.some.inj hr
      obtain ⟨e0, q1⟩ := Prod.mk.inj q0
      obtain ⟨e1, q2⟩ := Prod.mk.inj q1
      obtain ⟨e2, q3⟩ := Prod.mk.inj q2
      obtain ⟨e3, q4⟩ := Prod.mk.inj q3
      obtain ⟨e4, q5⟩ := Prod.mk.inj q4
      subst e0; subst e1; subst e2; subst e3; subst e4; subst q5
      exact W.vret hx hb hrt (fun t ht hW => ⟨⟨(), rfl, trivial, by rw [ht]; exact hP, va_K.moved hW.alike hK, hD⟩, hS.F ht⟩) hS.2.2 dX6_step_259 hlocks
set_option maxHeartbeats 4000000 in
set_option maxRecDepth 100000 in
theorem tX6_step {p : Program} {l : Launch} {e : Env} {R : Room} {s : State} {m : MethodId} {args : Array Value} {below : List Frame} {meth : Method} {c : Code} {dC : Nat → ClassId} {dI : Nat → Nat → Nat} {cI cJ cB cZ cF cG : ClassId} {A : Nat → Prop} (hA : ∀ q : Nat, s.heap.size ≤ q → A q) (C0 : Cx p s m meth c args cX6_step 3 none RX6 uX6_step) (hR : 1 ≤ R.frames ∧ 60 ≤ R.locals) (h_this : Nat) (h_tape : Nat) (h_tape_bytes : Nat) (h_keys : Nat) (n_tape_bytes : Nat) (v_most : Int32) (v_taken : Int32) (v_fault : Int32) (v_faultAt : Int32) (v_tape_size : Int32) (v_tape_bytes : Nat → Int32) (v_keys : Nat → Int64) (o_behind : Int32) (o_at : Int32) (o_kind : Int32) (o_number : Int32) (o_word : Int64) (o_key : Int32) :
    ∀ (v_behind : Int32) (v_at : Int32) (v_kind : Int32) (v_number : Int32) (v_word : Int64) (v_key : Int32), fX6_step n_tape_bytes v_most v_tape_size v_tape_bytes v_keys v_behind v_at v_kind v_number v_word v_key = some (o_behind, o_at, o_kind, o_number, o_word, o_key) → ∀ (H : Heap) (locs : List Loc), Wd dC dI cI cJ cB cZ cF cG A s H locs [oX6 h_this h_tape h_keys v_most v_behind v_at v_kind v_number v_word v_key v_taken v_fault v_faultAt, oX10 h_tape h_tape_bytes v_tape_size, aB cB h_tape_bytes n_tape_bytes v_tape_bytes, aJ cJ h_keys 22 v_keys] → ∀ (ls : Array Slot), lv_has ls 3 [(0, .ref h_this)] → W p l e R s m args below meth c H locs 0 0 (MQ below (PQv dC dI cI cJ cB cZ cF cG A [oX6 h_this h_tape h_keys v_most o_behind o_at o_kind o_number o_word o_key v_taken v_fault v_faultAt, oX10 h_tape h_tape_bytes v_tape_size, aB cB h_tape_bytes n_tape_bytes v_tape_bytes, aJ cJ h_keys 22 v_keys]) args s 0 0 A) (F0 m 0 ls []) := by
  obtain ⟨hx, hb, hrt, hml, hown, hts, hlocks⟩ := id C0
  intro v_behind v_at v_kind v_number v_word v_key hr H locs hW ls hl
  obtain ⟨hK, hP, hD, hS⟩ := hW
  have hr : ((fX10_at n_tape_bytes v_tape_size v_tape_bytes v_behind).bind (fun r_4 => lX6_step_12 n_tape_bytes v_most v_tape_size v_tape_bytes v_keys (bX6_step_63 n_tape_bytes v_most v_tape_size v_tape_bytes v_keys) 5000 v_behind v_at v_kind v_number v_word v_key r_4) : Option (Int32 × Int32 × Int32 × Int32 × Int64 × Int32)) = some (o_behind, o_at, o_kind, o_number, o_word, o_key) := hr
  refine lv_aload_n hx hb dX6_step_0 rfl (lv_at hl 0 rfl) ?_
  refine va_get (D := (dC, dI)) (ci := 6) (v := .ref h_tape) (C := RX6) (T := TX6) (N := 12) hx hb hts (fun w h => List.mem_cons_of_mem _ (inU_6 w h)) hown hK hP 0 rfl rfl 0 (by decide) (hts _ (List.mem_cons_of_mem _ U_73)) (fun _ h9 => h9) rfl dX6_step_1 ?_
  refine lv_aload_n hx hb dX6_step_4 rfl (lv_at hl 0 rfl) ?_
  refine va_get (D := (dC, dI)) (ci := 6) (v := .int v_behind) (C := RX6) (T := TX6) (N := 12) hx hb hts (fun w h => List.mem_cons_of_mem _ (inU_6 w h)) hown hK hP 0 rfl rfl 3 (by decide) (hts _ (List.mem_cons_of_mem _ U_322)) (fun _ h9 => h9) rfl dX6_step_5 ?_
  obtain ⟨r_4, ho, hr⟩ := bind_s hr
  have hPc := hP.sub (ws' := [oX10 h_tape h_tape_bytes v_tape_size, aB cB h_tape_bytes n_tape_bytes v_tape_bytes]) [1, 2] rfl
  have hDc := hD.sub (ws' := [oX10 h_tape h_tape_bytes v_tape_size, aB cB h_tape_bytes n_tape_bytes v_tape_bytes]) [1, 2] (by decide) rfl
  have hFc := va_free (wc := [oX10 h_tape h_tape_bytes v_tape_size, aB cB h_tape_bytes n_tape_bytes v_tape_bytes]) hD hS hA [1, 2] rfl
  refine va_calli (va_runV (As := [.int v_behind]) (rest := []) ⟨hx, hb, hml, hown, hts⟩ (mX10_at l dC dI cI cJ cB cZ cF cG h_tape h_tape_bytes H.size n_tape_bytes v_tape_size v_tape_bytes v_behind r_4 ho) (cwV 1 hts (goodV U_337 U_338 U_339 U_15 U_340) rfl rfl rfl (by decide +kernel) ⟨Nat.le_trans (by decide) hR.1, Nat.le_trans (Nat.le_of_ble_eq_true rfl) hR.2⟩) ⟨fun a U g mk q => by obtain ⟨q0, q1, qP, qK, qD⟩ := q; exact ⟨q0, q1, qP, va_K.moved (u := U) (U := U.calling g mk a) (Vm.Alike.refl U.vm) qK, qD⟩, va_recv hK hPc (ci := 10) (q0 := 0) rfl rfl, fun U hU hW => ⟨rfl, by rw [hU], by rw [hU]; exact hPc, va_K.moved hW.alike hK, hDc.weaken (fun _ _ _ _ => trivial)⟩⟩ rfl rfl hl.1 rfl (lv_room (Nat.le_of_ble_eq_true rfl)) dX6_step_8 ⟨Nat.zero_le _, Nat.zero_le _⟩) hS (fun q _ h => hFc q h) hFc (fun rz u t H1 locs ht hvm hw hB hz1 hk1 hS => ?_)
  obtain ⟨hP1, hK1, hD1⟩ := hB
  have hw := hw.symm; subst hw
  rw [ht] at hP1
  obtain ⟨hP, hD⟩ := va_join (wr := [oX6 h_this h_tape h_keys v_most v_behind v_at v_kind v_number v_word v_key v_taken v_fault v_faultAt, aJ cJ h_keys 22 v_keys]) (w1 := [oX10 h_tape h_tape_bytes v_tape_size, aB cB h_tape_bytes n_tape_bytes v_tape_bytes]) hP hD [1, 2] [0, 3] rfl rfl (by decide) (by decide) hk1 hFc hP1 hD1
  generalize H1 = H at hP hS ⊢
  have hP := hP.sub (ws' := [oX6 h_this h_tape h_keys v_most v_behind v_at v_kind v_number v_word v_key v_taken v_fault v_faultAt, oX10 h_tape h_tape_bytes v_tape_size, aB cB h_tape_bytes n_tape_bytes v_tape_bytes, aJ cJ h_keys 22 v_keys]) [0, 2, 3, 1] rfl
  have hD := hD.sub (ws' := [oX6 h_this h_tape h_keys v_most v_behind v_at v_kind v_number v_word v_key v_taken v_fault v_faultAt, oX10 h_tape h_tape_bytes v_tape_size, aB cB h_tape_bytes n_tape_bytes v_tape_bytes, aJ cJ h_keys 22 v_keys]) [0, 2, 3, 1] (by decide) rfl
  refine z_pc (pc' := 11) rfl ?_
  refine lv_istore_n (lv' := [(1, .int r_4), (0, .ref h_this)]) hx hb dX6_step_11 rfl hl (by decide) rfl (fun ls hl => ?_)
  exact tX6_step_12 hA C0 hR h_this h_tape h_tape_bytes h_keys n_tape_bytes v_most v_taken v_fault v_faultAt v_tape_size v_tape_bytes v_keys o_behind o_at o_kind o_number o_word o_key (tX6_step_63 hA C0 hR h_this h_tape h_tape_bytes h_keys n_tape_bytes v_most v_taken v_fault v_faultAt v_tape_size v_tape_bytes v_keys o_behind o_at o_kind o_number o_word o_key) 5000 v_behind v_at v_kind v_number v_word v_key r_4 hr _ _ ⟨hK, hP, hD, hS⟩ ls (lv_sub hl [1, 0] rfl)
set_option maxHeartbeats 4000000 in
set_option maxRecDepth 100000 in
theorem mX6_step (l : Launch) (dC : Nat → ClassId) (dI : Nat → Nat → Nat) (cI cJ cB cZ cF cG : ClassId) (h_this : Nat) (h_tape : Nat) (h_tape_bytes : Nat) (h_keys : Nat) (sz : Nat) (n_tape_bytes : Nat) (v_most : Int32) (v_behind : Int32) (v_at : Int32) (v_kind : Int32) (v_number : Int32) (v_word : Int64) (v_key : Int32) (v_taken : Int32) (v_fault : Int32) (v_faultAt : Int32) (v_tape_size : Int32) (v_tape_bytes : Nat → Int32) (v_keys : Nat → Int64) (o_behind : Int32) (o_at : Int32) (o_kind : Int32) (o_number : Int32) (o_word : Int64) (o_key : Int32) (hf : fX6_step n_tape_bytes v_most v_tape_size v_tape_bytes v_keys v_behind v_at v_kind v_number v_word v_key = some (o_behind, o_at, o_kind, o_number, o_word, o_key)) : Met l yX6_step uX6_step ({ frames := 1, cells := 0, slots := 0, locals := 60 }) (va_Pc [.ref h_this] (fun U => U.heap.size = sz ∧ va_P (dC, dI) vwCl [oX6 h_this h_tape h_keys v_most v_behind v_at v_kind v_number v_word v_key v_taken v_fault v_faultAt, oX10 h_tape h_tape_bytes v_tape_size, aB cB h_tape_bytes n_tape_bytes v_tape_bytes, aJ cJ h_keys 22 v_keys] U.heap ∧ va_K (dC, dI) vwCl (TYS cI cJ cB cZ cF cG) U ∧ va_D (fun _ => True) [oX6 h_this h_tape h_keys v_most v_behind v_at v_kind v_number v_word v_key v_taken v_fault v_faultAt, oX10 h_tape h_tape_bytes v_tape_size, aB cB h_tape_bytes n_tape_bytes v_tape_bytes, aJ cJ h_keys 22 v_keys])) (PQv dC dI cI cJ cB cZ cF cG (va_A [oX6 h_this h_tape h_keys v_most v_behind v_at v_kind v_number v_word v_key v_taken v_fault v_faultAt, oX10 h_tape h_tape_bytes v_tape_size, aB cB h_tape_bytes n_tape_bytes v_tape_bytes, aJ cJ h_keys 22 v_keys] sz) [oX6 h_this h_tape h_keys v_most o_behind o_at o_kind o_number o_word o_key v_taken v_fault v_faultAt, oX10 h_tape h_tape_bytes v_tape_size, aB cB h_tape_bytes n_tape_bytes v_tape_bytes, aJ cJ h_keys 22 v_keys]) 0 0 (va_A [oX6 h_this h_tape h_keys v_most v_behind v_at v_kind v_number v_word v_key v_taken v_fault v_faultAt, oX10 h_tape h_tape_bytes v_tape_size, aB cB h_tape_bytes n_tape_bytes v_tape_bytes, aJ cJ h_keys 22 v_keys] sz) := by
  refine Met.ofW (cc := cX6_step) (maxL := 3) (ret := none) (by decide) rfl ?_
  intro p e s m args below meth c s₁ B hml hv
  obtain ⟨rfl, hsz, hP, hK, hD0⟩ := hv
  have hx := B.exec
  have hb := B.bytes
  have hr := B.returns
  have hts := atoms_spec (ws := uX6_step) B.pre
  have hown : s.vm.findClass RX6 = some m.cls := findClass_of_methodNamed B.named
  have hlocks := B.notSynchronized
  subst hsz
  have hD := hD0.self (sz := s.heap.size)
  generalize hAe : va_A [oX6 h_this h_tape h_keys v_most v_behind v_at v_kind v_number v_word v_key v_taken v_fault v_faultAt, oX10 h_tape h_tape_bytes v_tape_size, aB cB h_tape_bytes n_tape_bytes v_tape_bytes, aJ cJ h_keys 22 v_keys] s.heap.size = A at hD ⊢
  have hA : ∀ q : Nat, s.heap.size ≤ q → A q := fun q h => by rw [← hAe]; exact Or.inr h
  have hS : va_S A s.heap s.heap [] := va_S.rf
  have hl := lv_entry ([.ref h_this]) (n := 3) (Nat.le_of_ble_eq_true rfl)
  rw [lg_entry_eq]
  generalize (lg_sl ([.ref h_this]) ++ List.replicate (3 - (lg_sl ([.ref h_this])).length) Slot.unset).toArray = ls at hl ⊢
  have hl : lv_has ls 3 [(0, .ref h_this)] := hl
  exact tX6_step hA ⟨hx, hb, hr, hml, hown, hts, hlocks⟩ ⟨Nat.le_refl _, Nat.le_refl _⟩ h_this h_tape h_tape_bytes h_keys n_tape_bytes v_most v_taken v_fault v_faultAt v_tape_size v_tape_bytes v_keys o_behind o_at o_kind o_number o_word o_key v_behind v_at v_kind v_number v_word v_key hf _ _ ⟨hK, hP, hD, hS⟩ ls hl
-- LastSeat$Reader.takeNumber(II)Z
def uX6_takeNumber : List Cond := .code yX6_takeNumber cX6_takeNumber 3 (some .boolean) :: wsU
set_option maxHeartbeats 4000000 in
set_option maxRecDepth 100000 in
theorem tX6_takeNumber {p : Program} {l : Launch} {e : Env} {R : Room} {s : State} {m : MethodId} {args : Array Value} {below : List Frame} {meth : Method} {c : Code} {dC : Nat → ClassId} {dI : Nat → Nat → Nat} {cI cJ cB cZ cF cG : ClassId} {A : Nat → Prop} (hA : ∀ q : Nat, s.heap.size ≤ q → A q) (C0 : Cx p s m meth c args cX6_takeNumber 3 (some .boolean) RX6 uX6_takeNumber) (hR : 2 ≤ R.frames ∧ 82 ≤ R.locals) (h_this : Nat) (h_tape : Nat) (h_tape_bytes : Nat) (h_keys : Nat) (n_tape_bytes : Nat) (v_most : Int32) (v_tape_size : Int32) (v_tape_bytes : Nat → Int32) (v_keys : Nat → Int64) (o_r : Int32) (o_behind : Int32) (o_at : Int32) (o_kind : Int32) (o_number : Int32) (o_word : Int64) (o_key : Int32) (o_taken : Int32) (o_fault : Int32) (o_faultAt : Int32) :
    ∀ (v_behind : Int32) (v_at : Int32) (v_kind : Int32) (v_number : Int32) (v_word : Int64) (v_key : Int32) (v_taken : Int32) (v_fault : Int32) (v_faultAt : Int32) (x1 : Int32) (x2 : Int32), fX6_takeNumber n_tape_bytes v_most v_tape_size v_tape_bytes v_keys v_behind v_at v_kind v_number v_word v_key v_taken v_fault v_faultAt x1 x2 = some (o_r, o_behind, o_at, o_kind, o_number, o_word, o_key, o_taken, o_fault, o_faultAt) → ∀ (H : Heap) (locs : List Loc), Wd dC dI cI cJ cB cZ cF cG A s H locs [oX6 h_this h_tape h_keys v_most v_behind v_at v_kind v_number v_word v_key v_taken v_fault v_faultAt, oX10 h_tape h_tape_bytes v_tape_size, aB cB h_tape_bytes n_tape_bytes v_tape_bytes, aJ cJ h_keys 22 v_keys] → ∀ (ls : Array Slot), lv_has ls 3 [(0, .ref h_this), (1, .int x1), (2, .int x2)] → W p l e R s m args below meth c H locs 0 0 (MQ below (PQz dC dI cI cJ cB cZ cF cG A o_r [oX6 h_this h_tape h_keys v_most o_behind o_at o_kind o_number o_word o_key o_taken o_fault o_faultAt, oX10 h_tape h_tape_bytes v_tape_size, aB cB h_tape_bytes n_tape_bytes v_tape_bytes, aJ cJ h_keys 22 v_keys]) args s 0 0 A) (F0 m 0 ls []) := by
  obtain ⟨hx, hb, hrt, hml, hown, hts, hlocks⟩ := id C0
  intro v_behind v_at v_kind v_number v_word v_key v_taken v_fault v_faultAt x1 x2 hr H locs hW ls hl
  obtain ⟨hK, hP, hD, hS⟩ := hW
  have hr : (if v_kind = 48 then if v_number < x1 then (fX6_refuse v_at v_fault v_faultAt 2).bind (fun (r_1, u1_fault, u1_faultAt) => some (r_1, v_behind, v_at, v_kind, v_number, v_word, v_key, v_taken, u1_fault, u1_faultAt)) else if v_number ≤ x2 then (fX6_step n_tape_bytes v_most v_tape_size v_tape_bytes v_keys v_behind v_at v_kind v_number v_word v_key).bind (fun (u2_behind, u2_at, u2_kind, u2_number, u2_word, u2_key) => some (1, u2_behind, u2_at, u2_kind, u2_number, u2_word, u2_key, v_number, v_fault, v_faultAt)) else (fX6_refuse v_at v_fault v_faultAt 2).bind (fun (r_3, u3_fault, u3_faultAt) => some (r_3, v_behind, v_at, v_kind, v_number, v_word, v_key, v_taken, u3_fault, u3_faultAt)) else (fX6_refuse v_at v_fault v_faultAt 1).bind (fun (r_4, u4_fault, u4_faultAt) => some (r_4, v_behind, v_at, v_kind, v_number, v_word, v_key, v_taken, u4_fault, u4_faultAt)) : Option (Int32 × Int32 × Int32 × Int32 × Int32 × Int64 × Int32 × Int32 × Int32 × Int32)) = some (o_r, o_behind, o_at, o_kind, o_number, o_word, o_key, o_taken, o_fault, o_faultAt) := hr
  refine lv_aload_n hx hb dX6_takeNumber_0 rfl (lv_at hl 0 rfl) ?_
  refine va_get (D := (dC, dI)) (ci := 6) (v := .int v_kind) (C := RX6) (T := TX6) (N := 12) hx hb hts (fun w h => List.mem_cons_of_mem _ (inU_6 w h)) hown hK hP 0 rfl rfl 5 (by decide) (hts _ (List.mem_cons_of_mem _ U_335)) (fun _ h9 => h9) rfl dX6_takeNumber_1 ?_
  refine lv_bipush (v := 48) hx hb dX6_takeNumber_4 (by decide) ?_
  refine lv_icmp_eq (tgt := 15) hx hb dX6_takeNumber_6 (by decide) (fun hc => ?_) (fun hc => ?_)
  · have hr := iteP hc hr
    refine lv_aload_n hx hb dX6_takeNumber_15 rfl (lv_at hl 0 rfl) ?_
    refine va_get (D := (dC, dI)) (ci := 6) (v := .int v_number) (C := RX6) (T := TX6) (N := 12) hx hb hts (fun w h => List.mem_cons_of_mem _ (inU_6 w h)) hown hK hP 0 rfl rfl 6 (by decide) (hts _ (List.mem_cons_of_mem _ U_345)) (fun _ h9 => h9) rfl dX6_takeNumber_16 ?_
    refine lv_iload_n hx hb dX6_takeNumber_19 rfl (lv_at hl 1 rfl) ?_
    refine lv_icmp_lt (tgt := 31) hx hb dX6_takeNumber_20 (by decide) (fun hc => ?_) (fun hc => ?_)
    · have hr := iteP hc hr
      refine lv_aload_n hx hb dX6_takeNumber_31 rfl (lv_at hl 0 rfl) ?_
      refine lv_iconst (v := 2) hx hb dX6_takeNumber_32 (by decide) ?_
      obtain ⟨⟨r_1, u1_fault, u1_faultAt⟩, ho, hr⟩ := bind_s hr
      dsimp only at hr
      have hPc := hP.sub (ws' := [oX6 h_this h_tape h_keys v_most v_behind v_at v_kind v_number v_word v_key v_taken v_fault v_faultAt]) [0] rfl
      have hDc := hD.sub (ws' := [oX6 h_this h_tape h_keys v_most v_behind v_at v_kind v_number v_word v_key v_taken v_fault v_faultAt]) [0] (by decide) rfl
      have hFc := va_free (wc := [oX6 h_this h_tape h_keys v_most v_behind v_at v_kind v_number v_word v_key v_taken v_fault v_faultAt]) hD hS hA [0] rfl
      refine va_calli (va_runV (As := [.int 2]) (rest := []) ⟨hx, hb, hml, hown, hts⟩ (mX6_refuse l dC dI cI cJ cB cZ cF cG h_this h_tape h_keys H.size v_most v_behind v_at v_kind v_number v_word v_key v_taken v_fault v_faultAt 2 r_1 u1_fault u1_faultAt ho) (cwV 1 hts (goodV U_379 U_370 U_371 U_20 U_372) rfl rfl rfl (by decide +kernel) ⟨Nat.le_trans (by decide) hR.1, Nat.le_trans (Nat.le_of_ble_eq_true rfl) hR.2⟩) ⟨fun a U g mk q => by obtain ⟨q0, q1, qP, qK, qD⟩ := q; exact ⟨q0, q1, qP, va_K.moved (u := U) (U := U.calling g mk a) (Vm.Alike.refl U.vm) qK, qD⟩, va_recv hK hPc (ci := 6) (q0 := 0) rfl rfl, fun U hU hW => ⟨rfl, by rw [hU], by rw [hU]; exact hPc, va_K.moved hW.alike hK, hDc.weaken (fun _ _ _ _ => trivial)⟩⟩ rfl rfl hl.1 rfl (lv_room (Nat.le_of_ble_eq_true rfl)) dX6_takeNumber_33 ⟨Nat.zero_le _, Nat.zero_le _⟩) hS (fun q _ h => hFc q h) hFc (fun rz u t H1 locs ht hvm hw hB hz1 hk1 hS => ?_)
      obtain ⟨hP1, hK1, hD1⟩ := hB
      obtain ⟨hw, hz_1⟩ := hw
      have hw := hw.symm; subst hw
      rw [ht] at hP1
      obtain ⟨hP, hD⟩ := va_join (wr := [oX10 h_tape h_tape_bytes v_tape_size, aB cB h_tape_bytes n_tape_bytes v_tape_bytes, aJ cJ h_keys 22 v_keys]) (w1 := [oX6 h_this h_tape h_keys v_most v_behind v_at v_kind v_number v_word v_key v_taken u1_fault u1_faultAt]) hP hD [0] [1, 2, 3] rfl rfl (by decide) (by decide) hk1 hFc hP1 hD1
      generalize H1 = H at hP hS ⊢
      have hP := hP.sub (ws' := [oX6 h_this h_tape h_keys v_most v_behind v_at v_kind v_number v_word v_key v_taken u1_fault u1_faultAt, oX10 h_tape h_tape_bytes v_tape_size, aB cB h_tape_bytes n_tape_bytes v_tape_bytes, aJ cJ h_keys 22 v_keys]) [3, 0, 1, 2] rfl
      have hD := hD.sub (ws' := [oX6 h_this h_tape h_keys v_most v_behind v_at v_kind v_number v_word v_key v_taken u1_fault u1_faultAt, oX10 h_tape h_tape_bytes v_tape_size, aB cB h_tape_bytes n_tape_bytes v_tape_bytes, aJ cJ h_keys 22 v_keys]) [3, 0, 1, 2] (by decide) rfl
      have q0 := Option.some.inj hr
      obtain ⟨e0, q1⟩ := Prod.mk.inj q0
      obtain ⟨e1, q2⟩ := Prod.mk.inj q1
      obtain ⟨e2, q3⟩ := Prod.mk.inj q2
      obtain ⟨e3, q4⟩ := Prod.mk.inj q3
      obtain ⟨e4, q5⟩ := Prod.mk.inj q4
      obtain ⟨e5, q6⟩ := Prod.mk.inj q5
      obtain ⟨e6, q7⟩ := Prod.mk.inj q6
      obtain ⟨e7, q8⟩ := Prod.mk.inj q7
      obtain ⟨e8, q9⟩ := Prod.mk.inj q8
      subst e0; subst e1; subst e2; subst e3; subst e4; subst e5; subst e6; subst e7; subst e8; subst q9
      exact W.zret (v := r_1) hx hb hrt hz_1 (fun t ht hW => ⟨⟨r_1, (), rfl, ⟨rfl, hz_1⟩, by rw [ht]; exact hP, va_K.moved hW.alike hK, hD⟩, hS.F ht⟩) hS.2.2 dX6_takeNumber_36 hlocks
    · have hr := iteN hc hr
      refine lv_aload_n hx hb dX6_takeNumber_23 rfl (lv_at hl 0 rfl) ?_
      refine va_get (D := (dC, dI)) (ci := 6) (v := .int v_number) (C := RX6) (T := TX6) (N := 12) hx hb hts (fun w h => List.mem_cons_of_mem _ (inU_6 w h)) hown hK hP 0 rfl rfl 6 (by decide) (hts _ (List.mem_cons_of_mem _ U_345)) (fun _ h9 => h9) rfl dX6_takeNumber_24 ?_
      refine lv_iload_n hx hb dX6_takeNumber_27 rfl (lv_at hl 2 rfl) ?_
      refine lv_icmp_le (tgt := 37) hx hb dX6_takeNumber_28 (by decide) (fun hc => ?_) (fun hc => ?_)
      · have hr := iteP hc hr
        refine lv_aload_n hx hb dX6_takeNumber_37 rfl (lv_at hl 0 rfl) ?_
        refine lv_aload_n hx hb dX6_takeNumber_38 rfl (lv_at hl 0 rfl) ?_
        refine va_get (D := (dC, dI)) (ci := 6) (v := .int v_number) (C := RX6) (T := TX6) (N := 12) hx hb hts (fun w h => List.mem_cons_of_mem _ (inU_6 w h)) hown hK hP 0 rfl rfl 6 (by decide) (hts _ (List.mem_cons_of_mem _ U_345)) (fun _ h9 => h9) rfl dX6_takeNumber_39 ?_
        refine va_put (D := (dC, dI)) (ci := 6) (v := .int v_number) (ty := .int) (C := RX6) (T := TX6) (N := 12) hx hb hts (fun w h => List.mem_cons_of_mem _ (inU_6 w h)) tyX6 tyX6_ok nmX6 hown hK hP hD hS 0 rfl rfl 9 (by decide) (hts _ (List.mem_cons_of_mem _ U_378)) (fun _ h9 => h9) rfl (by decide +kernel) rfl rfl (Nat.le_of_ble_eq_true rfl) dX6_takeNumber_42 (fun H locs hP hD hS => ?_)
        have hP : va_P (dC, dI) vwCl [oX6 h_this h_tape h_keys v_most v_behind v_at v_kind v_number v_word v_key v_number v_fault v_faultAt, oX10 h_tape h_tape_bytes v_tape_size, aB cB h_tape_bytes n_tape_bytes v_tape_bytes, aJ cJ h_keys 22 v_keys] H := hP
        have hD : va_D A [oX6 h_this h_tape h_keys v_most v_behind v_at v_kind v_number v_word v_key v_number v_fault v_faultAt, oX10 h_tape h_tape_bytes v_tape_size, aB cB h_tape_bytes n_tape_bytes v_tape_bytes, aJ cJ h_keys 22 v_keys] := hD
        refine lv_aload_n hx hb dX6_takeNumber_45 rfl (lv_at hl 0 rfl) ?_
        refine z_pc (pc' := 46) rfl ?_
        obtain ⟨⟨u2_behind, u2_at, u2_kind, u2_number, u2_word, u2_key⟩, ho, hr⟩ := bind_s hr
        dsimp only at hr
        have hPc := hP.sub (ws' := [oX6 h_this h_tape h_keys v_most v_behind v_at v_kind v_number v_word v_key v_number v_fault v_faultAt, oX10 h_tape h_tape_bytes v_tape_size, aB cB h_tape_bytes n_tape_bytes v_tape_bytes, aJ cJ h_keys 22 v_keys]) [0, 1, 2, 3] rfl
        have hDc := hD.sub (ws' := [oX6 h_this h_tape h_keys v_most v_behind v_at v_kind v_number v_word v_key v_number v_fault v_faultAt, oX10 h_tape h_tape_bytes v_tape_size, aB cB h_tape_bytes n_tape_bytes v_tape_bytes, aJ cJ h_keys 22 v_keys]) [0, 1, 2, 3] (by decide) rfl
        have hFc := va_free (wc := [oX6 h_this h_tape h_keys v_most v_behind v_at v_kind v_number v_word v_key v_number v_fault v_faultAt, oX10 h_tape h_tape_bytes v_tape_size, aB cB h_tape_bytes n_tape_bytes v_tape_bytes, aJ cJ h_keys 22 v_keys]) hD hS hA [0, 1, 2, 3] rfl
        refine va_callv (va_runV (As := []) (rest := []) ⟨hx, hb, hml, hown, hts⟩ (mX6_step l dC dI cI cJ cB cZ cF cG h_this h_tape h_tape_bytes h_keys H.size n_tape_bytes v_most v_behind v_at v_kind v_number v_word v_key v_number v_fault v_faultAt v_tape_size v_tape_bytes v_keys u2_behind u2_at u2_kind u2_number u2_word u2_key ho) (cwV 0 hts (goodV U_325 U_326 U_327 U_20 U_328) rfl rfl rfl (by decide +kernel) ⟨Nat.le_trans (by decide) hR.1, Nat.le_trans (Nat.le_of_ble_eq_true rfl) hR.2⟩) ⟨fun a U g mk q => by obtain ⟨q0, q1, qP, qK, qD⟩ := q; exact ⟨q0, q1, qP, va_K.moved (u := U) (U := U.calling g mk a) (Vm.Alike.refl U.vm) qK, qD⟩, va_recv hK hPc (ci := 6) (q0 := 0) rfl rfl, fun U hU hW => ⟨rfl, by rw [hU], by rw [hU]; exact hPc, va_K.moved hW.alike hK, hDc.weaken (fun _ _ _ _ => trivial)⟩⟩ rfl rfl hl.1 rfl (lv_room (Nat.le_of_ble_eq_true rfl)) dX6_takeNumber_46 ⟨Nat.zero_le _, Nat.zero_le _⟩) hS (fun q _ h => hFc q h) hFc (fun u t H1 locs ht hvm hw hB hz1 hk1 hS => ?_)
        obtain ⟨hP1, hK1, hD1⟩ := hB
        rw [ht] at hP1
        obtain ⟨hP, hD⟩ := va_join (wr := []) (w1 := [oX6 h_this h_tape h_keys v_most u2_behind u2_at u2_kind u2_number u2_word u2_key v_number v_fault v_faultAt, oX10 h_tape h_tape_bytes v_tape_size, aB cB h_tape_bytes n_tape_bytes v_tape_bytes, aJ cJ h_keys 22 v_keys]) hP hD [0, 1, 2, 3] [] rfl rfl (by decide) (by decide) hk1 hFc hP1 hD1
        generalize H1 = H at hP hS ⊢
        have hP : va_P (dC, dI) vwCl [oX6 h_this h_tape h_keys v_most u2_behind u2_at u2_kind u2_number u2_word u2_key v_number v_fault v_faultAt, oX10 h_tape h_tape_bytes v_tape_size, aB cB h_tape_bytes n_tape_bytes v_tape_bytes, aJ cJ h_keys 22 v_keys] H := hP
        have hD : va_D A [oX6 h_this h_tape h_keys v_most u2_behind u2_at u2_kind u2_number u2_word u2_key v_number v_fault v_faultAt, oX10 h_tape h_tape_bytes v_tape_size, aB cB h_tape_bytes n_tape_bytes v_tape_bytes, aJ cJ h_keys 22 v_keys] := hD
        refine lv_iconst (v := 1) hx hb dX6_takeNumber_49 (by decide) ?_
        have q0 := Option.some.inj hr
        obtain ⟨e0, q1⟩ := Prod.mk.inj q0
        obtain ⟨e1, q2⟩ := Prod.mk.inj q1
        obtain ⟨e2, q3⟩ := Prod.mk.inj q2
        obtain ⟨e3, q4⟩ := Prod.mk.inj q3
        obtain ⟨e4, q5⟩ := Prod.mk.inj q4
        obtain ⟨e5, q6⟩ := Prod.mk.inj q5
        obtain ⟨e6, q7⟩ := Prod.mk.inj q6
        obtain ⟨e7, q8⟩ := Prod.mk.inj q7
        obtain ⟨e8, q9⟩ := Prod.mk.inj q8
        subst e0; subst e1; subst e2; subst e3; subst e4; subst e5; subst e6; subst e7; subst e8; subst q9
        exact W.zret (v := 1) hx hb hrt rfl (fun t ht hW => ⟨⟨1, (), rfl, ⟨rfl, rfl⟩, by rw [ht]; exact hP, va_K.moved hW.alike hK, hD⟩, hS.F ht⟩) hS.2.2 dX6_takeNumber_50 hlocks
      · have hr := iteN hc hr
        refine lv_aload_n hx hb dX6_takeNumber_31 rfl (lv_at hl 0 rfl) ?_
        refine lv_iconst (v := 2) hx hb dX6_takeNumber_32 (by decide) ?_
        obtain ⟨⟨r_3, u3_fault, u3_faultAt⟩, ho, hr⟩ := bind_s hr
        dsimp only at hr
        have hPc := hP.sub (ws' := [oX6 h_this h_tape h_keys v_most v_behind v_at v_kind v_number v_word v_key v_taken v_fault v_faultAt]) [0] rfl
        have hDc := hD.sub (ws' := [oX6 h_this h_tape h_keys v_most v_behind v_at v_kind v_number v_word v_key v_taken v_fault v_faultAt]) [0] (by decide) rfl
        have hFc := va_free (wc := [oX6 h_this h_tape h_keys v_most v_behind v_at v_kind v_number v_word v_key v_taken v_fault v_faultAt]) hD hS hA [0] rfl
        refine va_calli (va_runV (As := [.int 2]) (rest := []) ⟨hx, hb, hml, hown, hts⟩ (mX6_refuse l dC dI cI cJ cB cZ cF cG h_this h_tape h_keys H.size v_most v_behind v_at v_kind v_number v_word v_key v_taken v_fault v_faultAt 2 r_3 u3_fault u3_faultAt ho) (cwV 1 hts (goodV U_379 U_370 U_371 U_20 U_372) rfl rfl rfl (by decide +kernel) ⟨Nat.le_trans (by decide) hR.1, Nat.le_trans (Nat.le_of_ble_eq_true rfl) hR.2⟩) ⟨fun a U g mk q => by obtain ⟨q0, q1, qP, qK, qD⟩ := q; exact ⟨q0, q1, qP, va_K.moved (u := U) (U := U.calling g mk a) (Vm.Alike.refl U.vm) qK, qD⟩, va_recv hK hPc (ci := 6) (q0 := 0) rfl rfl, fun U hU hW => ⟨rfl, by rw [hU], by rw [hU]; exact hPc, va_K.moved hW.alike hK, hDc.weaken (fun _ _ _ _ => trivial)⟩⟩ rfl rfl hl.1 rfl (lv_room (Nat.le_of_ble_eq_true rfl)) dX6_takeNumber_33 ⟨Nat.zero_le _, Nat.zero_le _⟩) hS (fun q _ h => hFc q h) hFc (fun rz u t H1 locs ht hvm hw hB hz1 hk1 hS => ?_)
        obtain ⟨hP1, hK1, hD1⟩ := hB
        obtain ⟨hw, hz_3⟩ := hw
        have hw := hw.symm; subst hw
        rw [ht] at hP1
        obtain ⟨hP, hD⟩ := va_join (wr := [oX10 h_tape h_tape_bytes v_tape_size, aB cB h_tape_bytes n_tape_bytes v_tape_bytes, aJ cJ h_keys 22 v_keys]) (w1 := [oX6 h_this h_tape h_keys v_most v_behind v_at v_kind v_number v_word v_key v_taken u3_fault u3_faultAt]) hP hD [0] [1, 2, 3] rfl rfl (by decide) (by decide) hk1 hFc hP1 hD1
        generalize H1 = H at hP hS ⊢
        have hP := hP.sub (ws' := [oX6 h_this h_tape h_keys v_most v_behind v_at v_kind v_number v_word v_key v_taken u3_fault u3_faultAt, oX10 h_tape h_tape_bytes v_tape_size, aB cB h_tape_bytes n_tape_bytes v_tape_bytes, aJ cJ h_keys 22 v_keys]) [3, 0, 1, 2] rfl
        have hD := hD.sub (ws' := [oX6 h_this h_tape h_keys v_most v_behind v_at v_kind v_number v_word v_key v_taken u3_fault u3_faultAt, oX10 h_tape h_tape_bytes v_tape_size, aB cB h_tape_bytes n_tape_bytes v_tape_bytes, aJ cJ h_keys 22 v_keys]) [3, 0, 1, 2] (by decide) rfl
        have q0 := Option.some.inj hr
        obtain ⟨e0, q1⟩ := Prod.mk.inj q0
        obtain ⟨e1, q2⟩ := Prod.mk.inj q1
        obtain ⟨e2, q3⟩ := Prod.mk.inj q2
        obtain ⟨e3, q4⟩ := Prod.mk.inj q3
        obtain ⟨e4, q5⟩ := Prod.mk.inj q4
        obtain ⟨e5, q6⟩ := Prod.mk.inj q5
        obtain ⟨e6, q7⟩ := Prod.mk.inj q6
        obtain ⟨e7, q8⟩ := Prod.mk.inj q7
        obtain ⟨e8, q9⟩ := Prod.mk.inj q8
        subst e0; subst e1; subst e2; subst e3; subst e4; subst e5; subst e6; subst e7; subst e8; subst q9
        exact W.zret (v := r_3) hx hb hrt hz_3 (fun t ht hW => ⟨⟨r_3, (), rfl, ⟨rfl, hz_3⟩, by rw [ht]; exact hP, va_K.moved hW.alike hK, hD⟩, hS.F ht⟩) hS.2.2 dX6_takeNumber_36 hlocks
  · have hr := iteN hc hr
    refine lv_aload_n hx hb dX6_takeNumber_9 rfl (lv_at hl 0 rfl) ?_
    refine lv_iconst (v := 1) hx hb dX6_takeNumber_10 (by decide) ?_
    obtain ⟨⟨r_4, u4_fault, u4_faultAt⟩, ho, hr⟩ := bind_s hr
    dsimp only at hr
    have hPc := hP.sub (ws' := [oX6 h_this h_tape h_keys v_most v_behind v_at v_kind v_number v_word v_key v_taken v_fault v_faultAt]) [0] rfl
    have hDc := hD.sub (ws' := [oX6 h_this h_tape h_keys v_most v_behind v_at v_kind v_number v_word v_key v_taken v_fault v_faultAt]) [0] (by decide) rfl
    have hFc := va_free (wc := [oX6 h_this h_tape h_keys v_most v_behind v_at v_kind v_number v_word v_key v_taken v_fault v_faultAt]) hD hS hA [0] rfl
    refine va_calli (va_runV (As := [.int 1]) (rest := []) ⟨hx, hb, hml, hown, hts⟩ (mX6_refuse l dC dI cI cJ cB cZ cF cG h_this h_tape h_keys H.size v_most v_behind v_at v_kind v_number v_word v_key v_taken v_fault v_faultAt 1 r_4 u4_fault u4_faultAt ho) (cwV 1 hts (goodV U_379 U_370 U_371 U_20 U_372) rfl rfl rfl (by decide +kernel) ⟨Nat.le_trans (by decide) hR.1, Nat.le_trans (Nat.le_of_ble_eq_true rfl) hR.2⟩) ⟨fun a U g mk q => by obtain ⟨q0, q1, qP, qK, qD⟩ := q; exact ⟨q0, q1, qP, va_K.moved (u := U) (U := U.calling g mk a) (Vm.Alike.refl U.vm) qK, qD⟩, va_recv hK hPc (ci := 6) (q0 := 0) rfl rfl, fun U hU hW => ⟨rfl, by rw [hU], by rw [hU]; exact hPc, va_K.moved hW.alike hK, hDc.weaken (fun _ _ _ _ => trivial)⟩⟩ rfl rfl hl.1 rfl (lv_room (Nat.le_of_ble_eq_true rfl)) dX6_takeNumber_11 ⟨Nat.zero_le _, Nat.zero_le _⟩) hS (fun q _ h => hFc q h) hFc (fun rz u t H1 locs ht hvm hw hB hz1 hk1 hS => ?_)
    obtain ⟨hP1, hK1, hD1⟩ := hB
    obtain ⟨hw, hz_4⟩ := hw
    have hw := hw.symm; subst hw
    rw [ht] at hP1
    obtain ⟨hP, hD⟩ := va_join (wr := [oX10 h_tape h_tape_bytes v_tape_size, aB cB h_tape_bytes n_tape_bytes v_tape_bytes, aJ cJ h_keys 22 v_keys]) (w1 := [oX6 h_this h_tape h_keys v_most v_behind v_at v_kind v_number v_word v_key v_taken u4_fault u4_faultAt]) hP hD [0] [1, 2, 3] rfl rfl (by decide) (by decide) hk1 hFc hP1 hD1
    generalize H1 = H at hP hS ⊢
    have hP := hP.sub (ws' := [oX6 h_this h_tape h_keys v_most v_behind v_at v_kind v_number v_word v_key v_taken u4_fault u4_faultAt, oX10 h_tape h_tape_bytes v_tape_size, aB cB h_tape_bytes n_tape_bytes v_tape_bytes, aJ cJ h_keys 22 v_keys]) [3, 0, 1, 2] rfl
    have hD := hD.sub (ws' := [oX6 h_this h_tape h_keys v_most v_behind v_at v_kind v_number v_word v_key v_taken u4_fault u4_faultAt, oX10 h_tape h_tape_bytes v_tape_size, aB cB h_tape_bytes n_tape_bytes v_tape_bytes, aJ cJ h_keys 22 v_keys]) [3, 0, 1, 2] (by decide) rfl
    have q0 := Option.some.inj hr
    obtain ⟨e0, q1⟩ := Prod.mk.inj q0
    obtain ⟨e1, q2⟩ := Prod.mk.inj q1
    obtain ⟨e2, q3⟩ := Prod.mk.inj q2
    obtain ⟨e3, q4⟩ := Prod.mk.inj q3
    obtain ⟨e4, q5⟩ := Prod.mk.inj q4
    obtain ⟨e5, q6⟩ := Prod.mk.inj q5
    obtain ⟨e6, q7⟩ := Prod.mk.inj q6
    obtain ⟨e7, q8⟩ := Prod.mk.inj q7
    obtain ⟨e8, q9⟩ := Prod.mk.inj q8
    subst e0; subst e1; subst e2; subst e3; subst e4; subst e5; subst e6; subst e7; subst e8; subst q9
    exact W.zret (v := r_4) hx hb hrt hz_4 (fun t ht hW => ⟨⟨r_4, (), rfl, ⟨rfl, hz_4⟩, by rw [ht]; exact hP, va_K.moved hW.alike hK, hD⟩, hS.F ht⟩) hS.2.2 dX6_takeNumber_14 hlocks
set_option maxHeartbeats 4000000 in
set_option maxRecDepth 100000 in
theorem mX6_takeNumber (l : Launch) (dC : Nat → ClassId) (dI : Nat → Nat → Nat) (cI cJ cB cZ cF cG : ClassId) (h_this : Nat) (h_tape : Nat) (h_tape_bytes : Nat) (h_keys : Nat) (sz : Nat) (n_tape_bytes : Nat) (v_most : Int32) (v_behind : Int32) (v_at : Int32) (v_kind : Int32) (v_number : Int32) (v_word : Int64) (v_key : Int32) (v_taken : Int32) (v_fault : Int32) (v_faultAt : Int32) (v_tape_size : Int32) (v_tape_bytes : Nat → Int32) (v_keys : Nat → Int64) (x1 : Int32) (x2 : Int32) (o_r : Int32) (o_behind : Int32) (o_at : Int32) (o_kind : Int32) (o_number : Int32) (o_word : Int64) (o_key : Int32) (o_taken : Int32) (o_fault : Int32) (o_faultAt : Int32) (hf : fX6_takeNumber n_tape_bytes v_most v_tape_size v_tape_bytes v_keys v_behind v_at v_kind v_number v_word v_key v_taken v_fault v_faultAt x1 x2 = some (o_r, o_behind, o_at, o_kind, o_number, o_word, o_key, o_taken, o_fault, o_faultAt)) : Met l yX6_takeNumber uX6_takeNumber ({ frames := 2, cells := 0, slots := 0, locals := 82 }) (va_Pc [.ref h_this, .int x1, .int x2] (fun U => U.heap.size = sz ∧ va_P (dC, dI) vwCl [oX6 h_this h_tape h_keys v_most v_behind v_at v_kind v_number v_word v_key v_taken v_fault v_faultAt, oX10 h_tape h_tape_bytes v_tape_size, aB cB h_tape_bytes n_tape_bytes v_tape_bytes, aJ cJ h_keys 22 v_keys] U.heap ∧ va_K (dC, dI) vwCl (TYS cI cJ cB cZ cF cG) U ∧ va_D (fun _ => True) [oX6 h_this h_tape h_keys v_most v_behind v_at v_kind v_number v_word v_key v_taken v_fault v_faultAt, oX10 h_tape h_tape_bytes v_tape_size, aB cB h_tape_bytes n_tape_bytes v_tape_bytes, aJ cJ h_keys 22 v_keys])) (PQz dC dI cI cJ cB cZ cF cG (va_A [oX6 h_this h_tape h_keys v_most v_behind v_at v_kind v_number v_word v_key v_taken v_fault v_faultAt, oX10 h_tape h_tape_bytes v_tape_size, aB cB h_tape_bytes n_tape_bytes v_tape_bytes, aJ cJ h_keys 22 v_keys] sz) o_r [oX6 h_this h_tape h_keys v_most o_behind o_at o_kind o_number o_word o_key o_taken o_fault o_faultAt, oX10 h_tape h_tape_bytes v_tape_size, aB cB h_tape_bytes n_tape_bytes v_tape_bytes, aJ cJ h_keys 22 v_keys]) 0 0 (va_A [oX6 h_this h_tape h_keys v_most v_behind v_at v_kind v_number v_word v_key v_taken v_fault v_faultAt, oX10 h_tape h_tape_bytes v_tape_size, aB cB h_tape_bytes n_tape_bytes v_tape_bytes, aJ cJ h_keys 22 v_keys] sz) := by
  refine Met.ofW (cc := cX6_takeNumber) (maxL := 3) (ret := (some .boolean)) (by decide) rfl ?_
  intro p e s m args below meth c s₁ B hml hv
  obtain ⟨rfl, hsz, hP, hK, hD0⟩ := hv
  have hx := B.exec
  have hb := B.bytes
  have hr := B.returns
  have hts := atoms_spec (ws := uX6_takeNumber) B.pre
  have hown : s.vm.findClass RX6 = some m.cls := findClass_of_methodNamed B.named
  have hlocks := B.notSynchronized
  subst hsz
  have hD := hD0.self (sz := s.heap.size)
  generalize hAe : va_A [oX6 h_this h_tape h_keys v_most v_behind v_at v_kind v_number v_word v_key v_taken v_fault v_faultAt, oX10 h_tape h_tape_bytes v_tape_size, aB cB h_tape_bytes n_tape_bytes v_tape_bytes, aJ cJ h_keys 22 v_keys] s.heap.size = A at hD ⊢
  have hA : ∀ q : Nat, s.heap.size ≤ q → A q := fun q h => by rw [← hAe]; exact Or.inr h
  have hS : va_S A s.heap s.heap [] := va_S.rf
  have hl := lv_entry ([.ref h_this, .int x1, .int x2]) (n := 3) (Nat.le_of_ble_eq_true rfl)
  rw [lg_entry_eq]
  generalize (lg_sl ([.ref h_this, .int x1, .int x2]) ++ List.replicate (3 - (lg_sl ([.ref h_this, .int x1, .int x2])).length) Slot.unset).toArray = ls at hl ⊢
  have hl : lv_has ls 3 [(0, .ref h_this), (1, .int x1), (2, .int x2)] := hl
  exact tX6_takeNumber hA ⟨hx, hb, hr, hml, hown, hts, hlocks⟩ ⟨Nat.le_refl _, Nat.le_refl _⟩ h_this h_tape h_tape_bytes h_keys n_tape_bytes v_most v_tape_size v_tape_bytes v_keys o_r o_behind o_at o_kind o_number o_word o_key o_taken o_fault o_faultAt v_behind v_at v_kind v_number v_word v_key v_taken v_fault v_faultAt x1 x2 hf _ _ ⟨hK, hP, hD, hS⟩ ls hl
-- LastSeat$Reader.isName()Z
def uX6_isName : List Cond := .code yX6_isName cX6_isName 1 (some .boolean) :: wsU
set_option maxHeartbeats 4000000 in
set_option maxRecDepth 100000 in
theorem tX6_isName {p : Program} {l : Launch} {e : Env} {R : Room} {s : State} {m : MethodId} {args : Array Value} {below : List Frame} {meth : Method} {c : Code} {dC : Nat → ClassId} {dI : Nat → Nat → Nat} {cI cJ cB cZ cF cG : ClassId} {A : Nat → Prop} (hA : ∀ q : Nat, s.heap.size ≤ q → A q) (C0 : Cx p s m meth c args cX6_isName 1 (some .boolean) RX6 uX6_isName) (hR : 0 ≤ R.frames ∧ 0 ≤ R.locals) (h_this : Nat) (h_tape : Nat) (h_keys : Nat) (v_most : Int32) (v_behind : Int32) (v_at : Int32) (v_kind : Int32) (v_number : Int32) (v_word : Int64) (v_key : Int32) (v_taken : Int32) (v_fault : Int32) (v_faultAt : Int32) (o_r : Int32) :
    fX6_isName v_kind v_key = some o_r → ∀ (H : Heap) (locs : List Loc), Wd dC dI cI cJ cB cZ cF cG A s H locs [oX6 h_this h_tape h_keys v_most v_behind v_at v_kind v_number v_word v_key v_taken v_fault v_faultAt] → ∀ (ls : Array Slot), lv_has ls 1 [(0, .ref h_this)] → W p l e R s m args below meth c H locs 0 0 (MQ below (PQz dC dI cI cJ cB cZ cF cG A o_r [oX6 h_this h_tape h_keys v_most v_behind v_at v_kind v_number v_word v_key v_taken v_fault v_faultAt]) args s 0 0 A) (F0 m 0 ls []) := by
  obtain ⟨hx, hb, hrt, hml, hown, hts, hlocks⟩ := id C0
  intro  hr H locs hW ls hl
  obtain ⟨hK, hP, hD, hS⟩ := hW
  have hr : (if v_kind = 97 then if v_key = (-1) then some 1 else some 0 else some 0 : Option (Int32)) = some o_r := hr
  refine lv_aload_n hx hb dX6_isName_0 rfl (lv_at hl 0 rfl) ?_
  refine va_get (D := (dC, dI)) (ci := 6) (v := .int v_kind) (C := RX6) (T := TX6) (N := 12) hx hb hts (fun w h => List.mem_cons_of_mem _ (inU_6 w h)) hown hK hP 0 rfl rfl 5 (by decide) (hts _ (List.mem_cons_of_mem _ U_335)) (fun _ h9 => h9) rfl dX6_isName_1 ?_
  refine lv_bipush (v := 97) hx hb dX6_isName_4 (by decide) ?_
  refine lv_icmp_ne (tgt := 21) hx hb dX6_isName_6 (by decide) (fun hc => ?_) (fun hc => ?_)
  · have hr := iteN hc hr
    refine lv_iconst (v := 0) hx hb dX6_isName_21 (by decide) ?_
    have q0 := Option.some.inj hr
    subst q0
    exact W.zret (v := 0) hx hb hrt rfl (fun t ht hW => ⟨⟨0, (), rfl, ⟨rfl, rfl⟩, by rw [ht]; exact hP, va_K.moved hW.alike hK, hD⟩, hS.F ht⟩) hS.2.2 dX6_isName_22 hlocks
  · have hr := iteP hc hr
    refine lv_aload_n hx hb dX6_isName_9 rfl (lv_at hl 0 rfl) ?_
    refine va_get (D := (dC, dI)) (ci := 6) (v := .int v_key) (C := RX6) (T := TX6) (N := 12) hx hb hts (fun w h => List.mem_cons_of_mem _ (inU_6 w h)) hown hK hP 0 rfl rfl 8 (by decide) (hts _ (List.mem_cons_of_mem _ U_334)) (fun _ h9 => h9) rfl dX6_isName_10 ?_
    refine lv_iconst (v := (-1)) hx hb dX6_isName_13 (by decide) ?_
    refine lv_icmp_ne (tgt := 21) hx hb dX6_isName_14 (by decide) (fun hc => ?_) (fun hc => ?_)
    · have hr := iteN hc hr
      refine lv_iconst (v := 0) hx hb dX6_isName_21 (by decide) ?_
      have q0 := Option.some.inj hr
      subst q0
      exact W.zret (v := 0) hx hb hrt rfl (fun t ht hW => ⟨⟨0, (), rfl, ⟨rfl, rfl⟩, by rw [ht]; exact hP, va_K.moved hW.alike hK, hD⟩, hS.F ht⟩) hS.2.2 dX6_isName_22 hlocks
    · have hr := iteP hc hr
      refine lv_iconst (v := 1) hx hb dX6_isName_17 (by decide) ?_
      refine lv_goto (tgt := 22) hx hb dX6_isName_18 (by decide) ?_
      have q0 := Option.some.inj hr
      subst q0
      exact W.zret (v := 1) hx hb hrt rfl (fun t ht hW => ⟨⟨1, (), rfl, ⟨rfl, rfl⟩, by rw [ht]; exact hP, va_K.moved hW.alike hK, hD⟩, hS.F ht⟩) hS.2.2 dX6_isName_22 hlocks
set_option maxHeartbeats 4000000 in
set_option maxRecDepth 100000 in
theorem mX6_isName (l : Launch) (dC : Nat → ClassId) (dI : Nat → Nat → Nat) (cI cJ cB cZ cF cG : ClassId) (h_this : Nat) (h_tape : Nat) (h_keys : Nat) (sz : Nat) (v_most : Int32) (v_behind : Int32) (v_at : Int32) (v_kind : Int32) (v_number : Int32) (v_word : Int64) (v_key : Int32) (v_taken : Int32) (v_fault : Int32) (v_faultAt : Int32) (o_r : Int32) (hf : fX6_isName v_kind v_key = some o_r) : Met l yX6_isName uX6_isName ({ frames := 0, cells := 0, slots := 0, locals := 0 }) (va_Pc [.ref h_this] (fun U => U.heap.size = sz ∧ va_P (dC, dI) vwCl [oX6 h_this h_tape h_keys v_most v_behind v_at v_kind v_number v_word v_key v_taken v_fault v_faultAt] U.heap ∧ va_K (dC, dI) vwCl (TYS cI cJ cB cZ cF cG) U ∧ va_D (fun _ => True) [oX6 h_this h_tape h_keys v_most v_behind v_at v_kind v_number v_word v_key v_taken v_fault v_faultAt])) (PQz dC dI cI cJ cB cZ cF cG (va_A [oX6 h_this h_tape h_keys v_most v_behind v_at v_kind v_number v_word v_key v_taken v_fault v_faultAt] sz) o_r [oX6 h_this h_tape h_keys v_most v_behind v_at v_kind v_number v_word v_key v_taken v_fault v_faultAt]) 0 0 (va_A [oX6 h_this h_tape h_keys v_most v_behind v_at v_kind v_number v_word v_key v_taken v_fault v_faultAt] sz) := by
  refine Met.ofW (cc := cX6_isName) (maxL := 1) (ret := (some .boolean)) (by decide) rfl ?_
  intro p e s m args below meth c s₁ B hml hv
  obtain ⟨rfl, hsz, hP, hK, hD0⟩ := hv
  have hx := B.exec
  have hb := B.bytes
  have hr := B.returns
  have hts := atoms_spec (ws := uX6_isName) B.pre
  have hown : s.vm.findClass RX6 = some m.cls := findClass_of_methodNamed B.named
  have hlocks := B.notSynchronized
  subst hsz
  have hD := hD0.self (sz := s.heap.size)
  generalize hAe : va_A [oX6 h_this h_tape h_keys v_most v_behind v_at v_kind v_number v_word v_key v_taken v_fault v_faultAt] s.heap.size = A at hD ⊢
  have hA : ∀ q : Nat, s.heap.size ≤ q → A q := fun q h => by rw [← hAe]; exact Or.inr h
  have hS : va_S A s.heap s.heap [] := va_S.rf
  have hl := lv_entry ([.ref h_this]) (n := 1) (Nat.le_of_ble_eq_true rfl)
  rw [lg_entry_eq]
  generalize (lg_sl ([.ref h_this]) ++ List.replicate (1 - (lg_sl ([.ref h_this])).length) Slot.unset).toArray = ls at hl ⊢
  have hl : lv_has ls 1 [(0, .ref h_this)] := hl
  exact tX6_isName hA ⟨hx, hb, hr, hml, hown, hts, hlocks⟩ ⟨Nat.le_refl _, Nat.le_refl _⟩ h_this h_tape h_keys v_most v_behind v_at v_kind v_number v_word v_key v_taken v_fault v_faultAt o_r hf _ _ ⟨hK, hP, hD, hS⟩ ls hl
-- LastSeat$Reader.takeNamed(I)Z
def uX6_takeNamed : List Cond := .code yX6_takeNamed cX6_takeNamed 2 (some .boolean) :: wsU
set_option maxHeartbeats 4000000 in
set_option maxRecDepth 100000 in
theorem tX6_takeNamed {p : Program} {l : Launch} {e : Env} {R : Room} {s : State} {m : MethodId} {args : Array Value} {below : List Frame} {meth : Method} {c : Code} {dC : Nat → ClassId} {dI : Nat → Nat → Nat} {cI cJ cB cZ cF cG : ClassId} {A : Nat → Prop} (hA : ∀ q : Nat, s.heap.size ≤ q → A q) (C0 : Cx p s m meth c args cX6_takeNamed 2 (some .boolean) RX6 uX6_takeNamed) (hR : 2 ≤ R.frames ∧ 82 ≤ R.locals) (h_this : Nat) (h_tape : Nat) (h_tape_bytes : Nat) (h_keys : Nat) (n_tape_bytes : Nat) (v_most : Int32) (v_tape_size : Int32) (v_tape_bytes : Nat → Int32) (v_keys : Nat → Int64) (o_r : Int32) (o_behind : Int32) (o_at : Int32) (o_kind : Int32) (o_number : Int32) (o_word : Int64) (o_key : Int32) (o_taken : Int32) (o_fault : Int32) (o_faultAt : Int32) :
    ∀ (v_behind : Int32) (v_at : Int32) (v_kind : Int32) (v_number : Int32) (v_word : Int64) (v_key : Int32) (v_taken : Int32) (v_fault : Int32) (v_faultAt : Int32) (x1 : Int32), fX6_takeNamed n_tape_bytes v_most v_tape_size v_tape_bytes v_keys v_behind v_at v_kind v_number v_word v_key v_taken v_fault v_faultAt x1 = some (o_r, o_behind, o_at, o_kind, o_number, o_word, o_key, o_taken, o_fault, o_faultAt) → ∀ (H : Heap) (locs : List Loc), Wd dC dI cI cJ cB cZ cF cG A s H locs [oX6 h_this h_tape h_keys v_most v_behind v_at v_kind v_number v_word v_key v_taken v_fault v_faultAt, oX10 h_tape h_tape_bytes v_tape_size, aB cB h_tape_bytes n_tape_bytes v_tape_bytes, aJ cJ h_keys 22 v_keys] → ∀ (ls : Array Slot), lv_has ls 2 [(0, .ref h_this), (1, .int x1)] → W p l e R s m args below meth c H locs 0 0 (MQ below (PQz dC dI cI cJ cB cZ cF cG A o_r [oX6 h_this h_tape h_keys v_most o_behind o_at o_kind o_number o_word o_key o_taken o_fault o_faultAt, oX10 h_tape h_tape_bytes v_tape_size, aB cB h_tape_bytes n_tape_bytes v_tape_bytes, aJ cJ h_keys 22 v_keys]) args s 0 0 A) (F0 m 0 ls []) := by
  obtain ⟨hx, hb, hrt, hml, hown, hts, hlocks⟩ := id C0
  intro v_behind v_at v_kind v_number v_word v_key v_taken v_fault v_faultAt x1 hr H locs hW ls hl
  obtain ⟨hK, hP, hD, hS⟩ := hW
  have hr : ((fX6_isName v_kind v_key).bind (fun r_1 => if r_1 = 0 then (fX6_refuse v_at v_fault v_faultAt 1).bind (fun (r_4, u4_fault, u4_faultAt) => some (r_4, v_behind, v_at, v_kind, v_number, v_word, v_key, v_taken, u4_fault, u4_faultAt)) else if x1 = (-1) then (fX6_refuse v_at v_fault v_faultAt 3).bind (fun (r_3, u3_fault, u3_faultAt) => some (r_3, v_behind, v_at, v_kind, v_number, v_word, v_key, v_taken, u3_fault, u3_faultAt)) else (fX6_step n_tape_bytes v_most v_tape_size v_tape_bytes v_keys v_behind v_at v_kind v_number v_word v_key).bind (fun (u2_behind, u2_at, u2_kind, u2_number, u2_word, u2_key) => some (1, u2_behind, u2_at, u2_kind, u2_number, u2_word, u2_key, x1, v_fault, v_faultAt))) : Option (Int32 × Int32 × Int32 × Int32 × Int32 × Int64 × Int32 × Int32 × Int32 × Int32)) = some (o_r, o_behind, o_at, o_kind, o_number, o_word, o_key, o_taken, o_fault, o_faultAt) := hr
  refine lv_aload_n hx hb dX6_takeNamed_0 rfl (lv_at hl 0 rfl) ?_
  obtain ⟨r_1, ho, hr⟩ := bind_s hr
  have hPc := hP.sub (ws' := [oX6 h_this h_tape h_keys v_most v_behind v_at v_kind v_number v_word v_key v_taken v_fault v_faultAt]) [0] rfl
  have hDc := hD.sub (ws' := [oX6 h_this h_tape h_keys v_most v_behind v_at v_kind v_number v_word v_key v_taken v_fault v_faultAt]) [0] (by decide) rfl
  have hFc := va_free (wc := [oX6 h_this h_tape h_keys v_most v_behind v_at v_kind v_number v_word v_key v_taken v_fault v_faultAt]) hD hS hA [0] rfl
  refine va_calli (va_runV (As := []) (rest := []) ⟨hx, hb, hml, hown, hts⟩ (mX6_isName l dC dI cI cJ cB cZ cF cG h_this h_tape h_keys H.size v_most v_behind v_at v_kind v_number v_word v_key v_taken v_fault v_faultAt r_1 ho) (cwV 0 hts (goodV U_422 U_396 U_397 U_20 U_398) rfl rfl rfl (by decide +kernel) ⟨Nat.le_trans (by decide) hR.1, Nat.le_trans (Nat.le_of_ble_eq_true rfl) hR.2⟩) ⟨fun a U g mk q => by obtain ⟨q0, q1, qP, qK, qD⟩ := q; exact ⟨q0, q1, qP, va_K.moved (u := U) (U := U.calling g mk a) (Vm.Alike.refl U.vm) qK, qD⟩, va_recv hK hPc (ci := 6) (q0 := 0) rfl rfl, fun U hU hW => ⟨rfl, by rw [hU], by rw [hU]; exact hPc, va_K.moved hW.alike hK, hDc.weaken (fun _ _ _ _ => trivial)⟩⟩ rfl rfl hl.1 rfl (lv_room (Nat.le_of_ble_eq_true rfl)) dX6_takeNamed_1 ⟨Nat.zero_le _, Nat.zero_le _⟩) hS (fun q _ h => hFc q h) hFc (fun rz u t H1 locs ht hvm hw hB hz1 hk1 hS => ?_)
  obtain ⟨hP1, hK1, hD1⟩ := hB
  obtain ⟨hw, hz_1⟩ := hw
  have hw := hw.symm; subst hw
  rw [ht] at hP1
  obtain ⟨hP, hD⟩ := va_join (wr := [oX10 h_tape h_tape_bytes v_tape_size, aB cB h_tape_bytes n_tape_bytes v_tape_bytes, aJ cJ h_keys 22 v_keys]) (w1 := [oX6 h_this h_tape h_keys v_most v_behind v_at v_kind v_number v_word v_key v_taken v_fault v_faultAt]) hP hD [0] [1, 2, 3] rfl rfl (by decide) (by decide) hk1 hFc hP1 hD1
  generalize H1 = H at hP hS ⊢
  have hP := hP.sub (ws' := [oX6 h_this h_tape h_keys v_most v_behind v_at v_kind v_number v_word v_key v_taken v_fault v_faultAt, oX10 h_tape h_tape_bytes v_tape_size, aB cB h_tape_bytes n_tape_bytes v_tape_bytes, aJ cJ h_keys 22 v_keys]) [3, 0, 1, 2] rfl
  have hD := hD.sub (ws' := [oX6 h_this h_tape h_keys v_most v_behind v_at v_kind v_number v_word v_key v_taken v_fault v_faultAt, oX10 h_tape h_tape_bytes v_tape_size, aB cB h_tape_bytes n_tape_bytes v_tape_bytes, aJ cJ h_keys 22 v_keys]) [3, 0, 1, 2] (by decide) rfl
  refine lv_if_ne (tgt := 13) hx hb dX6_takeNamed_4 (by decide) (fun hc => ?_) (fun hc => ?_)
  · have hr := iteN hc hr
    refine lv_iload_n hx hb dX6_takeNamed_13 rfl (lv_at hl 1 rfl) ?_
    refine lv_iconst (v := (-1)) hx hb dX6_takeNamed_14 (by decide) ?_
    refine lv_icmp_ne (tgt := 24) hx hb dX6_takeNamed_15 (by decide) (fun hc => ?_) (fun hc => ?_)
    · have hr := iteN hc hr
      refine lv_aload_n hx hb dX6_takeNamed_24 rfl (lv_at hl 0 rfl) ?_
      refine lv_iload_n hx hb dX6_takeNamed_25 rfl (lv_at hl 1 rfl) ?_
      refine va_put (D := (dC, dI)) (ci := 6) (v := .int x1) (ty := .int) (C := RX6) (T := TX6) (N := 12) hx hb hts (fun w h => List.mem_cons_of_mem _ (inU_6 w h)) tyX6 tyX6_ok nmX6 hown hK hP hD hS 0 rfl rfl 9 (by decide) (hts _ (List.mem_cons_of_mem _ U_378)) (fun _ h9 => h9) rfl (by decide +kernel) rfl rfl (Nat.le_of_ble_eq_true rfl) dX6_takeNamed_26 (fun H locs hP hD hS => ?_)
      have hP : va_P (dC, dI) vwCl [oX6 h_this h_tape h_keys v_most v_behind v_at v_kind v_number v_word v_key x1 v_fault v_faultAt, oX10 h_tape h_tape_bytes v_tape_size, aB cB h_tape_bytes n_tape_bytes v_tape_bytes, aJ cJ h_keys 22 v_keys] H := hP
      have hD : va_D A [oX6 h_this h_tape h_keys v_most v_behind v_at v_kind v_number v_word v_key x1 v_fault v_faultAt, oX10 h_tape h_tape_bytes v_tape_size, aB cB h_tape_bytes n_tape_bytes v_tape_bytes, aJ cJ h_keys 22 v_keys] := hD
      refine lv_aload_n hx hb dX6_takeNamed_29 rfl (lv_at hl 0 rfl) ?_
      obtain ⟨⟨u2_behind, u2_at, u2_kind, u2_number, u2_word, u2_key⟩, ho, hr⟩ := bind_s hr
      dsimp only at hr
      have hPc := hP.sub (ws' := [oX6 h_this h_tape h_keys v_most v_behind v_at v_kind v_number v_word v_key x1 v_fault v_faultAt, oX10 h_tape h_tape_bytes v_tape_size, aB cB h_tape_bytes n_tape_bytes v_tape_bytes, aJ cJ h_keys 22 v_keys]) [0, 1, 2, 3] rfl
      have hDc := hD.sub (ws' := [oX6 h_this h_tape h_keys v_most v_behind v_at v_kind v_number v_word v_key x1 v_fault v_faultAt, oX10 h_tape h_tape_bytes v_tape_size, aB cB h_tape_bytes n_tape_bytes v_tape_bytes, aJ cJ h_keys 22 v_keys]) [0, 1, 2, 3] (by decide) rfl
      have hFc := va_free (wc := [oX6 h_this h_tape h_keys v_most v_behind v_at v_kind v_number v_word v_key x1 v_fault v_faultAt, oX10 h_tape h_tape_bytes v_tape_size, aB cB h_tape_bytes n_tape_bytes v_tape_bytes, aJ cJ h_keys 22 v_keys]) hD hS hA [0, 1, 2, 3] rfl
      refine va_callv (va_runV (As := []) (rest := []) ⟨hx, hb, hml, hown, hts⟩ (mX6_step l dC dI cI cJ cB cZ cF cG h_this h_tape h_tape_bytes h_keys H.size n_tape_bytes v_most v_behind v_at v_kind v_number v_word v_key x1 v_fault v_faultAt v_tape_size v_tape_bytes v_keys u2_behind u2_at u2_kind u2_number u2_word u2_key ho) (cwV 0 hts (goodV U_325 U_326 U_327 U_20 U_328) rfl rfl rfl (by decide +kernel) ⟨Nat.le_trans (by decide) hR.1, Nat.le_trans (Nat.le_of_ble_eq_true rfl) hR.2⟩) ⟨fun a U g mk q => by obtain ⟨q0, q1, qP, qK, qD⟩ := q; exact ⟨q0, q1, qP, va_K.moved (u := U) (U := U.calling g mk a) (Vm.Alike.refl U.vm) qK, qD⟩, va_recv hK hPc (ci := 6) (q0 := 0) rfl rfl, fun U hU hW => ⟨rfl, by rw [hU], by rw [hU]; exact hPc, va_K.moved hW.alike hK, hDc.weaken (fun _ _ _ _ => trivial)⟩⟩ rfl rfl hl.1 rfl (lv_room (Nat.le_of_ble_eq_true rfl)) dX6_takeNamed_30 ⟨Nat.zero_le _, Nat.zero_le _⟩) hS (fun q _ h => hFc q h) hFc (fun u t H1 locs ht hvm hw hB hz1 hk1 hS => ?_)
      obtain ⟨hP1, hK1, hD1⟩ := hB
      rw [ht] at hP1
      obtain ⟨hP, hD⟩ := va_join (wr := []) (w1 := [oX6 h_this h_tape h_keys v_most u2_behind u2_at u2_kind u2_number u2_word u2_key x1 v_fault v_faultAt, oX10 h_tape h_tape_bytes v_tape_size, aB cB h_tape_bytes n_tape_bytes v_tape_bytes, aJ cJ h_keys 22 v_keys]) hP hD [0, 1, 2, 3] [] rfl rfl (by decide) (by decide) hk1 hFc hP1 hD1
      generalize H1 = H at hP hS ⊢
      have hP : va_P (dC, dI) vwCl [oX6 h_this h_tape h_keys v_most u2_behind u2_at u2_kind u2_number u2_word u2_key x1 v_fault v_faultAt, oX10 h_tape h_tape_bytes v_tape_size, aB cB h_tape_bytes n_tape_bytes v_tape_bytes, aJ cJ h_keys 22 v_keys] H := hP
      have hD : va_D A [oX6 h_this h_tape h_keys v_most u2_behind u2_at u2_kind u2_number u2_word u2_key x1 v_fault v_faultAt, oX10 h_tape h_tape_bytes v_tape_size, aB cB h_tape_bytes n_tape_bytes v_tape_bytes, aJ cJ h_keys 22 v_keys] := hD
      refine z_pc (pc' := 33) rfl ?_
      refine lv_iconst (v := 1) hx hb dX6_takeNamed_33 (by decide) ?_
      have q0 := Option.some.inj hr
      obtain ⟨e0, q1⟩ := Prod.mk.inj q0
      obtain ⟨e1, q2⟩ := Prod.mk.inj q1
      obtain ⟨e2, q3⟩ := Prod.mk.inj q2
      obtain ⟨e3, q4⟩ := Prod.mk.inj q3
      obtain ⟨e4, q5⟩ := Prod.mk.inj q4
      obtain ⟨e5, q6⟩ := Prod.mk.inj q5
      obtain ⟨e6, q7⟩ := Prod.mk.inj q6
      obtain ⟨e7, q8⟩ := Prod.mk.inj q7
      obtain ⟨e8, q9⟩ := Prod.mk.inj q8
      subst e0; subst e1; subst e2; subst e3; subst e4; subst e5; subst e6; subst e7; subst e8; subst q9
      exact W.zret (v := 1) hx hb hrt rfl (fun t ht hW => ⟨⟨1, (), rfl, ⟨rfl, rfl⟩, by rw [ht]; exact hP, va_K.moved hW.alike hK, hD⟩, hS.F ht⟩) hS.2.2 dX6_takeNamed_34 hlocks
    · have hr := iteP hc hr
      refine lv_aload_n hx hb dX6_takeNamed_18 rfl (lv_at hl 0 rfl) ?_
      refine lv_iconst (v := 3) hx hb dX6_takeNamed_19 (by decide) ?_
      obtain ⟨⟨r_3, u3_fault, u3_faultAt⟩, ho, hr⟩ := bind_s hr
      dsimp only at hr
      have hPc := hP.sub (ws' := [oX6 h_this h_tape h_keys v_most v_behind v_at v_kind v_number v_word v_key v_taken v_fault v_faultAt]) [0] rfl
      have hDc := hD.sub (ws' := [oX6 h_this h_tape h_keys v_most v_behind v_at v_kind v_number v_word v_key v_taken v_fault v_faultAt]) [0] (by decide) rfl
      have hFc := va_free (wc := [oX6 h_this h_tape h_keys v_most v_behind v_at v_kind v_number v_word v_key v_taken v_fault v_faultAt]) hD hS hA [0] rfl
      refine va_calli (va_runV (As := [.int 3]) (rest := []) ⟨hx, hb, hml, hown, hts⟩ (mX6_refuse l dC dI cI cJ cB cZ cF cG h_this h_tape h_keys H.size v_most v_behind v_at v_kind v_number v_word v_key v_taken v_fault v_faultAt 3 r_3 u3_fault u3_faultAt ho) (cwV 1 hts (goodV U_379 U_370 U_371 U_20 U_372) rfl rfl rfl (by decide +kernel) ⟨Nat.le_trans (by decide) hR.1, Nat.le_trans (Nat.le_of_ble_eq_true rfl) hR.2⟩) ⟨fun a U g mk q => by obtain ⟨q0, q1, qP, qK, qD⟩ := q; exact ⟨q0, q1, qP, va_K.moved (u := U) (U := U.calling g mk a) (Vm.Alike.refl U.vm) qK, qD⟩, va_recv hK hPc (ci := 6) (q0 := 0) rfl rfl, fun U hU hW => ⟨rfl, by rw [hU], by rw [hU]; exact hPc, va_K.moved hW.alike hK, hDc.weaken (fun _ _ _ _ => trivial)⟩⟩ rfl rfl hl.1 rfl (lv_room (Nat.le_of_ble_eq_true rfl)) dX6_takeNamed_20 ⟨Nat.zero_le _, Nat.zero_le _⟩) hS (fun q _ h => hFc q h) hFc (fun rz u t H1 locs ht hvm hw hB hz1 hk1 hS => ?_)
      obtain ⟨hP1, hK1, hD1⟩ := hB
      obtain ⟨hw, hz_3⟩ := hw
      have hw := hw.symm; subst hw
      rw [ht] at hP1
      obtain ⟨hP, hD⟩ := va_join (wr := [oX10 h_tape h_tape_bytes v_tape_size, aB cB h_tape_bytes n_tape_bytes v_tape_bytes, aJ cJ h_keys 22 v_keys]) (w1 := [oX6 h_this h_tape h_keys v_most v_behind v_at v_kind v_number v_word v_key v_taken u3_fault u3_faultAt]) hP hD [0] [1, 2, 3] rfl rfl (by decide) (by decide) hk1 hFc hP1 hD1
      generalize H1 = H at hP hS ⊢
      have hP := hP.sub (ws' := [oX6 h_this h_tape h_keys v_most v_behind v_at v_kind v_number v_word v_key v_taken u3_fault u3_faultAt, oX10 h_tape h_tape_bytes v_tape_size, aB cB h_tape_bytes n_tape_bytes v_tape_bytes, aJ cJ h_keys 22 v_keys]) [3, 0, 1, 2] rfl
      have hD := hD.sub (ws' := [oX6 h_this h_tape h_keys v_most v_behind v_at v_kind v_number v_word v_key v_taken u3_fault u3_faultAt, oX10 h_tape h_tape_bytes v_tape_size, aB cB h_tape_bytes n_tape_bytes v_tape_bytes, aJ cJ h_keys 22 v_keys]) [3, 0, 1, 2] (by decide) rfl
      have q0 := Option.some.inj hr
      obtain ⟨e0, q1⟩ := Prod.mk.inj q0
      obtain ⟨e1, q2⟩ := Prod.mk.inj q1
      obtain ⟨e2, q3⟩ := Prod.mk.inj q2
      obtain ⟨e3, q4⟩ := Prod.mk.inj q3
      obtain ⟨e4, q5⟩ := Prod.mk.inj q4
      obtain ⟨e5, q6⟩ := Prod.mk.inj q5
      obtain ⟨e6, q7⟩ := Prod.mk.inj q6
      obtain ⟨e7, q8⟩ := Prod.mk.inj q7
      obtain ⟨e8, q9⟩ := Prod.mk.inj q8
      subst e0; subst e1; subst e2; subst e3; subst e4; subst e5; subst e6; subst e7; subst e8; subst q9
      exact W.zret (v := r_3) hx hb hrt hz_3 (fun t ht hW => ⟨⟨r_3, (), rfl, ⟨rfl, hz_3⟩, by rw [ht]; exact hP, va_K.moved hW.alike hK, hD⟩, hS.F ht⟩) hS.2.2 dX6_takeNamed_23 hlocks
  · have hr := iteP hc hr
    refine lv_aload_n hx hb dX6_takeNamed_7 rfl (lv_at hl 0 rfl) ?_
    refine lv_iconst (v := 1) hx hb dX6_takeNamed_8 (by decide) ?_
    obtain ⟨⟨r_4, u4_fault, u4_faultAt⟩, ho, hr⟩ := bind_s hr
    dsimp only at hr
    have hPc := hP.sub (ws' := [oX6 h_this h_tape h_keys v_most v_behind v_at v_kind v_number v_word v_key v_taken v_fault v_faultAt]) [0] rfl
    have hDc := hD.sub (ws' := [oX6 h_this h_tape h_keys v_most v_behind v_at v_kind v_number v_word v_key v_taken v_fault v_faultAt]) [0] (by decide) rfl
    have hFc := va_free (wc := [oX6 h_this h_tape h_keys v_most v_behind v_at v_kind v_number v_word v_key v_taken v_fault v_faultAt]) hD hS hA [0] rfl
    refine va_calli (va_runV (As := [.int 1]) (rest := []) ⟨hx, hb, hml, hown, hts⟩ (mX6_refuse l dC dI cI cJ cB cZ cF cG h_this h_tape h_keys H.size v_most v_behind v_at v_kind v_number v_word v_key v_taken v_fault v_faultAt 1 r_4 u4_fault u4_faultAt ho) (cwV 1 hts (goodV U_379 U_370 U_371 U_20 U_372) rfl rfl rfl (by decide +kernel) ⟨Nat.le_trans (by decide) hR.1, Nat.le_trans (Nat.le_of_ble_eq_true rfl) hR.2⟩) ⟨fun a U g mk q => by obtain ⟨q0, q1, qP, qK, qD⟩ := q; exact ⟨q0, q1, qP, va_K.moved (u := U) (U := U.calling g mk a) (Vm.Alike.refl U.vm) qK, qD⟩, va_recv hK hPc (ci := 6) (q0 := 0) rfl rfl, fun U hU hW => ⟨rfl, by rw [hU], by rw [hU]; exact hPc, va_K.moved hW.alike hK, hDc.weaken (fun _ _ _ _ => trivial)⟩⟩ rfl rfl hl.1 rfl (lv_room (Nat.le_of_ble_eq_true rfl)) dX6_takeNamed_9 ⟨Nat.zero_le _, Nat.zero_le _⟩) hS (fun q _ h => hFc q h) hFc (fun rz u t H1 locs ht hvm hw hB hz1 hk1 hS => ?_)
    obtain ⟨hP1, hK1, hD1⟩ := hB
    obtain ⟨hw, hz_4⟩ := hw
    have hw := hw.symm; subst hw
    rw [ht] at hP1
    obtain ⟨hP, hD⟩ := va_join (wr := [oX10 h_tape h_tape_bytes v_tape_size, aB cB h_tape_bytes n_tape_bytes v_tape_bytes, aJ cJ h_keys 22 v_keys]) (w1 := [oX6 h_this h_tape h_keys v_most v_behind v_at v_kind v_number v_word v_key v_taken u4_fault u4_faultAt]) hP hD [0] [1, 2, 3] rfl rfl (by decide) (by decide) hk1 hFc hP1 hD1
    generalize H1 = H at hP hS ⊢
    have hP := hP.sub (ws' := [oX6 h_this h_tape h_keys v_most v_behind v_at v_kind v_number v_word v_key v_taken u4_fault u4_faultAt, oX10 h_tape h_tape_bytes v_tape_size, aB cB h_tape_bytes n_tape_bytes v_tape_bytes, aJ cJ h_keys 22 v_keys]) [3, 0, 1, 2] rfl
    have hD := hD.sub (ws' := [oX6 h_this h_tape h_keys v_most v_behind v_at v_kind v_number v_word v_key v_taken u4_fault u4_faultAt, oX10 h_tape h_tape_bytes v_tape_size, aB cB h_tape_bytes n_tape_bytes v_tape_bytes, aJ cJ h_keys 22 v_keys]) [3, 0, 1, 2] (by decide) rfl
    have q0 := Option.some.inj hr
    obtain ⟨e0, q1⟩ := Prod.mk.inj q0
    obtain ⟨e1, q2⟩ := Prod.mk.inj q1
    obtain ⟨e2, q3⟩ := Prod.mk.inj q2
    obtain ⟨e3, q4⟩ := Prod.mk.inj q3
    obtain ⟨e4, q5⟩ := Prod.mk.inj q4
    obtain ⟨e5, q6⟩ := Prod.mk.inj q5
    obtain ⟨e6, q7⟩ := Prod.mk.inj q6
    obtain ⟨e7, q8⟩ := Prod.mk.inj q7
    obtain ⟨e8, q9⟩ := Prod.mk.inj q8
    subst e0; subst e1; subst e2; subst e3; subst e4; subst e5; subst e6; subst e7; subst e8; subst q9
    exact W.zret (v := r_4) hx hb hrt hz_4 (fun t ht hW => ⟨⟨r_4, (), rfl, ⟨rfl, hz_4⟩, by rw [ht]; exact hP, va_K.moved hW.alike hK, hD⟩, hS.F ht⟩) hS.2.2 dX6_takeNamed_12 hlocks
set_option maxHeartbeats 4000000 in
set_option maxRecDepth 100000 in
theorem mX6_takeNamed (l : Launch) (dC : Nat → ClassId) (dI : Nat → Nat → Nat) (cI cJ cB cZ cF cG : ClassId) (h_this : Nat) (h_tape : Nat) (h_tape_bytes : Nat) (h_keys : Nat) (sz : Nat) (n_tape_bytes : Nat) (v_most : Int32) (v_behind : Int32) (v_at : Int32) (v_kind : Int32) (v_number : Int32) (v_word : Int64) (v_key : Int32) (v_taken : Int32) (v_fault : Int32) (v_faultAt : Int32) (v_tape_size : Int32) (v_tape_bytes : Nat → Int32) (v_keys : Nat → Int64) (x1 : Int32) (o_r : Int32) (o_behind : Int32) (o_at : Int32) (o_kind : Int32) (o_number : Int32) (o_word : Int64) (o_key : Int32) (o_taken : Int32) (o_fault : Int32) (o_faultAt : Int32) (hf : fX6_takeNamed n_tape_bytes v_most v_tape_size v_tape_bytes v_keys v_behind v_at v_kind v_number v_word v_key v_taken v_fault v_faultAt x1 = some (o_r, o_behind, o_at, o_kind, o_number, o_word, o_key, o_taken, o_fault, o_faultAt)) : Met l yX6_takeNamed uX6_takeNamed ({ frames := 2, cells := 0, slots := 0, locals := 82 }) (va_Pc [.ref h_this, .int x1] (fun U => U.heap.size = sz ∧ va_P (dC, dI) vwCl [oX6 h_this h_tape h_keys v_most v_behind v_at v_kind v_number v_word v_key v_taken v_fault v_faultAt, oX10 h_tape h_tape_bytes v_tape_size, aB cB h_tape_bytes n_tape_bytes v_tape_bytes, aJ cJ h_keys 22 v_keys] U.heap ∧ va_K (dC, dI) vwCl (TYS cI cJ cB cZ cF cG) U ∧ va_D (fun _ => True) [oX6 h_this h_tape h_keys v_most v_behind v_at v_kind v_number v_word v_key v_taken v_fault v_faultAt, oX10 h_tape h_tape_bytes v_tape_size, aB cB h_tape_bytes n_tape_bytes v_tape_bytes, aJ cJ h_keys 22 v_keys])) (PQz dC dI cI cJ cB cZ cF cG (va_A [oX6 h_this h_tape h_keys v_most v_behind v_at v_kind v_number v_word v_key v_taken v_fault v_faultAt, oX10 h_tape h_tape_bytes v_tape_size, aB cB h_tape_bytes n_tape_bytes v_tape_bytes, aJ cJ h_keys 22 v_keys] sz) o_r [oX6 h_this h_tape h_keys v_most o_behind o_at o_kind o_number o_word o_key o_taken o_fault o_faultAt, oX10 h_tape h_tape_bytes v_tape_size, aB cB h_tape_bytes n_tape_bytes v_tape_bytes, aJ cJ h_keys 22 v_keys]) 0 0 (va_A [oX6 h_this h_tape h_keys v_most v_behind v_at v_kind v_number v_word v_key v_taken v_fault v_faultAt, oX10 h_tape h_tape_bytes v_tape_size, aB cB h_tape_bytes n_tape_bytes v_tape_bytes, aJ cJ h_keys 22 v_keys] sz) := by
  refine Met.ofW (cc := cX6_takeNamed) (maxL := 2) (ret := (some .boolean)) (by decide) rfl ?_
  intro p e s m args below meth c s₁ B hml hv
  obtain ⟨rfl, hsz, hP, hK, hD0⟩ := hv
  have hx := B.exec
  have hb := B.bytes
  have hr := B.returns
  have hts := atoms_spec (ws := uX6_takeNamed) B.pre
  have hown : s.vm.findClass RX6 = some m.cls := findClass_of_methodNamed B.named
  have hlocks := B.notSynchronized
  subst hsz
  have hD := hD0.self (sz := s.heap.size)
  generalize hAe : va_A [oX6 h_this h_tape h_keys v_most v_behind v_at v_kind v_number v_word v_key v_taken v_fault v_faultAt, oX10 h_tape h_tape_bytes v_tape_size, aB cB h_tape_bytes n_tape_bytes v_tape_bytes, aJ cJ h_keys 22 v_keys] s.heap.size = A at hD ⊢
  have hA : ∀ q : Nat, s.heap.size ≤ q → A q := fun q h => by rw [← hAe]; exact Or.inr h
  have hS : va_S A s.heap s.heap [] := va_S.rf
  have hl := lv_entry ([.ref h_this, .int x1]) (n := 2) (Nat.le_of_ble_eq_true rfl)
  rw [lg_entry_eq]
  generalize (lg_sl ([.ref h_this, .int x1]) ++ List.replicate (2 - (lg_sl ([.ref h_this, .int x1])).length) Slot.unset).toArray = ls at hl ⊢
  have hl : lv_has ls 2 [(0, .ref h_this), (1, .int x1)] := hl
  exact tX6_takeNamed hA ⟨hx, hb, hr, hml, hown, hts, hlocks⟩ ⟨Nat.le_refl _, Nat.le_refl _⟩ h_this h_tape h_tape_bytes h_keys n_tape_bytes v_most v_tape_size v_tape_bytes v_keys o_r o_behind o_at o_kind o_number o_word o_key o_taken o_fault o_faultAt v_behind v_at v_kind v_number v_word v_key v_taken v_fault v_faultAt x1 hf _ _ ⟨hK, hP, hD, hS⟩ ls hl
-- LastSeat$Reader.takeSign(I)Z
def uX6_takeSign : List Cond := .code yX6_takeSign cX6_takeSign 2 (some .boolean) :: wsU
set_option maxHeartbeats 4000000 in
set_option maxRecDepth 100000 in
theorem tX6_takeSign {p : Program} {l : Launch} {e : Env} {R : Room} {s : State} {m : MethodId} {args : Array Value} {below : List Frame} {meth : Method} {c : Code} {dC : Nat → ClassId} {dI : Nat → Nat → Nat} {cI cJ cB cZ cF cG : ClassId} {A : Nat → Prop} (hA : ∀ q : Nat, s.heap.size ≤ q → A q) (C0 : Cx p s m meth c args cX6_takeSign 2 (some .boolean) RX6 uX6_takeSign) (hR : 2 ≤ R.frames ∧ 82 ≤ R.locals) (h_this : Nat) (h_tape : Nat) (h_tape_bytes : Nat) (h_keys : Nat) (n_tape_bytes : Nat) (v_most : Int32) (v_taken : Int32) (v_tape_size : Int32) (v_tape_bytes : Nat → Int32) (v_keys : Nat → Int64) (o_r : Int32) (o_behind : Int32) (o_at : Int32) (o_kind : Int32) (o_number : Int32) (o_word : Int64) (o_key : Int32) (o_fault : Int32) (o_faultAt : Int32) :
    ∀ (v_behind : Int32) (v_at : Int32) (v_kind : Int32) (v_number : Int32) (v_word : Int64) (v_key : Int32) (v_fault : Int32) (v_faultAt : Int32) (x1 : Int32), fX6_takeSign n_tape_bytes v_most v_tape_size v_tape_bytes v_keys v_behind v_at v_kind v_number v_word v_key v_fault v_faultAt x1 = some (o_r, o_behind, o_at, o_kind, o_number, o_word, o_key, o_fault, o_faultAt) → ∀ (H : Heap) (locs : List Loc), Wd dC dI cI cJ cB cZ cF cG A s H locs [oX6 h_this h_tape h_keys v_most v_behind v_at v_kind v_number v_word v_key v_taken v_fault v_faultAt, oX10 h_tape h_tape_bytes v_tape_size, aB cB h_tape_bytes n_tape_bytes v_tape_bytes, aJ cJ h_keys 22 v_keys] → ∀ (ls : Array Slot), lv_has ls 2 [(0, .ref h_this), (1, .int x1)] → W p l e R s m args below meth c H locs 0 0 (MQ below (PQz dC dI cI cJ cB cZ cF cG A o_r [oX6 h_this h_tape h_keys v_most o_behind o_at o_kind o_number o_word o_key v_taken o_fault o_faultAt, oX10 h_tape h_tape_bytes v_tape_size, aB cB h_tape_bytes n_tape_bytes v_tape_bytes, aJ cJ h_keys 22 v_keys]) args s 0 0 A) (F0 m 0 ls []) := by
  obtain ⟨hx, hb, hrt, hml, hown, hts, hlocks⟩ := id C0
  intro v_behind v_at v_kind v_number v_word v_key v_fault v_faultAt x1 hr H locs hW ls hl
  obtain ⟨hK, hP, hD, hS⟩ := hW
  have hr : (if v_kind = x1 then (fX6_step n_tape_bytes v_most v_tape_size v_tape_bytes v_keys v_behind v_at v_kind v_number v_word v_key).bind (fun (u1_behind, u1_at, u1_kind, u1_number, u1_word, u1_key) => some (1, u1_behind, u1_at, u1_kind, u1_number, u1_word, u1_key, v_fault, v_faultAt)) else (fX6_refuse v_at v_fault v_faultAt 1).bind (fun (r_2, u2_fault, u2_faultAt) => some (r_2, v_behind, v_at, v_kind, v_number, v_word, v_key, u2_fault, u2_faultAt)) : Option (Int32 × Int32 × Int32 × Int32 × Int32 × Int64 × Int32 × Int32 × Int32)) = some (o_r, o_behind, o_at, o_kind, o_number, o_word, o_key, o_fault, o_faultAt) := hr
  refine lv_aload_n hx hb dX6_takeSign_0 rfl (lv_at hl 0 rfl) ?_
  refine va_get (D := (dC, dI)) (ci := 6) (v := .int v_kind) (C := RX6) (T := TX6) (N := 12) hx hb hts (fun w h => List.mem_cons_of_mem _ (inU_6 w h)) hown hK hP 0 rfl rfl 5 (by decide) (hts _ (List.mem_cons_of_mem _ U_335)) (fun _ h9 => h9) rfl dX6_takeSign_1 ?_
  refine lv_iload_n hx hb dX6_takeSign_4 rfl (lv_at hl 1 rfl) ?_
  refine lv_icmp_eq (tgt := 14) hx hb dX6_takeSign_5 (by decide) (fun hc => ?_) (fun hc => ?_)
  · have hr := iteP hc hr
    refine lv_aload_n hx hb dX6_takeSign_14 rfl (lv_at hl 0 rfl) ?_
    obtain ⟨⟨u1_behind, u1_at, u1_kind, u1_number, u1_word, u1_key⟩, ho, hr⟩ := bind_s hr
    dsimp only at hr
    have hPc := hP.sub (ws' := [oX6 h_this h_tape h_keys v_most v_behind v_at v_kind v_number v_word v_key v_taken v_fault v_faultAt, oX10 h_tape h_tape_bytes v_tape_size, aB cB h_tape_bytes n_tape_bytes v_tape_bytes, aJ cJ h_keys 22 v_keys]) [0, 1, 2, 3] rfl
    have hDc := hD.sub (ws' := [oX6 h_this h_tape h_keys v_most v_behind v_at v_kind v_number v_word v_key v_taken v_fault v_faultAt, oX10 h_tape h_tape_bytes v_tape_size, aB cB h_tape_bytes n_tape_bytes v_tape_bytes, aJ cJ h_keys 22 v_keys]) [0, 1, 2, 3] (by decide) rfl
    have hFc := va_free (wc := [oX6 h_this h_tape h_keys v_most v_behind v_at v_kind v_number v_word v_key v_taken v_fault v_faultAt, oX10 h_tape h_tape_bytes v_tape_size, aB cB h_tape_bytes n_tape_bytes v_tape_bytes, aJ cJ h_keys 22 v_keys]) hD hS hA [0, 1, 2, 3] rfl
    refine va_callv (va_runV (As := []) (rest := []) ⟨hx, hb, hml, hown, hts⟩ (mX6_step l dC dI cI cJ cB cZ cF cG h_this h_tape h_tape_bytes h_keys H.size n_tape_bytes v_most v_behind v_at v_kind v_number v_word v_key v_taken v_fault v_faultAt v_tape_size v_tape_bytes v_keys u1_behind u1_at u1_kind u1_number u1_word u1_key ho) (cwV 0 hts (goodV U_325 U_326 U_327 U_20 U_328) rfl rfl rfl (by decide +kernel) ⟨Nat.le_trans (by decide) hR.1, Nat.le_trans (Nat.le_of_ble_eq_true rfl) hR.2⟩) ⟨fun a U g mk q => by obtain ⟨q0, q1, qP, qK, qD⟩ := q; exact ⟨q0, q1, qP, va_K.moved (u := U) (U := U.calling g mk a) (Vm.Alike.refl U.vm) qK, qD⟩, va_recv hK hPc (ci := 6) (q0 := 0) rfl rfl, fun U hU hW => ⟨rfl, by rw [hU], by rw [hU]; exact hPc, va_K.moved hW.alike hK, hDc.weaken (fun _ _ _ _ => trivial)⟩⟩ rfl rfl hl.1 rfl (lv_room (Nat.le_of_ble_eq_true rfl)) dX6_takeSign_15 ⟨Nat.zero_le _, Nat.zero_le _⟩) hS (fun q _ h => hFc q h) hFc (fun u t H1 locs ht hvm hw hB hz1 hk1 hS => ?_)
    obtain ⟨hP1, hK1, hD1⟩ := hB
    rw [ht] at hP1
    obtain ⟨hP, hD⟩ := va_join (wr := []) (w1 := [oX6 h_this h_tape h_keys v_most u1_behind u1_at u1_kind u1_number u1_word u1_key v_taken v_fault v_faultAt, oX10 h_tape h_tape_bytes v_tape_size, aB cB h_tape_bytes n_tape_bytes v_tape_bytes, aJ cJ h_keys 22 v_keys]) hP hD [0, 1, 2, 3] [] rfl rfl (by decide) (by decide) hk1 hFc hP1 hD1
    generalize H1 = H at hP hS ⊢
    have hP : va_P (dC, dI) vwCl [oX6 h_this h_tape h_keys v_most u1_behind u1_at u1_kind u1_number u1_word u1_key v_taken v_fault v_faultAt, oX10 h_tape h_tape_bytes v_tape_size, aB cB h_tape_bytes n_tape_bytes v_tape_bytes, aJ cJ h_keys 22 v_keys] H := hP
    have hD : va_D A [oX6 h_this h_tape h_keys v_most u1_behind u1_at u1_kind u1_number u1_word u1_key v_taken v_fault v_faultAt, oX10 h_tape h_tape_bytes v_tape_size, aB cB h_tape_bytes n_tape_bytes v_tape_bytes, aJ cJ h_keys 22 v_keys] := hD
    refine lv_iconst (v := 1) hx hb dX6_takeSign_18 (by decide) ?_
    have q0 := Option.some.inj hr
    obtain ⟨e0, q1⟩ := Prod.mk.inj q0
    obtain ⟨e1, q2⟩ := Prod.mk.inj q1
    obtain ⟨e2, q3⟩ := Prod.mk.inj q2
    obtain ⟨e3, q4⟩ := Prod.mk.inj q3
    obtain ⟨e4, q5⟩ := Prod.mk.inj q4
    obtain ⟨e5, q6⟩ := Prod.mk.inj q5
    obtain ⟨e6, q7⟩ := Prod.mk.inj q6
    obtain ⟨e7, q8⟩ := Prod.mk.inj q7
    subst e0; subst e1; subst e2; subst e3; subst e4; subst e5; subst e6; subst e7; subst q8
    exact W.zret (v := 1) hx hb hrt rfl (fun t ht hW => ⟨⟨1, (), rfl, ⟨rfl, rfl⟩, by rw [ht]; exact hP, va_K.moved hW.alike hK, hD⟩, hS.F ht⟩) hS.2.2 dX6_takeSign_19 hlocks
  · have hr := iteN hc hr
    refine lv_aload_n hx hb dX6_takeSign_8 rfl (lv_at hl 0 rfl) ?_
    refine lv_iconst (v := 1) hx hb dX6_takeSign_9 (by decide) ?_
    obtain ⟨⟨r_2, u2_fault, u2_faultAt⟩, ho, hr⟩ := bind_s hr
    dsimp only at hr
    have hPc := hP.sub (ws' := [oX6 h_this h_tape h_keys v_most v_behind v_at v_kind v_number v_word v_key v_taken v_fault v_faultAt]) [0] rfl
    have hDc := hD.sub (ws' := [oX6 h_this h_tape h_keys v_most v_behind v_at v_kind v_number v_word v_key v_taken v_fault v_faultAt]) [0] (by decide) rfl
    have hFc := va_free (wc := [oX6 h_this h_tape h_keys v_most v_behind v_at v_kind v_number v_word v_key v_taken v_fault v_faultAt]) hD hS hA [0] rfl
    refine va_calli (va_runV (As := [.int 1]) (rest := []) ⟨hx, hb, hml, hown, hts⟩ (mX6_refuse l dC dI cI cJ cB cZ cF cG h_this h_tape h_keys H.size v_most v_behind v_at v_kind v_number v_word v_key v_taken v_fault v_faultAt 1 r_2 u2_fault u2_faultAt ho) (cwV 1 hts (goodV U_379 U_370 U_371 U_20 U_372) rfl rfl rfl (by decide +kernel) ⟨Nat.le_trans (by decide) hR.1, Nat.le_trans (Nat.le_of_ble_eq_true rfl) hR.2⟩) ⟨fun a U g mk q => by obtain ⟨q0, q1, qP, qK, qD⟩ := q; exact ⟨q0, q1, qP, va_K.moved (u := U) (U := U.calling g mk a) (Vm.Alike.refl U.vm) qK, qD⟩, va_recv hK hPc (ci := 6) (q0 := 0) rfl rfl, fun U hU hW => ⟨rfl, by rw [hU], by rw [hU]; exact hPc, va_K.moved hW.alike hK, hDc.weaken (fun _ _ _ _ => trivial)⟩⟩ rfl rfl hl.1 rfl (lv_room (Nat.le_of_ble_eq_true rfl)) dX6_takeSign_10 ⟨Nat.zero_le _, Nat.zero_le _⟩) hS (fun q _ h => hFc q h) hFc (fun rz u t H1 locs ht hvm hw hB hz1 hk1 hS => ?_)
    obtain ⟨hP1, hK1, hD1⟩ := hB
    obtain ⟨hw, hz_2⟩ := hw
    have hw := hw.symm; subst hw
    rw [ht] at hP1
    obtain ⟨hP, hD⟩ := va_join (wr := [oX10 h_tape h_tape_bytes v_tape_size, aB cB h_tape_bytes n_tape_bytes v_tape_bytes, aJ cJ h_keys 22 v_keys]) (w1 := [oX6 h_this h_tape h_keys v_most v_behind v_at v_kind v_number v_word v_key v_taken u2_fault u2_faultAt]) hP hD [0] [1, 2, 3] rfl rfl (by decide) (by decide) hk1 hFc hP1 hD1
    generalize H1 = H at hP hS ⊢
    have hP := hP.sub (ws' := [oX6 h_this h_tape h_keys v_most v_behind v_at v_kind v_number v_word v_key v_taken u2_fault u2_faultAt, oX10 h_tape h_tape_bytes v_tape_size, aB cB h_tape_bytes n_tape_bytes v_tape_bytes, aJ cJ h_keys 22 v_keys]) [3, 0, 1, 2] rfl
    have hD := hD.sub (ws' := [oX6 h_this h_tape h_keys v_most v_behind v_at v_kind v_number v_word v_key v_taken u2_fault u2_faultAt, oX10 h_tape h_tape_bytes v_tape_size, aB cB h_tape_bytes n_tape_bytes v_tape_bytes, aJ cJ h_keys 22 v_keys]) [3, 0, 1, 2] (by decide) rfl
    have q0 := Option.some.inj hr
    obtain ⟨e0, q1⟩ := Prod.mk.inj q0
    obtain ⟨e1, q2⟩ := Prod.mk.inj q1
    obtain ⟨e2, q3⟩ := Prod.mk.inj q2
    obtain ⟨e3, q4⟩ := Prod.mk.inj q3
    obtain ⟨e4, q5⟩ := Prod.mk.inj q4
    obtain ⟨e5, q6⟩ := Prod.mk.inj q5
    obtain ⟨e6, q7⟩ := Prod.mk.inj q6
    obtain ⟨e7, q8⟩ := Prod.mk.inj q7
    subst e0; subst e1; subst e2; subst e3; subst e4; subst e5; subst e6; subst e7; subst q8
    exact W.zret (v := r_2) hx hb hrt hz_2 (fun t ht hW => ⟨⟨r_2, (), rfl, ⟨rfl, hz_2⟩, by rw [ht]; exact hP, va_K.moved hW.alike hK, hD⟩, hS.F ht⟩) hS.2.2 dX6_takeSign_13 hlocks
set_option maxHeartbeats 4000000 in
set_option maxRecDepth 100000 in
theorem mX6_takeSign (l : Launch) (dC : Nat → ClassId) (dI : Nat → Nat → Nat) (cI cJ cB cZ cF cG : ClassId) (h_this : Nat) (h_tape : Nat) (h_tape_bytes : Nat) (h_keys : Nat) (sz : Nat) (n_tape_bytes : Nat) (v_most : Int32) (v_behind : Int32) (v_at : Int32) (v_kind : Int32) (v_number : Int32) (v_word : Int64) (v_key : Int32) (v_taken : Int32) (v_fault : Int32) (v_faultAt : Int32) (v_tape_size : Int32) (v_tape_bytes : Nat → Int32) (v_keys : Nat → Int64) (x1 : Int32) (o_r : Int32) (o_behind : Int32) (o_at : Int32) (o_kind : Int32) (o_number : Int32) (o_word : Int64) (o_key : Int32) (o_fault : Int32) (o_faultAt : Int32) (hf : fX6_takeSign n_tape_bytes v_most v_tape_size v_tape_bytes v_keys v_behind v_at v_kind v_number v_word v_key v_fault v_faultAt x1 = some (o_r, o_behind, o_at, o_kind, o_number, o_word, o_key, o_fault, o_faultAt)) : Met l yX6_takeSign uX6_takeSign ({ frames := 2, cells := 0, slots := 0, locals := 82 }) (va_Pc [.ref h_this, .int x1] (fun U => U.heap.size = sz ∧ va_P (dC, dI) vwCl [oX6 h_this h_tape h_keys v_most v_behind v_at v_kind v_number v_word v_key v_taken v_fault v_faultAt, oX10 h_tape h_tape_bytes v_tape_size, aB cB h_tape_bytes n_tape_bytes v_tape_bytes, aJ cJ h_keys 22 v_keys] U.heap ∧ va_K (dC, dI) vwCl (TYS cI cJ cB cZ cF cG) U ∧ va_D (fun _ => True) [oX6 h_this h_tape h_keys v_most v_behind v_at v_kind v_number v_word v_key v_taken v_fault v_faultAt, oX10 h_tape h_tape_bytes v_tape_size, aB cB h_tape_bytes n_tape_bytes v_tape_bytes, aJ cJ h_keys 22 v_keys])) (PQz dC dI cI cJ cB cZ cF cG (va_A [oX6 h_this h_tape h_keys v_most v_behind v_at v_kind v_number v_word v_key v_taken v_fault v_faultAt, oX10 h_tape h_tape_bytes v_tape_size, aB cB h_tape_bytes n_tape_bytes v_tape_bytes, aJ cJ h_keys 22 v_keys] sz) o_r [oX6 h_this h_tape h_keys v_most o_behind o_at o_kind o_number o_word o_key v_taken o_fault o_faultAt, oX10 h_tape h_tape_bytes v_tape_size, aB cB h_tape_bytes n_tape_bytes v_tape_bytes, aJ cJ h_keys 22 v_keys]) 0 0 (va_A [oX6 h_this h_tape h_keys v_most v_behind v_at v_kind v_number v_word v_key v_taken v_fault v_faultAt, oX10 h_tape h_tape_bytes v_tape_size, aB cB h_tape_bytes n_tape_bytes v_tape_bytes, aJ cJ h_keys 22 v_keys] sz) := by
  refine Met.ofW (cc := cX6_takeSign) (maxL := 2) (ret := (some .boolean)) (by decide) rfl ?_
  intro p e s m args below meth c s₁ B hml hv
  obtain ⟨rfl, hsz, hP, hK, hD0⟩ := hv
  have hx := B.exec
  have hb := B.bytes
  have hr := B.returns
  have hts := atoms_spec (ws := uX6_takeSign) B.pre
  have hown : s.vm.findClass RX6 = some m.cls := findClass_of_methodNamed B.named
  have hlocks := B.notSynchronized
  subst hsz
  have hD := hD0.self (sz := s.heap.size)
  generalize hAe : va_A [oX6 h_this h_tape h_keys v_most v_behind v_at v_kind v_number v_word v_key v_taken v_fault v_faultAt, oX10 h_tape h_tape_bytes v_tape_size, aB cB h_tape_bytes n_tape_bytes v_tape_bytes, aJ cJ h_keys 22 v_keys] s.heap.size = A at hD ⊢
  have hA : ∀ q : Nat, s.heap.size ≤ q → A q := fun q h => by rw [← hAe]; exact Or.inr h
  have hS : va_S A s.heap s.heap [] := va_S.rf
  have hl := lv_entry ([.ref h_this, .int x1]) (n := 2) (Nat.le_of_ble_eq_true rfl)
  rw [lg_entry_eq]
  generalize (lg_sl ([.ref h_this, .int x1]) ++ List.replicate (2 - (lg_sl ([.ref h_this, .int x1])).length) Slot.unset).toArray = ls at hl ⊢
  have hl : lv_has ls 2 [(0, .ref h_this), (1, .int x1)] := hl
  exact tX6_takeSign hA ⟨hx, hb, hr, hml, hown, hts, hlocks⟩ ⟨Nat.le_refl _, Nat.le_refl _⟩ h_this h_tape h_tape_bytes h_keys n_tape_bytes v_most v_taken v_tape_size v_tape_bytes v_keys o_r o_behind o_at o_kind o_number o_word o_key o_fault o_faultAt v_behind v_at v_kind v_number v_word v_key v_fault v_faultAt x1 hf _ _ ⟨hK, hP, hD, hS⟩ ls hl
-- LastSeat$Reader.open(I)V
def uX6_open : List Cond := .code yX6_open cX6_open 2 none :: wsU
set_option maxHeartbeats 4000000 in
set_option maxRecDepth 100000 in
theorem tX6_open {p : Program} {l : Launch} {e : Env} {R : Room} {s : State} {m : MethodId} {args : Array Value} {below : List Frame} {meth : Method} {c : Code} {dC : Nat → ClassId} {dI : Nat → Nat → Nat} {cI cJ cB cZ cF cG : ClassId} {A : Nat → Prop} (hA : ∀ q : Nat, s.heap.size ≤ q → A q) (C0 : Cx p s m meth c args cX6_open 2 none RX6 uX6_open) (hR : 2 ≤ R.frames ∧ 82 ≤ R.locals) (h_this : Nat) (h_tape : Nat) (h_tape_bytes : Nat) (h_keys : Nat) (n_tape_bytes : Nat) (v_taken : Int32) (v_tape_size : Int32) (v_tape_bytes : Nat → Int32) (v_keys : Nat → Int64) (o_most : Int32) (o_behind : Int32) (o_at : Int32) (o_kind : Int32) (o_number : Int32) (o_word : Int64) (o_key : Int32) (o_fault : Int32) (o_faultAt : Int32) :
    ∀ (v_most : Int32) (v_behind : Int32) (v_at : Int32) (v_kind : Int32) (v_number : Int32) (v_word : Int64) (v_key : Int32) (v_fault : Int32) (v_faultAt : Int32) (x1 : Int32), fX6_open n_tape_bytes v_tape_size v_tape_bytes v_keys v_most v_behind v_at v_kind v_number v_word v_key v_fault v_faultAt x1 = some (o_most, o_behind, o_at, o_kind, o_number, o_word, o_key, o_fault, o_faultAt) → ∀ (H : Heap) (locs : List Loc), Wd dC dI cI cJ cB cZ cF cG A s H locs [oX6 h_this h_tape h_keys v_most v_behind v_at v_kind v_number v_word v_key v_taken v_fault v_faultAt, oX10 h_tape h_tape_bytes v_tape_size, aB cB h_tape_bytes n_tape_bytes v_tape_bytes, aJ cJ h_keys 22 v_keys] → ∀ (ls : Array Slot), lv_has ls 2 [(0, .ref h_this), (1, .int x1)] → W p l e R s m args below meth c H locs 0 0 (MQ below (PQv dC dI cI cJ cB cZ cF cG A [oX6 h_this h_tape h_keys o_most o_behind o_at o_kind o_number o_word o_key v_taken o_fault o_faultAt, oX10 h_tape h_tape_bytes v_tape_size, aB cB h_tape_bytes n_tape_bytes v_tape_bytes, aJ cJ h_keys 22 v_keys]) args s 0 0 A) (F0 m 0 ls []) := by
  obtain ⟨hx, hb, hrt, hml, hown, hts, hlocks⟩ := id C0
  intro v_most v_behind v_at v_kind v_number v_word v_key v_fault v_faultAt x1 hr H locs hW ls hl
  obtain ⟨hK, hP, hD, hS⟩ := hW
  have hr : ((fX6_step n_tape_bytes x1 v_tape_size v_tape_bytes v_keys 0 v_at v_kind v_number v_word v_key).bind (fun (u1_behind, u1_at, u1_kind, u1_number, u1_word, u1_key) => some (x1, u1_behind, u1_at, u1_kind, u1_number, u1_word, u1_key, 0, 0)) : Option (Int32 × Int32 × Int32 × Int32 × Int32 × Int64 × Int32 × Int32 × Int32)) = some (o_most, o_behind, o_at, o_kind, o_number, o_word, o_key, o_fault, o_faultAt) := hr
  refine lv_aload_n hx hb dX6_open_0 rfl (lv_at hl 0 rfl) ?_
  refine lv_iload_n hx hb dX6_open_1 rfl (lv_at hl 1 rfl) ?_
  refine va_put (D := (dC, dI)) (ci := 6) (v := .int x1) (ty := .int) (C := RX6) (T := TX6) (N := 12) hx hb hts (fun w h => List.mem_cons_of_mem _ (inU_6 w h)) tyX6 tyX6_ok nmX6 hown hK hP hD hS 0 rfl rfl 2 (by decide) (hts _ (List.mem_cons_of_mem _ U_321)) (fun _ h9 => h9) rfl (by decide +kernel) rfl rfl (Nat.le_of_ble_eq_true rfl) dX6_open_2 (fun H locs hP hD hS => ?_)
  have hP : va_P (dC, dI) vwCl [oX6 h_this h_tape h_keys x1 v_behind v_at v_kind v_number v_word v_key v_taken v_fault v_faultAt, oX10 h_tape h_tape_bytes v_tape_size, aB cB h_tape_bytes n_tape_bytes v_tape_bytes, aJ cJ h_keys 22 v_keys] H := hP
  have hD : va_D A [oX6 h_this h_tape h_keys x1 v_behind v_at v_kind v_number v_word v_key v_taken v_fault v_faultAt, oX10 h_tape h_tape_bytes v_tape_size, aB cB h_tape_bytes n_tape_bytes v_tape_bytes, aJ cJ h_keys 22 v_keys] := hD
  refine lv_aload_n hx hb dX6_open_5 rfl (lv_at hl 0 rfl) ?_
  refine lv_iconst (v := 0) hx hb dX6_open_6 (by decide) ?_
  refine z_pc (pc' := 7) rfl ?_
  refine va_put (D := (dC, dI)) (ci := 6) (v := .int 0) (ty := .int) (C := RX6) (T := TX6) (N := 12) hx hb hts (fun w h => List.mem_cons_of_mem _ (inU_6 w h)) tyX6 tyX6_ok nmX6 hown hK hP hD hS 0 rfl rfl 3 (by decide) (hts _ (List.mem_cons_of_mem _ U_322)) (fun _ h9 => h9) rfl (by decide +kernel) rfl rfl (Nat.le_of_ble_eq_true rfl) dX6_open_7 (fun H locs hP hD hS => ?_)
  have hP : va_P (dC, dI) vwCl [oX6 h_this h_tape h_keys x1 0 v_at v_kind v_number v_word v_key v_taken v_fault v_faultAt, oX10 h_tape h_tape_bytes v_tape_size, aB cB h_tape_bytes n_tape_bytes v_tape_bytes, aJ cJ h_keys 22 v_keys] H := hP
  have hD : va_D A [oX6 h_this h_tape h_keys x1 0 v_at v_kind v_number v_word v_key v_taken v_fault v_faultAt, oX10 h_tape h_tape_bytes v_tape_size, aB cB h_tape_bytes n_tape_bytes v_tape_bytes, aJ cJ h_keys 22 v_keys] := hD
  refine lv_aload_n hx hb dX6_open_10 rfl (lv_at hl 0 rfl) ?_
  refine lv_iconst (v := 0) hx hb dX6_open_11 (by decide) ?_
  refine va_put (D := (dC, dI)) (ci := 6) (v := .int 0) (ty := .int) (C := RX6) (T := TX6) (N := 12) hx hb hts (fun w h => List.mem_cons_of_mem _ (inU_6 w h)) tyX6 tyX6_ok nmX6 hown hK hP hD hS 0 rfl rfl 10 (by decide) (hts _ (List.mem_cons_of_mem _ U_323)) (fun _ h9 => h9) rfl (by decide +kernel) rfl rfl (Nat.le_of_ble_eq_true rfl) dX6_open_12 (fun H locs hP hD hS => ?_)
  have hP : va_P (dC, dI) vwCl [oX6 h_this h_tape h_keys x1 0 v_at v_kind v_number v_word v_key v_taken 0 v_faultAt, oX10 h_tape h_tape_bytes v_tape_size, aB cB h_tape_bytes n_tape_bytes v_tape_bytes, aJ cJ h_keys 22 v_keys] H := hP
  have hD : va_D A [oX6 h_this h_tape h_keys x1 0 v_at v_kind v_number v_word v_key v_taken 0 v_faultAt, oX10 h_tape h_tape_bytes v_tape_size, aB cB h_tape_bytes n_tape_bytes v_tape_bytes, aJ cJ h_keys 22 v_keys] := hD
  refine lv_aload_n hx hb dX6_open_15 rfl (lv_at hl 0 rfl) ?_
  refine lv_iconst (v := 0) hx hb dX6_open_16 (by decide) ?_
  refine z_pc (pc' := 17) rfl ?_
  refine va_put (D := (dC, dI)) (ci := 6) (v := .int 0) (ty := .int) (C := RX6) (T := TX6) (N := 12) hx hb hts (fun w h => List.mem_cons_of_mem _ (inU_6 w h)) tyX6 tyX6_ok nmX6 hown hK hP hD hS 0 rfl rfl 11 (by decide) (hts _ (List.mem_cons_of_mem _ U_324)) (fun _ h9 => h9) rfl (by decide +kernel) rfl rfl (Nat.le_of_ble_eq_true rfl) dX6_open_17 (fun H locs hP hD hS => ?_)
  have hP : va_P (dC, dI) vwCl [oX6 h_this h_tape h_keys x1 0 v_at v_kind v_number v_word v_key v_taken 0 0, oX10 h_tape h_tape_bytes v_tape_size, aB cB h_tape_bytes n_tape_bytes v_tape_bytes, aJ cJ h_keys 22 v_keys] H := hP
  have hD : va_D A [oX6 h_this h_tape h_keys x1 0 v_at v_kind v_number v_word v_key v_taken 0 0, oX10 h_tape h_tape_bytes v_tape_size, aB cB h_tape_bytes n_tape_bytes v_tape_bytes, aJ cJ h_keys 22 v_keys] := hD
  refine lv_aload_n hx hb dX6_open_20 rfl (lv_at hl 0 rfl) ?_
  obtain ⟨⟨u1_behind, u1_at, u1_kind, u1_number, u1_word, u1_key⟩, ho, hr⟩ := bind_s hr
  dsimp only at hr
  have hPc := hP.sub (ws' := [oX6 h_this h_tape h_keys x1 0 v_at v_kind v_number v_word v_key v_taken 0 0, oX10 h_tape h_tape_bytes v_tape_size, aB cB h_tape_bytes n_tape_bytes v_tape_bytes, aJ cJ h_keys 22 v_keys]) [0, 1, 2, 3] rfl
  have hDc := hD.sub (ws' := [oX6 h_this h_tape h_keys x1 0 v_at v_kind v_number v_word v_key v_taken 0 0, oX10 h_tape h_tape_bytes v_tape_size, aB cB h_tape_bytes n_tape_bytes v_tape_bytes, aJ cJ h_keys 22 v_keys]) [0, 1, 2, 3] (by decide) rfl
  have hFc := va_free (wc := [oX6 h_this h_tape h_keys x1 0 v_at v_kind v_number v_word v_key v_taken 0 0, oX10 h_tape h_tape_bytes v_tape_size, aB cB h_tape_bytes n_tape_bytes v_tape_bytes, aJ cJ h_keys 22 v_keys]) hD hS hA [0, 1, 2, 3] rfl
  refine va_callv (va_runV (As := []) (rest := []) ⟨hx, hb, hml, hown, hts⟩ (mX6_step l dC dI cI cJ cB cZ cF cG h_this h_tape h_tape_bytes h_keys H.size n_tape_bytes x1 0 v_at v_kind v_number v_word v_key v_taken 0 0 v_tape_size v_tape_bytes v_keys u1_behind u1_at u1_kind u1_number u1_word u1_key ho) (cwV 0 hts (goodV U_325 U_326 U_327 U_20 U_328) rfl rfl rfl (by decide +kernel) ⟨Nat.le_trans (by decide) hR.1, Nat.le_trans (Nat.le_of_ble_eq_true rfl) hR.2⟩) ⟨fun a U g mk q => by obtain ⟨q0, q1, qP, qK, qD⟩ := q; exact ⟨q0, q1, qP, va_K.moved (u := U) (U := U.calling g mk a) (Vm.Alike.refl U.vm) qK, qD⟩, va_recv hK hPc (ci := 6) (q0 := 0) rfl rfl, fun U hU hW => ⟨rfl, by rw [hU], by rw [hU]; exact hPc, va_K.moved hW.alike hK, hDc.weaken (fun _ _ _ _ => trivial)⟩⟩ rfl rfl hl.1 rfl (lv_room (Nat.le_of_ble_eq_true rfl)) dX6_open_21 ⟨Nat.zero_le _, Nat.zero_le _⟩) hS (fun q _ h => hFc q h) hFc (fun u t H1 locs ht hvm hw hB hz1 hk1 hS => ?_)
  obtain ⟨hP1, hK1, hD1⟩ := hB
  rw [ht] at hP1
  obtain ⟨hP, hD⟩ := va_join (wr := []) (w1 := [oX6 h_this h_tape h_keys x1 u1_behind u1_at u1_kind u1_number u1_word u1_key v_taken 0 0, oX10 h_tape h_tape_bytes v_tape_size, aB cB h_tape_bytes n_tape_bytes v_tape_bytes, aJ cJ h_keys 22 v_keys]) hP hD [0, 1, 2, 3] [] rfl rfl (by decide) (by decide) hk1 hFc hP1 hD1
  generalize H1 = H at hP hS ⊢
  have hP : va_P (dC, dI) vwCl [oX6 h_this h_tape h_keys x1 u1_behind u1_at u1_kind u1_number u1_word u1_key v_taken 0 0, oX10 h_tape h_tape_bytes v_tape_size, aB cB h_tape_bytes n_tape_bytes v_tape_bytes, aJ cJ h_keys 22 v_keys] H := hP
  have hD : va_D A [oX6 h_this h_tape h_keys x1 u1_behind u1_at u1_kind u1_number u1_word u1_key v_taken 0 0, oX10 h_tape h_tape_bytes v_tape_size, aB cB h_tape_bytes n_tape_bytes v_tape_bytes, aJ cJ h_keys 22 v_keys] := hD
  have q0 := Option.some.inj hr
  obtain ⟨e0, q1⟩ := Prod.mk.inj q0
  obtain ⟨e1, q2⟩ := Prod.mk.inj q1
  obtain ⟨e2, q3⟩ := Prod.mk.inj q2
  obtain ⟨e3, q4⟩ := Prod.mk.inj q3
  obtain ⟨e4, q5⟩ := Prod.mk.inj q4
  obtain ⟨e5, q6⟩ := Prod.mk.inj q5
  obtain ⟨e6, q7⟩ := Prod.mk.inj q6
  obtain ⟨e7, q8⟩ := Prod.mk.inj q7
  subst e0; subst e1; subst e2; subst e3; subst e4; subst e5; subst e6; subst e7; subst q8
  exact W.vret hx hb hrt (fun t ht hW => ⟨⟨(), rfl, trivial, by rw [ht]; exact hP, va_K.moved hW.alike hK, hD⟩, hS.F ht⟩) hS.2.2 dX6_open_24 hlocks
set_option maxHeartbeats 4000000 in
set_option maxRecDepth 100000 in
theorem mX6_open (l : Launch) (dC : Nat → ClassId) (dI : Nat → Nat → Nat) (cI cJ cB cZ cF cG : ClassId) (h_this : Nat) (h_tape : Nat) (h_tape_bytes : Nat) (h_keys : Nat) (sz : Nat) (n_tape_bytes : Nat) (v_most : Int32) (v_behind : Int32) (v_at : Int32) (v_kind : Int32) (v_number : Int32) (v_word : Int64) (v_key : Int32) (v_taken : Int32) (v_fault : Int32) (v_faultAt : Int32) (v_tape_size : Int32) (v_tape_bytes : Nat → Int32) (v_keys : Nat → Int64) (x1 : Int32) (o_most : Int32) (o_behind : Int32) (o_at : Int32) (o_kind : Int32) (o_number : Int32) (o_word : Int64) (o_key : Int32) (o_fault : Int32) (o_faultAt : Int32) (hf : fX6_open n_tape_bytes v_tape_size v_tape_bytes v_keys v_most v_behind v_at v_kind v_number v_word v_key v_fault v_faultAt x1 = some (o_most, o_behind, o_at, o_kind, o_number, o_word, o_key, o_fault, o_faultAt)) : Met l yX6_open uX6_open ({ frames := 2, cells := 0, slots := 0, locals := 82 }) (va_Pc [.ref h_this, .int x1] (fun U => U.heap.size = sz ∧ va_P (dC, dI) vwCl [oX6 h_this h_tape h_keys v_most v_behind v_at v_kind v_number v_word v_key v_taken v_fault v_faultAt, oX10 h_tape h_tape_bytes v_tape_size, aB cB h_tape_bytes n_tape_bytes v_tape_bytes, aJ cJ h_keys 22 v_keys] U.heap ∧ va_K (dC, dI) vwCl (TYS cI cJ cB cZ cF cG) U ∧ va_D (fun _ => True) [oX6 h_this h_tape h_keys v_most v_behind v_at v_kind v_number v_word v_key v_taken v_fault v_faultAt, oX10 h_tape h_tape_bytes v_tape_size, aB cB h_tape_bytes n_tape_bytes v_tape_bytes, aJ cJ h_keys 22 v_keys])) (PQv dC dI cI cJ cB cZ cF cG (va_A [oX6 h_this h_tape h_keys v_most v_behind v_at v_kind v_number v_word v_key v_taken v_fault v_faultAt, oX10 h_tape h_tape_bytes v_tape_size, aB cB h_tape_bytes n_tape_bytes v_tape_bytes, aJ cJ h_keys 22 v_keys] sz) [oX6 h_this h_tape h_keys o_most o_behind o_at o_kind o_number o_word o_key v_taken o_fault o_faultAt, oX10 h_tape h_tape_bytes v_tape_size, aB cB h_tape_bytes n_tape_bytes v_tape_bytes, aJ cJ h_keys 22 v_keys]) 0 0 (va_A [oX6 h_this h_tape h_keys v_most v_behind v_at v_kind v_number v_word v_key v_taken v_fault v_faultAt, oX10 h_tape h_tape_bytes v_tape_size, aB cB h_tape_bytes n_tape_bytes v_tape_bytes, aJ cJ h_keys 22 v_keys] sz) := by
  refine Met.ofW (cc := cX6_open) (maxL := 2) (ret := none) (by decide) rfl ?_
  intro p e s m args below meth c s₁ B hml hv
  obtain ⟨rfl, hsz, hP, hK, hD0⟩ := hv
  have hx := B.exec
  have hb := B.bytes
  have hr := B.returns
  have hts := atoms_spec (ws := uX6_open) B.pre
  have hown : s.vm.findClass RX6 = some m.cls := findClass_of_methodNamed B.named
  have hlocks := B.notSynchronized
  subst hsz
  have hD := hD0.self (sz := s.heap.size)
  generalize hAe : va_A [oX6 h_this h_tape h_keys v_most v_behind v_at v_kind v_number v_word v_key v_taken v_fault v_faultAt, oX10 h_tape h_tape_bytes v_tape_size, aB cB h_tape_bytes n_tape_bytes v_tape_bytes, aJ cJ h_keys 22 v_keys] s.heap.size = A at hD ⊢
  have hA : ∀ q : Nat, s.heap.size ≤ q → A q := fun q h => by rw [← hAe]; exact Or.inr h
  have hS : va_S A s.heap s.heap [] := va_S.rf
  have hl := lv_entry ([.ref h_this, .int x1]) (n := 2) (Nat.le_of_ble_eq_true rfl)
  rw [lg_entry_eq]
  generalize (lg_sl ([.ref h_this, .int x1]) ++ List.replicate (2 - (lg_sl ([.ref h_this, .int x1])).length) Slot.unset).toArray = ls at hl ⊢
  have hl : lv_has ls 2 [(0, .ref h_this), (1, .int x1)] := hl
  exact tX6_open hA ⟨hx, hb, hr, hml, hown, hts, hlocks⟩ ⟨Nat.le_refl _, Nat.le_refl _⟩ h_this h_tape h_tape_bytes h_keys n_tape_bytes v_taken v_tape_size v_tape_bytes v_keys o_most o_behind o_at o_kind o_number o_word o_key o_fault o_faultAt v_most v_behind v_at v_kind v_number v_word v_key v_fault v_faultAt x1 hf _ _ ⟨hK, hP, hD, hS⟩ ls hl
-- LastSeat$Reader.isKey(I)Z
def uX6_isKey : List Cond := .code yX6_isKey cX6_isKey 2 (some .boolean) :: wsU
set_option maxHeartbeats 4000000 in
set_option maxRecDepth 100000 in
theorem tX6_isKey {p : Program} {l : Launch} {e : Env} {R : Room} {s : State} {m : MethodId} {args : Array Value} {below : List Frame} {meth : Method} {c : Code} {dC : Nat → ClassId} {dI : Nat → Nat → Nat} {cI cJ cB cZ cF cG : ClassId} {A : Nat → Prop} (hA : ∀ q : Nat, s.heap.size ≤ q → A q) (C0 : Cx p s m meth c args cX6_isKey 2 (some .boolean) RX6 uX6_isKey) (hR : 0 ≤ R.frames ∧ 0 ≤ R.locals) (h_this : Nat) (h_tape : Nat) (h_keys : Nat) (v_most : Int32) (v_behind : Int32) (v_at : Int32) (v_kind : Int32) (v_number : Int32) (v_word : Int64) (v_key : Int32) (v_taken : Int32) (v_fault : Int32) (v_faultAt : Int32) (o_r : Int32) :
    ∀ (x1 : Int32), fX6_isKey v_kind v_key x1 = some o_r → ∀ (H : Heap) (locs : List Loc), Wd dC dI cI cJ cB cZ cF cG A s H locs [oX6 h_this h_tape h_keys v_most v_behind v_at v_kind v_number v_word v_key v_taken v_fault v_faultAt] → ∀ (ls : Array Slot), lv_has ls 2 [(0, .ref h_this), (1, .int x1)] → W p l e R s m args below meth c H locs 0 0 (MQ below (PQz dC dI cI cJ cB cZ cF cG A o_r [oX6 h_this h_tape h_keys v_most v_behind v_at v_kind v_number v_word v_key v_taken v_fault v_faultAt]) args s 0 0 A) (F0 m 0 ls []) := by
  obtain ⟨hx, hb, hrt, hml, hown, hts, hlocks⟩ := id C0
  intro x1 hr H locs hW ls hl
  obtain ⟨hK, hP, hD, hS⟩ := hW
  have hr : (if v_kind = 97 then if v_key = x1 then some 1 else some 0 else some 0 : Option (Int32)) = some o_r := hr
  refine lv_aload_n hx hb dX6_isKey_0 rfl (lv_at hl 0 rfl) ?_
  refine va_get (D := (dC, dI)) (ci := 6) (v := .int v_kind) (C := RX6) (T := TX6) (N := 12) hx hb hts (fun w h => List.mem_cons_of_mem _ (inU_6 w h)) hown hK hP 0 rfl rfl 5 (by decide) (hts _ (List.mem_cons_of_mem _ U_335)) (fun _ h9 => h9) rfl dX6_isKey_1 ?_
  refine lv_bipush (v := 97) hx hb dX6_isKey_4 (by decide) ?_
  refine lv_icmp_ne (tgt := 21) hx hb dX6_isKey_6 (by decide) (fun hc => ?_) (fun hc => ?_)
  · have hr := iteN hc hr
    refine lv_iconst (v := 0) hx hb dX6_isKey_21 (by decide) ?_
    have q0 := Option.some.inj hr
    subst q0
    exact W.zret (v := 0) hx hb hrt rfl (fun t ht hW => ⟨⟨0, (), rfl, ⟨rfl, rfl⟩, by rw [ht]; exact hP, va_K.moved hW.alike hK, hD⟩, hS.F ht⟩) hS.2.2 dX6_isKey_22 hlocks
  · have hr := iteP hc hr
    refine lv_aload_n hx hb dX6_isKey_9 rfl (lv_at hl 0 rfl) ?_
    refine va_get (D := (dC, dI)) (ci := 6) (v := .int v_key) (C := RX6) (T := TX6) (N := 12) hx hb hts (fun w h => List.mem_cons_of_mem _ (inU_6 w h)) hown hK hP 0 rfl rfl 8 (by decide) (hts _ (List.mem_cons_of_mem _ U_334)) (fun _ h9 => h9) rfl dX6_isKey_10 ?_
    refine lv_iload_n hx hb dX6_isKey_13 rfl (lv_at hl 1 rfl) ?_
    refine lv_icmp_ne (tgt := 21) hx hb dX6_isKey_14 (by decide) (fun hc => ?_) (fun hc => ?_)
    · have hr := iteN hc hr
      refine lv_iconst (v := 0) hx hb dX6_isKey_21 (by decide) ?_
      have q0 := Option.some.inj hr
      subst q0
      exact W.zret (v := 0) hx hb hrt rfl (fun t ht hW => ⟨⟨0, (), rfl, ⟨rfl, rfl⟩, by rw [ht]; exact hP, va_K.moved hW.alike hK, hD⟩, hS.F ht⟩) hS.2.2 dX6_isKey_22 hlocks
    · have hr := iteP hc hr
      refine lv_iconst (v := 1) hx hb dX6_isKey_17 (by decide) ?_
      refine lv_goto (tgt := 22) hx hb dX6_isKey_18 (by decide) ?_
      have q0 := Option.some.inj hr
      subst q0
      exact W.zret (v := 1) hx hb hrt rfl (fun t ht hW => ⟨⟨1, (), rfl, ⟨rfl, rfl⟩, by rw [ht]; exact hP, va_K.moved hW.alike hK, hD⟩, hS.F ht⟩) hS.2.2 dX6_isKey_22 hlocks
set_option maxHeartbeats 4000000 in
set_option maxRecDepth 100000 in
theorem mX6_isKey (l : Launch) (dC : Nat → ClassId) (dI : Nat → Nat → Nat) (cI cJ cB cZ cF cG : ClassId) (h_this : Nat) (h_tape : Nat) (h_keys : Nat) (sz : Nat) (v_most : Int32) (v_behind : Int32) (v_at : Int32) (v_kind : Int32) (v_number : Int32) (v_word : Int64) (v_key : Int32) (v_taken : Int32) (v_fault : Int32) (v_faultAt : Int32) (x1 : Int32) (o_r : Int32) (hf : fX6_isKey v_kind v_key x1 = some o_r) : Met l yX6_isKey uX6_isKey ({ frames := 0, cells := 0, slots := 0, locals := 0 }) (va_Pc [.ref h_this, .int x1] (fun U => U.heap.size = sz ∧ va_P (dC, dI) vwCl [oX6 h_this h_tape h_keys v_most v_behind v_at v_kind v_number v_word v_key v_taken v_fault v_faultAt] U.heap ∧ va_K (dC, dI) vwCl (TYS cI cJ cB cZ cF cG) U ∧ va_D (fun _ => True) [oX6 h_this h_tape h_keys v_most v_behind v_at v_kind v_number v_word v_key v_taken v_fault v_faultAt])) (PQz dC dI cI cJ cB cZ cF cG (va_A [oX6 h_this h_tape h_keys v_most v_behind v_at v_kind v_number v_word v_key v_taken v_fault v_faultAt] sz) o_r [oX6 h_this h_tape h_keys v_most v_behind v_at v_kind v_number v_word v_key v_taken v_fault v_faultAt]) 0 0 (va_A [oX6 h_this h_tape h_keys v_most v_behind v_at v_kind v_number v_word v_key v_taken v_fault v_faultAt] sz) := by
  refine Met.ofW (cc := cX6_isKey) (maxL := 2) (ret := (some .boolean)) (by decide) rfl ?_
  intro p e s m args below meth c s₁ B hml hv
  obtain ⟨rfl, hsz, hP, hK, hD0⟩ := hv
  have hx := B.exec
  have hb := B.bytes
  have hr := B.returns
  have hts := atoms_spec (ws := uX6_isKey) B.pre
  have hown : s.vm.findClass RX6 = some m.cls := findClass_of_methodNamed B.named
  have hlocks := B.notSynchronized
  subst hsz
  have hD := hD0.self (sz := s.heap.size)
  generalize hAe : va_A [oX6 h_this h_tape h_keys v_most v_behind v_at v_kind v_number v_word v_key v_taken v_fault v_faultAt] s.heap.size = A at hD ⊢
  have hA : ∀ q : Nat, s.heap.size ≤ q → A q := fun q h => by rw [← hAe]; exact Or.inr h
  have hS : va_S A s.heap s.heap [] := va_S.rf
  have hl := lv_entry ([.ref h_this, .int x1]) (n := 2) (Nat.le_of_ble_eq_true rfl)
  rw [lg_entry_eq]
  generalize (lg_sl ([.ref h_this, .int x1]) ++ List.replicate (2 - (lg_sl ([.ref h_this, .int x1])).length) Slot.unset).toArray = ls at hl ⊢
  have hl : lv_has ls 2 [(0, .ref h_this), (1, .int x1)] := hl
  exact tX6_isKey hA ⟨hx, hb, hr, hml, hown, hts, hlocks⟩ ⟨Nat.le_refl _, Nat.le_refl _⟩ h_this h_tape h_keys v_most v_behind v_at v_kind v_number v_word v_key v_taken v_fault v_faultAt o_r x1 hf _ _ ⟨hK, hP, hD, hS⟩ ls hl
