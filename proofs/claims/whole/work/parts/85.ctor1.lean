/-! ===== constructors: rows ===== -/
theorem va_K.uniq {D : va_G} {cl : List vw_C} {tys : List (ClassId × FieldType)} {U : State} (h : va_K D cl tys U) {k1 k2 : Nat} {c1 c2 : ClassId} {ty : FieldType} (h1 : tys[k1]? = some (c1, ty)) (h2 : tys[k2]? = some (c2, ty)) : c1 = c2 := by
  have a := (h.2 k1 _ h1).2
  have b := (h.2 k2 _ h2).2
  cases ty with
  | object C =>
    obtain ⟨-, -, -, -, -, e1⟩ := a
    obtain ⟨-, -, -, -, -, e2⟩ := b
    exact Option.some.inj (e1.symm.trans e2)
  | _ => exact Option.some.inj (a.symm.trans b)
section CtA
variable {p : Program} {l : Launch} {e : Env} {R : Room} {s : State} {m : MethodId} {args : Array Value} {below : List Frame} {meth : Method} {c : Code} {H : Heap} {locs : List Loc} {cells slots : Nat} {Q : State → Prop}
variable {cc : ByteArray} {pc : Nat} {ls : Array Slot} {rest : List Value} {D : va_G} {cl : List vw_C} {A : Nat → Prop} {tys : List (ClassId × FieldType)} {ws : va_W} {H0 : Heap}
theorem z_newarr (hexec : p.tables.exec = Jvm.exec) (hb : c.code = cc) {atype : ArrayType} (harr : (Cond.arrayClass (newarray.typeOf atype)).before args s = true) {ty : FieldType} (hty : newarray.typeOf atype = ty) (hK : va_K D cl tys s) (hP : va_P D cl ws H) (hD : va_D A ws) (hS : va_S A H0 H locs) (hA : ∀ q, H0.size ≤ q → A q) (t0 : Nat) {cX : ClassId} (ht : tys[t0]? = some (cX, ty))
    {n : Int32} {N' : Nat} {a0 : vp_A} (ha : ∀ cA : ClassId, vp_cell cA a0 = arrV cA N' (fun _ => defaultValue ty)) (hn : ¬ n < 0) (hN : n.toNatClampNeg = N') (hbytes : N' * componentBytes ty ≤ 536870912) (hcells : cells + 1 ≤ R.cells) (hslots : slots + N' ≤ R.slots) (hdg : decode cc pc = .ok (.newarray atype, 2))
    (kk : ∀ (q : Nat) (H1 : Heap), va_P D cl (ws ++ [(q, .inl (cX, a0))]) H1 → va_D A (ws ++ [(q, .inl (cX, a0))]) → va_S A H0 H1 locs →
      W p l e R s m args below meth c H1 locs (cells + 1) (slots + N') Q (F0 m (pc + 2) ls (.ref q :: rest))) : W p l e R s m args below meth c H locs cells slots Q (F0 m pc ls (.int n :: rest)) := by
  refine va_newa hexec hb harr hty hK hP hD hS hA ha hn hN hbytes hcells hslots hdg (fun q cA H1 hK1 hP1 hD1 hS1 => ?_)
  have hlt : t0 < tys.length := (List.getElem?_eq_some_iff.mp ht).1
  have e : cA = cX := va_K.uniq hK1 (k1 := tys.length) (k2 := t0) (ty := ty) (by simp) (by rw [List.getElem?_append_left hlt]; exact ht)
  subst e
  exact kk q H1 hP1 hD1 hS1
theorem z_newq (hexec : p.tables.exec = Jvm.exec) (hb : c.code = cc) {own C : String} {index : Nat} (hown : s.vm.findClass own = some m.cls) (hclink : (Cond.classLink own index C).before args s = true) (hover : va_AO C s) (hK : va_K D cl tys s) (hP : va_P D cl ws H) (hD : va_D A ws) (hS : va_S A H0 H locs) (hA : ∀ q, H0.size ≤ q → A q) (t0 : Nat) {cX : ClassId} (ht : tys[t0]? = some (cX, .object C))
    {n : Int32} {N' : Nat} (hn : ¬ n < 0) (hN : n.toNatClampNeg = N') (hbytes : N' * 4 ≤ 536870912) (hcells : cells + 1 ≤ R.cells) (hslots : slots + N' ≤ R.slots) (hdg : decode cc pc = .ok (.anewarray index, 3))
    (kk : ∀ (q : Nat) (H1 : Heap), va_P D cl (ws ++ [(q, .inl (cX, N', .inr (.inr (.inr (.inr (fun _ => none))))))]) H1 → va_D A (ws ++ [(q, .inl (cX, N', .inr (.inr (.inr (.inr (fun _ => none))))))]) → va_S A H0 H1 locs →
      W p l e R s m args below meth c H1 locs (cells + 1) (slots + N') Q (F0 m (pc + 3) ls (.ref q :: rest))) : W p l e R s m args below meth c H locs cells slots Q (F0 m pc ls (.int n :: rest)) := by
  refine va_newq hexec hb hown hclink hover hK hP hD hS hA hn hN hbytes hcells hslots hdg (fun q cA H1 hK1 hP1 hD1 hS1 => ?_)
  have hlt : t0 < tys.length := (List.getElem?_eq_some_iff.mp ht).1
  have e : cA = cX := va_K.uniq hK1 (k1 := tys.length) (k2 := t0) (ty := .object C) (by simp) (by rw [List.getElem?_append_left hlt]; exact ht)
  subst e
  exact kk q H1 hP1 hD1 hS1
end CtA
/-- what an array of references holds, told otherwise -/
theorem aQ_ext {D : va_G} {cl : List vw_C} {ws ws' : va_W} {H : Heap} (hP : va_P D cl ws H) (k : Nat) {a n : Nat} {cA : ClassId} {f g : Nat → Option Nat} (hk : ws[k]? = some (a, .inl (cA, n, .inr (.inr (.inr (.inr f)))))) (hfg : ∀ j, j < n → f j = g j) (hw : ws.set k (a, .inl (cA, n, .inr (.inr (.inr (.inr g))))) = ws') : va_P D cl ws' H := by
  subst hw
  intro j q hq
  by_cases e : j = k
  · subst e
    have hlt : j < ws.length := (List.getElem?_eq_some_iff.mp hk).1
    rw [List.getElem?_set_self hlt] at hq
    cases hq
    have h1 := hP j _ hk
    have e2 : vp_cell cA (n, .inr (.inr (.inr (.inr f)))) = vp_cell cA (n, .inr (.inr (.inr (.inr g)))) := by
      show arrV cA n (fun j => va_rf (f j)) = arrV cA n (fun j => va_rf (g j))
      unfold arrV
      congr 1
      apply Array.ext
      · simp
      · intro i h1 h2
        simp at h1
        simp [hfg i h1]
    show H[a]? = some (vp_cell cA (n, .inr (.inr (.inr (.inr g)))))
    rw [← e2]
    exact h1
  · rw [List.getElem?_set_ne (fun h => e h.symm)] at hq
    exact hP j q hq
theorem aQ_extD {A : Nat → Prop} {ws ws' : va_W} (hD : va_D A ws) (k : Nat) {a : Nat} {x y : va_E} (hk : ws[k]? = some (a, x)) (hw : ws.set k (a, y) = ws') : va_D A ws' := by
  subst hw
  exact hD.set hk
theorem dfX0 : ∀ j, j < 3 → defaultValue (tyX0 j) = vp_V [.null, .int 0, .int 0] j := by decide +kernel
def uX0_init : List Cond := .code yX0_init cX0_init 3 none :: wsU
theorem dfX1 : ∀ j, j < 16 → defaultValue (tyX1 j) = vp_V [.null, .null, .null, .null, .null, .null, .null, .int 0, .int 0, .int 0, .int 0, .int 0, .int 0, .int 0, .int 0, .int 0] j := by decide +kernel
def uX1_init : List Cond := .code yX1_init cX1_init 2 none :: wsU
theorem dfX2 : ∀ j, j < 11 → defaultValue (tyX2 j) = vp_V [.null, .null, .null, .null, .null, .null, .null, .null, .int 0, .int 0, .int 0] j := by decide +kernel
def uX2_init : List Cond := .code yX2_init cX2_init 1 none :: wsU
theorem dfX3 : ∀ j, j < 3 → defaultValue (tyX3 j) = vp_V [.null, .null, .int 0] j := by decide +kernel
def uX3_init : List Cond := .code yX3_init cX3_init 2 none :: wsU
theorem dfX4 : ∀ j, j < 4 → defaultValue (tyX4 j) = vp_V [.null, .null, .null, .int 0] j := by decide +kernel
def uX4_init : List Cond := .code yX4_init cX4_init 1 none :: wsU
theorem dfX5 : ∀ j, j < 10 → defaultValue (tyX5 j) = vp_V [.null, .null, .null, .null, .int 0, .int 0, .int 0, .int 0, .int 0, .int 0] j := by decide +kernel
def uX5_init : List Cond := .code yX5_init cX5_init 3 none :: wsU
theorem dfX6 : ∀ j, j < 12 → defaultValue (tyX6 j) = vp_V [.null, .null, .int 0, .int 0, .int 0, .int 0, .int 0, .long 0, .int 0, .int 0, .int 0, .int 0] j := by decide +kernel
def uX6_init : List Cond := .code yX6_init cX6_init 4 none :: wsU
theorem dfX7 : ∀ j, j < 6 → defaultValue (tyX7 j) = vp_V [.null, .null, .null, .null, .int 0, .int 0] j := by decide +kernel
def uX7_init : List Cond := .code yX7_init cX7_init 1 none :: wsU
theorem dfX8 : ∀ j, j < 3 → defaultValue (tyX8 j) = vp_V [.null, .null, .null] j := by decide +kernel
def uX8_init : List Cond := .code yX8_init cX8_init 3 none :: wsU
theorem dfX9 : ∀ j, j < 10 → defaultValue (tyX9 j) = vp_V [.null, .null, .null, .null, .int 0, .int 0, .int 0, .int 0, .int 0, .int 0] j := by decide +kernel
def uX9_init : List Cond := .code yX9_init cX9_init 2 none :: wsU
theorem dfX10 : ∀ j, j < 2 → defaultValue (tyX10 j) = vp_V [.null, .int 0] j := by decide +kernel
def uX10_init : List Cond := .code yX10_init cX10_init 2 none :: wsU
theorem dfX11 : ∀ j, j < 12 → defaultValue (tyX11 j) = vp_V [.null, .null, .null, .null, .null, .null, .null, .null, .null, .null, .null, .int 0] j := by decide +kernel
def uX11_init : List Cond := .code yX11_init cX11_init 2 none :: wsU
theorem dfX12 : ∀ j, j < 52 → defaultValue (tyX12 j) = vp_V [.int 0, .null, .int 0, .int 0, .int 0, .int 0, .null, .null, .null, .null, .null, .int 0, .int 0, .int 0, .int 0, .int 0, .int 0, .long 0, .int 0, .int 0, .int 0, .null, .null, .int 0, .int 0, .int 0, .int 0, .int 0, .int 0, .int 0, .null, .null, .int 0, .int 0, .int 0, .int 0, .null, .int 0, .int 0, .int 0, .null, .int 0, .null, .int 0, .int 0, .int 0, .int 0, .int 0, .null, .null, .null, .null] j := by decide +kernel
def uX12_init : List Cond := .code yX12_init cX12_init 2 none :: wsU
set_option maxHeartbeats 8000000 in
set_option maxRecDepth 100000 in
theorem kX10_init_940 (l : Launch) (dC : Nat → ClassId) (dI : Nat → Nat → Nat) (cI cJ cB cZ cF cG : ClassId) (h_this : Nat) (sz : Nat) : Met l yX10_init uX10_init ({ frames := 1, cells := 1, slots := 940, locals := 60 }) (va_Pc [.ref h_this, .int 940] (fun U => U.heap.size = sz ∧ va_P (dC, dI) vwCl [(h_this, .inr (10, [.null, .int 0]))] U.heap ∧ va_K (dC, dI) vwCl (TYS cI cJ cB cZ cF cG) U ∧ va_D (fun _ => True) [(h_this, .inr (10, [.null, .int 0]))])) (va_Qv (fun (_ : Unit) => True) (fun _ t => ∃ q1 : Nat, va_P (dC, dI) vwCl [(h_this, .inr (10, [.ref q1, .int 0])), aB cB q1 940 (fun _ => 0)] t.heap ∧ va_K (dC, dI) vwCl (TYS cI cJ cB cZ cF cG) t ∧ va_D (va_A [(h_this, .inr (10, [.null, .int 0]))] sz) [(h_this, .inr (10, [.ref q1, .int 0])), aB cB q1 940 (fun _ => 0)]) (va_A [(h_this, .inr (10, [.null, .int 0]))] sz)) 1 940 (va_A [(h_this, .inr (10, [.null, .int 0]))] sz) := by
  refine Met.ofW (cc := cX10_init) (maxL := 2) (ret := none) (by decide) rfl ?_
  intro p e s m args below meth c s₁ B hml hv
  obtain ⟨rfl, hsz, hP, hK, hD0⟩ := hv
  have hx := B.exec
  have hb := B.bytes
  have hr := B.returns
  have hts := atoms_spec (ws := uX10_init) B.pre
  have hown : s.vm.findClass RX10 = some m.cls := findClass_of_methodNamed B.named
  have hlocks := B.notSynchronized
  have hin : meth.name = "<init>" := (name_of_methodNamed B.named B.method).1
  subst hsz
  have hD := hD0.self (sz := s.heap.size)
  generalize hAe : va_A [(h_this, .inr (10, [.null, .int 0]))] s.heap.size = A at hD ⊢
  have hA : ∀ q : Nat, s.heap.size ≤ q → A q := fun q h => by rw [← hAe]; exact Or.inr h
  have hS : va_S A s.heap s.heap [] := va_S.rf
  have hl := lv_entry ([.ref h_this, .int 940]) (n := 2) (Nat.le_of_ble_eq_true rfl)
  rw [lg_entry_eq]
  generalize (lg_sl ([.ref h_this, .int 940]) ++ List.replicate (2 - (lg_sl ([.ref h_this, .int 940])).length) Slot.unset).toArray = ls at hl ⊢
  have hl : lv_has ls 2 [(0, .ref h_this), (1, .int 940)] := hl
  refine lv_aload_n hx hb dX10_init_0 rfl (lv_at hl 0 rfl) ?_
  refine W.objInit hx hb hown (hts _ (List.mem_cons_of_mem _ U_61)) (hts _ (List.mem_cons_of_mem _ U_11)) (hts _ (List.mem_cons_of_mem _ U_12)) rfl (by rw [hml]; exact hl.1) rfl dX10_init_1 (Nat.le_of_ble_eq_true rfl) (Nat.le_of_ble_eq_true rfl) ?_
  refine W.eq (g2 := F0 m 4 ls []) rfl ?_
  refine lv_aload_n hx hb dX10_init_4 rfl (lv_at hl 0 rfl) ?_
  refine lv_iconst (v := 0) hx hb dX10_init_5 (by decide) ?_
  refine lv_iload_n hx hb dX10_init_6 rfl (lv_at hl 1 rfl) ?_
  refine z_pc (pc' := 7) rfl ?_
  refine va_mmax hx hb (hml.trans hl.1.symm) hown (hts _ (List.mem_cons_of_mem _ U_62)) (hts _ (List.mem_cons_of_mem _ U_63)) (hts _ (List.mem_cons_of_mem _ U_64)) (hts _ (List.mem_cons_of_mem _ U_65)) (Nat.le_of_ble_eq_true rfl) (Nat.le_of_ble_eq_true rfl) (Nat.zero_le _) (Nat.zero_le _) dX10_init_7 ?_
  refine z_topi (y := 940) (by decide) ?_
  refine z_newarr (atype := .byte) (a0 := (940, .inl (fun _ => 0))) (N' := 940) hx hb (hts _ (List.mem_cons_of_mem _ U_66)) rfl hK hP hD hS hA 2 rfl (fun _ => rfl) (by decide) (by decide) (Nat.le_of_ble_eq_true rfl) (Nat.le_of_ble_eq_true rfl) (Nat.le_of_ble_eq_true rfl) dX10_init_10 (fun q1 H hP hD hS => ?_)
  have hP : va_P (dC, dI) vwCl [(h_this, .inr (10, [.null, .int 0])), aB cB q1 940 (fun _ => 0)] H := hP
  have hD : va_D A [(h_this, .inr (10, [.null, .int 0])), aB cB q1 940 (fun _ => 0)] := hD
  refine W.widen (k := 1) (n := 940) (Nat.le_of_ble_eq_true rfl) (Nat.le_of_ble_eq_true rfl) ?_
  refine va_putF (D := (dC, dI)) (ci := 10) (v := .ref q1) (ty := (.array .byte)) (C := RX10) (T := TX10) (N := 2) hx hb hts (fun w h => List.mem_cons_of_mem _ (inU_10 w h)) tyX10 tyX10_ok nmX10 hown hK hP hD hS 0 rfl rfl 0 (by decide) (hts _ (List.mem_cons_of_mem _ U_67)) (fun _ h9 => h9) rfl hin rfl (by decide +kernel) rfl rfl (Nat.le_of_ble_eq_true rfl) dX10_init_12 (fun H locs hP hD hS => ?_)
  have hP : va_P (dC, dI) vwCl [(h_this, .inr (10, [.ref q1, .int 0])), aB cB q1 940 (fun _ => 0)] H := hP
  have hD : va_D A [(h_this, .inr (10, [.ref q1, .int 0])), aB cB q1 940 (fun _ => 0)] := hD
  refine lv_aload_n hx hb dX10_init_15 rfl (lv_at hl 0 rfl) ?_
  refine lv_iconst (v := 0) hx hb dX10_init_16 (by decide) ?_
  refine z_pc (pc' := 17) rfl ?_
  refine va_put (D := (dC, dI)) (ci := 10) (v := .int 0) (ty := .int) (C := RX10) (T := TX10) (N := 2) hx hb hts (fun w h => List.mem_cons_of_mem _ (inU_10 w h)) tyX10 tyX10_ok nmX10 hown hK hP hD hS 0 rfl rfl 1 (by decide) (hts _ (List.mem_cons_of_mem _ U_68)) (fun _ h9 => h9) rfl (by decide +kernel) rfl rfl (Nat.le_of_ble_eq_true rfl) dX10_init_17 (fun H locs hP hD hS => ?_)
  have hP : va_P (dC, dI) vwCl [(h_this, .inr (10, [.ref q1, .int 0])), aB cB q1 940 (fun _ => 0)] H := hP
  have hD : va_D A [(h_this, .inr (10, [.ref q1, .int 0])), aB cB q1 940 (fun _ => 0)] := hD
  exact W.vret hx hb hr (fun t ht hW => ⟨⟨(), rfl, trivial, ⟨q1, ⟨by rw [ht]; exact hP, va_K.moved hW.alike hK, hD⟩⟩⟩, hS.F ht⟩) hS.2.2 dX10_init_20 hlocks
set_option maxHeartbeats 8000000 in
set_option maxRecDepth 100000 in
theorem kX10_init_40 (l : Launch) (dC : Nat → ClassId) (dI : Nat → Nat → Nat) (cI cJ cB cZ cF cG : ClassId) (h_this : Nat) (sz : Nat) : Met l yX10_init uX10_init ({ frames := 1, cells := 1, slots := 40, locals := 60 }) (va_Pc [.ref h_this, .int 40] (fun U => U.heap.size = sz ∧ va_P (dC, dI) vwCl [(h_this, .inr (10, [.null, .int 0]))] U.heap ∧ va_K (dC, dI) vwCl (TYS cI cJ cB cZ cF cG) U ∧ va_D (fun _ => True) [(h_this, .inr (10, [.null, .int 0]))])) (va_Qv (fun (_ : Unit) => True) (fun _ t => ∃ q1 : Nat, va_P (dC, dI) vwCl [(h_this, .inr (10, [.ref q1, .int 0])), aB cB q1 40 (fun _ => 0)] t.heap ∧ va_K (dC, dI) vwCl (TYS cI cJ cB cZ cF cG) t ∧ va_D (va_A [(h_this, .inr (10, [.null, .int 0]))] sz) [(h_this, .inr (10, [.ref q1, .int 0])), aB cB q1 40 (fun _ => 0)]) (va_A [(h_this, .inr (10, [.null, .int 0]))] sz)) 1 40 (va_A [(h_this, .inr (10, [.null, .int 0]))] sz) := by
  refine Met.ofW (cc := cX10_init) (maxL := 2) (ret := none) (by decide) rfl ?_
  intro p e s m args below meth c s₁ B hml hv
  obtain ⟨rfl, hsz, hP, hK, hD0⟩ := hv
  have hx := B.exec
  have hb := B.bytes
  have hr := B.returns
  have hts := atoms_spec (ws := uX10_init) B.pre
  have hown : s.vm.findClass RX10 = some m.cls := findClass_of_methodNamed B.named
  have hlocks := B.notSynchronized
  have hin : meth.name = "<init>" := (name_of_methodNamed B.named B.method).1
  subst hsz
  have hD := hD0.self (sz := s.heap.size)
  generalize hAe : va_A [(h_this, .inr (10, [.null, .int 0]))] s.heap.size = A at hD ⊢
  have hA : ∀ q : Nat, s.heap.size ≤ q → A q := fun q h => by rw [← hAe]; exact Or.inr h
  have hS : va_S A s.heap s.heap [] := va_S.rf
  have hl := lv_entry ([.ref h_this, .int 40]) (n := 2) (Nat.le_of_ble_eq_true rfl)
  rw [lg_entry_eq]
  generalize (lg_sl ([.ref h_this, .int 40]) ++ List.replicate (2 - (lg_sl ([.ref h_this, .int 40])).length) Slot.unset).toArray = ls at hl ⊢
  have hl : lv_has ls 2 [(0, .ref h_this), (1, .int 40)] := hl
  refine lv_aload_n hx hb dX10_init_0 rfl (lv_at hl 0 rfl) ?_
  refine W.objInit hx hb hown (hts _ (List.mem_cons_of_mem _ U_61)) (hts _ (List.mem_cons_of_mem _ U_11)) (hts _ (List.mem_cons_of_mem _ U_12)) rfl (by rw [hml]; exact hl.1) rfl dX10_init_1 (Nat.le_of_ble_eq_true rfl) (Nat.le_of_ble_eq_true rfl) ?_
  refine W.eq (g2 := F0 m 4 ls []) rfl ?_
  refine lv_aload_n hx hb dX10_init_4 rfl (lv_at hl 0 rfl) ?_
  refine lv_iconst (v := 0) hx hb dX10_init_5 (by decide) ?_
  refine lv_iload_n hx hb dX10_init_6 rfl (lv_at hl 1 rfl) ?_
  refine z_pc (pc' := 7) rfl ?_
  refine va_mmax hx hb (hml.trans hl.1.symm) hown (hts _ (List.mem_cons_of_mem _ U_62)) (hts _ (List.mem_cons_of_mem _ U_63)) (hts _ (List.mem_cons_of_mem _ U_64)) (hts _ (List.mem_cons_of_mem _ U_65)) (Nat.le_of_ble_eq_true rfl) (Nat.le_of_ble_eq_true rfl) (Nat.zero_le _) (Nat.zero_le _) dX10_init_7 ?_
  refine z_topi (y := 40) (by decide) ?_
  refine z_newarr (atype := .byte) (a0 := (40, .inl (fun _ => 0))) (N' := 40) hx hb (hts _ (List.mem_cons_of_mem _ U_66)) rfl hK hP hD hS hA 2 rfl (fun _ => rfl) (by decide) (by decide) (Nat.le_of_ble_eq_true rfl) (Nat.le_of_ble_eq_true rfl) (Nat.le_of_ble_eq_true rfl) dX10_init_10 (fun q1 H hP hD hS => ?_)
  have hP : va_P (dC, dI) vwCl [(h_this, .inr (10, [.null, .int 0])), aB cB q1 40 (fun _ => 0)] H := hP
  have hD : va_D A [(h_this, .inr (10, [.null, .int 0])), aB cB q1 40 (fun _ => 0)] := hD
  refine W.widen (k := 1) (n := 40) (Nat.le_of_ble_eq_true rfl) (Nat.le_of_ble_eq_true rfl) ?_
  refine va_putF (D := (dC, dI)) (ci := 10) (v := .ref q1) (ty := (.array .byte)) (C := RX10) (T := TX10) (N := 2) hx hb hts (fun w h => List.mem_cons_of_mem _ (inU_10 w h)) tyX10 tyX10_ok nmX10 hown hK hP hD hS 0 rfl rfl 0 (by decide) (hts _ (List.mem_cons_of_mem _ U_67)) (fun _ h9 => h9) rfl hin rfl (by decide +kernel) rfl rfl (Nat.le_of_ble_eq_true rfl) dX10_init_12 (fun H locs hP hD hS => ?_)
  have hP : va_P (dC, dI) vwCl [(h_this, .inr (10, [.ref q1, .int 0])), aB cB q1 40 (fun _ => 0)] H := hP
  have hD : va_D A [(h_this, .inr (10, [.ref q1, .int 0])), aB cB q1 40 (fun _ => 0)] := hD
  refine lv_aload_n hx hb dX10_init_15 rfl (lv_at hl 0 rfl) ?_
  refine lv_iconst (v := 0) hx hb dX10_init_16 (by decide) ?_
  refine z_pc (pc' := 17) rfl ?_
  refine va_put (D := (dC, dI)) (ci := 10) (v := .int 0) (ty := .int) (C := RX10) (T := TX10) (N := 2) hx hb hts (fun w h => List.mem_cons_of_mem _ (inU_10 w h)) tyX10 tyX10_ok nmX10 hown hK hP hD hS 0 rfl rfl 1 (by decide) (hts _ (List.mem_cons_of_mem _ U_68)) (fun _ h9 => h9) rfl (by decide +kernel) rfl rfl (Nat.le_of_ble_eq_true rfl) dX10_init_17 (fun H locs hP hD hS => ?_)
  have hP : va_P (dC, dI) vwCl [(h_this, .inr (10, [.ref q1, .int 0])), aB cB q1 40 (fun _ => 0)] H := hP
  have hD : va_D A [(h_this, .inr (10, [.ref q1, .int 0])), aB cB q1 40 (fun _ => 0)] := hD
  exact W.vret hx hb hr (fun t ht hW => ⟨⟨(), rfl, trivial, ⟨q1, ⟨by rw [ht]; exact hP, va_K.moved hW.alike hK, hD⟩⟩⟩, hS.F ht⟩) hS.2.2 dX10_init_20 hlocks
set_option maxHeartbeats 8000000 in
set_option maxRecDepth 100000 in
theorem kX2_init (l : Launch) (dC : Nat → ClassId) (dI : Nat → Nat → Nat) (cI cJ cB cZ cF cG : ClassId) (h_this : Nat) (sz : Nat) : Met l yX2_init uX2_init ({ frames := 1, cells := 8, slots := 54, locals := 12 }) (va_Pc [.ref h_this] (fun U => U.heap.size = sz ∧ va_P (dC, dI) vwCl [(h_this, .inr (2, [.null, .null, .null, .null, .null, .null, .null, .null, .int 0, .int 0, .int 0]))] U.heap ∧ va_K (dC, dI) vwCl (TYS cI cJ cB cZ cF cG) U ∧ va_D (fun _ => True) [(h_this, .inr (2, [.null, .null, .null, .null, .null, .null, .null, .null, .int 0, .int 0, .int 0]))])) (va_Qv (fun (_ : Unit) => True) (fun _ t => ∃ q1 q2 q3 q4 q5 q6 q7 q8 : Nat, va_P (dC, dI) vwCl [(h_this, .inr (2, [.ref q1, .ref q2, .ref q3, .ref q4, .ref q5, .ref q6, .ref q7, .ref q8, .int 6, .int 0, .int 0])), aJ cJ q1 7 (fun _ => 0), aI cI q2 7 (fun _ => 0), aI cI q3 7 (fun _ => 0), aI cI q4 7 (fun _ => 0), aI cI q5 7 (fun _ => 0), aI cI q6 7 (fun _ => 0), aJ cJ q7 6 (fun _ => 0), aI cI q8 6 (fun _ => 0)] t.heap ∧ va_K (dC, dI) vwCl (TYS cI cJ cB cZ cF cG) t ∧ va_D (va_A [(h_this, .inr (2, [.null, .null, .null, .null, .null, .null, .null, .null, .int 0, .int 0, .int 0]))] sz) [(h_this, .inr (2, [.ref q1, .ref q2, .ref q3, .ref q4, .ref q5, .ref q6, .ref q7, .ref q8, .int 6, .int 0, .int 0])), aJ cJ q1 7 (fun _ => 0), aI cI q2 7 (fun _ => 0), aI cI q3 7 (fun _ => 0), aI cI q4 7 (fun _ => 0), aI cI q5 7 (fun _ => 0), aI cI q6 7 (fun _ => 0), aJ cJ q7 6 (fun _ => 0), aI cI q8 6 (fun _ => 0)]) (va_A [(h_this, .inr (2, [.null, .null, .null, .null, .null, .null, .null, .null, .int 0, .int 0, .int 0]))] sz)) 8 54 (va_A [(h_this, .inr (2, [.null, .null, .null, .null, .null, .null, .null, .null, .int 0, .int 0, .int 0]))] sz) := by
  refine Met.ofW (cc := cX2_init) (maxL := 1) (ret := none) (by decide) rfl ?_
  intro p e s m args below meth c s₁ B hml hv
  obtain ⟨rfl, hsz, hP, hK, hD0⟩ := hv
  have hx := B.exec
  have hb := B.bytes
  have hr := B.returns
  have hts := atoms_spec (ws := uX2_init) B.pre
  have hown : s.vm.findClass RX2 = some m.cls := findClass_of_methodNamed B.named
  have hlocks := B.notSynchronized
  have hin : meth.name = "<init>" := (name_of_methodNamed B.named B.method).1
  subst hsz
  have hD := hD0.self (sz := s.heap.size)
  generalize hAe : va_A [(h_this, .inr (2, [.null, .null, .null, .null, .null, .null, .null, .null, .int 0, .int 0, .int 0]))] s.heap.size = A at hD ⊢
  have hA : ∀ q : Nat, s.heap.size ≤ q → A q := fun q h => by rw [← hAe]; exact Or.inr h
  have hS : va_S A s.heap s.heap [] := va_S.rf
  have hl := lv_entry ([.ref h_this]) (n := 1) (Nat.le_of_ble_eq_true rfl)
  rw [lg_entry_eq]
  generalize (lg_sl ([.ref h_this]) ++ List.replicate (1 - (lg_sl ([.ref h_this])).length) Slot.unset).toArray = ls at hl ⊢
  have hl : lv_has ls 1 [(0, .ref h_this)] := hl
  refine lv_aload_n hx hb dX2_init_0 rfl (lv_at hl 0 rfl) ?_
  refine W.objInit hx hb hown (hts _ (List.mem_cons_of_mem _ U_128)) (hts _ (List.mem_cons_of_mem _ U_11)) (hts _ (List.mem_cons_of_mem _ U_12)) rfl (by rw [hml]; exact hl.1) rfl dX2_init_1 (Nat.le_of_ble_eq_true rfl) (Nat.le_of_ble_eq_true rfl) ?_
  refine W.eq (g2 := F0 m 4 ls []) rfl ?_
  refine lv_aload_n hx hb dX2_init_4 rfl (lv_at hl 0 rfl) ?_
  refine lv_bipush (v := 7) hx hb dX2_init_5 (by decide) ?_
  refine z_newarr (atype := .long) (a0 := (7, .inr (.inl (fun _ => 0)))) (N' := 7) hx hb (hts _ (List.mem_cons_of_mem _ U_6)) rfl hK hP hD hS hA 1 rfl (fun _ => rfl) (by decide) (by decide) (Nat.le_of_ble_eq_true rfl) (Nat.le_of_ble_eq_true rfl) (Nat.le_of_ble_eq_true rfl) dX2_init_7 (fun q1 H hP hD hS => ?_)
  have hP : va_P (dC, dI) vwCl [(h_this, .inr (2, [.null, .null, .null, .null, .null, .null, .null, .null, .int 0, .int 0, .int 0])), aJ cJ q1 7 (fun _ => 0)] H := hP
  have hD : va_D A [(h_this, .inr (2, [.null, .null, .null, .null, .null, .null, .null, .null, .int 0, .int 0, .int 0])), aJ cJ q1 7 (fun _ => 0)] := hD
  refine W.widen (k := 1) (n := 7) (Nat.le_of_ble_eq_true rfl) (Nat.le_of_ble_eq_true rfl) ?_
  refine z_pc (pc' := 9) rfl ?_
  refine va_putF (D := (dC, dI)) (ci := 2) (v := .ref q1) (ty := (.array .long)) (C := RX2) (T := TX2) (N := 11) hx hb hts (fun w h => List.mem_cons_of_mem _ (inU_2 w h)) tyX2 tyX2_ok nmX2 hown hK hP hD hS 0 rfl rfl 0 (by decide) (hts _ (List.mem_cons_of_mem _ U_129)) (fun _ h9 => h9) rfl hin rfl (by decide +kernel) rfl rfl (Nat.le_of_ble_eq_true rfl) dX2_init_9 (fun H locs hP hD hS => ?_)
  have hP : va_P (dC, dI) vwCl [(h_this, .inr (2, [.ref q1, .null, .null, .null, .null, .null, .null, .null, .int 0, .int 0, .int 0])), aJ cJ q1 7 (fun _ => 0)] H := hP
  have hD : va_D A [(h_this, .inr (2, [.ref q1, .null, .null, .null, .null, .null, .null, .null, .int 0, .int 0, .int 0])), aJ cJ q1 7 (fun _ => 0)] := hD
  refine lv_aload_n hx hb dX2_init_12 rfl (lv_at hl 0 rfl) ?_
  refine lv_bipush (v := 7) hx hb dX2_init_13 (by decide) ?_
  refine z_newarr (atype := .int) (a0 := (7, .inl (fun _ => 0))) (N' := 7) hx hb (hts _ (List.mem_cons_of_mem _ U_130)) rfl hK hP hD hS hA 0 rfl (fun _ => rfl) (by decide) (by decide) (Nat.le_of_ble_eq_true rfl) (Nat.le_of_ble_eq_true rfl) (Nat.le_of_ble_eq_true rfl) dX2_init_15 (fun q2 H hP hD hS => ?_)
  have hP : va_P (dC, dI) vwCl [(h_this, .inr (2, [.ref q1, .null, .null, .null, .null, .null, .null, .null, .int 0, .int 0, .int 0])), aJ cJ q1 7 (fun _ => 0), aI cI q2 7 (fun _ => 0)] H := hP
  have hD : va_D A [(h_this, .inr (2, [.ref q1, .null, .null, .null, .null, .null, .null, .null, .int 0, .int 0, .int 0])), aJ cJ q1 7 (fun _ => 0), aI cI q2 7 (fun _ => 0)] := hD
  refine W.widen (k := 2) (n := 14) (Nat.le_of_ble_eq_true rfl) (Nat.le_of_ble_eq_true rfl) ?_
  refine va_putF (D := (dC, dI)) (ci := 2) (v := .ref q2) (ty := (.array .int)) (C := RX2) (T := TX2) (N := 11) hx hb hts (fun w h => List.mem_cons_of_mem _ (inU_2 w h)) tyX2 tyX2_ok nmX2 hown hK hP hD hS 0 rfl rfl 1 (by decide) (hts _ (List.mem_cons_of_mem _ U_131)) (fun _ h9 => h9) rfl hin rfl (by decide +kernel) rfl rfl (Nat.le_of_ble_eq_true rfl) dX2_init_17 (fun H locs hP hD hS => ?_)
  have hP : va_P (dC, dI) vwCl [(h_this, .inr (2, [.ref q1, .ref q2, .null, .null, .null, .null, .null, .null, .int 0, .int 0, .int 0])), aJ cJ q1 7 (fun _ => 0), aI cI q2 7 (fun _ => 0)] H := hP
  have hD : va_D A [(h_this, .inr (2, [.ref q1, .ref q2, .null, .null, .null, .null, .null, .null, .int 0, .int 0, .int 0])), aJ cJ q1 7 (fun _ => 0), aI cI q2 7 (fun _ => 0)] := hD
  refine z_pc (pc' := 20) rfl ?_
  refine lv_aload_n hx hb dX2_init_20 rfl (lv_at hl 0 rfl) ?_
  refine lv_bipush (v := 7) hx hb dX2_init_21 (by decide) ?_
  refine z_newarr (atype := .int) (a0 := (7, .inl (fun _ => 0))) (N' := 7) hx hb (hts _ (List.mem_cons_of_mem _ U_130)) rfl hK hP hD hS hA 0 rfl (fun _ => rfl) (by decide) (by decide) (Nat.le_of_ble_eq_true rfl) (Nat.le_of_ble_eq_true rfl) (Nat.le_of_ble_eq_true rfl) dX2_init_23 (fun q3 H hP hD hS => ?_)
  have hP : va_P (dC, dI) vwCl [(h_this, .inr (2, [.ref q1, .ref q2, .null, .null, .null, .null, .null, .null, .int 0, .int 0, .int 0])), aJ cJ q1 7 (fun _ => 0), aI cI q2 7 (fun _ => 0), aI cI q3 7 (fun _ => 0)] H := hP
  have hD : va_D A [(h_this, .inr (2, [.ref q1, .ref q2, .null, .null, .null, .null, .null, .null, .int 0, .int 0, .int 0])), aJ cJ q1 7 (fun _ => 0), aI cI q2 7 (fun _ => 0), aI cI q3 7 (fun _ => 0)] := hD
  refine W.widen (k := 3) (n := 21) (Nat.le_of_ble_eq_true rfl) (Nat.le_of_ble_eq_true rfl) ?_
  refine va_putF (D := (dC, dI)) (ci := 2) (v := .ref q3) (ty := (.array .int)) (C := RX2) (T := TX2) (N := 11) hx hb hts (fun w h => List.mem_cons_of_mem _ (inU_2 w h)) tyX2 tyX2_ok nmX2 hown hK hP hD hS 0 rfl rfl 2 (by decide) (hts _ (List.mem_cons_of_mem _ U_132)) (fun _ h9 => h9) rfl hin rfl (by decide +kernel) rfl rfl (Nat.le_of_ble_eq_true rfl) dX2_init_25 (fun H locs hP hD hS => ?_)
  have hP : va_P (dC, dI) vwCl [(h_this, .inr (2, [.ref q1, .ref q2, .ref q3, .null, .null, .null, .null, .null, .int 0, .int 0, .int 0])), aJ cJ q1 7 (fun _ => 0), aI cI q2 7 (fun _ => 0), aI cI q3 7 (fun _ => 0)] H := hP
  have hD : va_D A [(h_this, .inr (2, [.ref q1, .ref q2, .ref q3, .null, .null, .null, .null, .null, .int 0, .int 0, .int 0])), aJ cJ q1 7 (fun _ => 0), aI cI q2 7 (fun _ => 0), aI cI q3 7 (fun _ => 0)] := hD
  refine lv_aload_n hx hb dX2_init_28 rfl (lv_at hl 0 rfl) ?_
  refine z_pc (pc' := 29) rfl ?_
  refine lv_bipush (v := 7) hx hb dX2_init_29 (by decide) ?_
  refine z_newarr (atype := .int) (a0 := (7, .inl (fun _ => 0))) (N' := 7) hx hb (hts _ (List.mem_cons_of_mem _ U_130)) rfl hK hP hD hS hA 0 rfl (fun _ => rfl) (by decide) (by decide) (Nat.le_of_ble_eq_true rfl) (Nat.le_of_ble_eq_true rfl) (Nat.le_of_ble_eq_true rfl) dX2_init_31 (fun q4 H hP hD hS => ?_)
  have hP : va_P (dC, dI) vwCl [(h_this, .inr (2, [.ref q1, .ref q2, .ref q3, .null, .null, .null, .null, .null, .int 0, .int 0, .int 0])), aJ cJ q1 7 (fun _ => 0), aI cI q2 7 (fun _ => 0), aI cI q3 7 (fun _ => 0), aI cI q4 7 (fun _ => 0)] H := hP
  have hD : va_D A [(h_this, .inr (2, [.ref q1, .ref q2, .ref q3, .null, .null, .null, .null, .null, .int 0, .int 0, .int 0])), aJ cJ q1 7 (fun _ => 0), aI cI q2 7 (fun _ => 0), aI cI q3 7 (fun _ => 0), aI cI q4 7 (fun _ => 0)] := hD
  refine W.widen (k := 4) (n := 28) (Nat.le_of_ble_eq_true rfl) (Nat.le_of_ble_eq_true rfl) ?_
  refine va_putF (D := (dC, dI)) (ci := 2) (v := .ref q4) (ty := (.array .int)) (C := RX2) (T := TX2) (N := 11) hx hb hts (fun w h => List.mem_cons_of_mem _ (inU_2 w h)) tyX2 tyX2_ok nmX2 hown hK hP hD hS 0 rfl rfl 3 (by decide) (hts _ (List.mem_cons_of_mem _ U_133)) (fun _ h9 => h9) rfl hin rfl (by decide +kernel) rfl rfl (Nat.le_of_ble_eq_true rfl) dX2_init_33 (fun H locs hP hD hS => ?_)
  have hP : va_P (dC, dI) vwCl [(h_this, .inr (2, [.ref q1, .ref q2, .ref q3, .ref q4, .null, .null, .null, .null, .int 0, .int 0, .int 0])), aJ cJ q1 7 (fun _ => 0), aI cI q2 7 (fun _ => 0), aI cI q3 7 (fun _ => 0), aI cI q4 7 (fun _ => 0)] H := hP
  have hD : va_D A [(h_this, .inr (2, [.ref q1, .ref q2, .ref q3, .ref q4, .null, .null, .null, .null, .int 0, .int 0, .int 0])), aJ cJ q1 7 (fun _ => 0), aI cI q2 7 (fun _ => 0), aI cI q3 7 (fun _ => 0), aI cI q4 7 (fun _ => 0)] := hD
  refine lv_aload_n hx hb dX2_init_36 rfl (lv_at hl 0 rfl) ?_
  refine lv_bipush (v := 7) hx hb dX2_init_37 (by decide) ?_
  refine z_pc (pc' := 39) rfl ?_
  refine z_newarr (atype := .int) (a0 := (7, .inl (fun _ => 0))) (N' := 7) hx hb (hts _ (List.mem_cons_of_mem _ U_130)) rfl hK hP hD hS hA 0 rfl (fun _ => rfl) (by decide) (by decide) (Nat.le_of_ble_eq_true rfl) (Nat.le_of_ble_eq_true rfl) (Nat.le_of_ble_eq_true rfl) dX2_init_39 (fun q5 H hP hD hS => ?_)
  have hP : va_P (dC, dI) vwCl [(h_this, .inr (2, [.ref q1, .ref q2, .ref q3, .ref q4, .null, .null, .null, .null, .int 0, .int 0, .int 0])), aJ cJ q1 7 (fun _ => 0), aI cI q2 7 (fun _ => 0), aI cI q3 7 (fun _ => 0), aI cI q4 7 (fun _ => 0), aI cI q5 7 (fun _ => 0)] H := hP
  have hD : va_D A [(h_this, .inr (2, [.ref q1, .ref q2, .ref q3, .ref q4, .null, .null, .null, .null, .int 0, .int 0, .int 0])), aJ cJ q1 7 (fun _ => 0), aI cI q2 7 (fun _ => 0), aI cI q3 7 (fun _ => 0), aI cI q4 7 (fun _ => 0), aI cI q5 7 (fun _ => 0)] := hD
  refine W.widen (k := 5) (n := 35) (Nat.le_of_ble_eq_true rfl) (Nat.le_of_ble_eq_true rfl) ?_
  refine va_putF (D := (dC, dI)) (ci := 2) (v := .ref q5) (ty := (.array .int)) (C := RX2) (T := TX2) (N := 11) hx hb hts (fun w h => List.mem_cons_of_mem _ (inU_2 w h)) tyX2 tyX2_ok nmX2 hown hK hP hD hS 0 rfl rfl 4 (by decide) (hts _ (List.mem_cons_of_mem _ U_134)) (fun _ h9 => h9) rfl hin rfl (by decide +kernel) rfl rfl (Nat.le_of_ble_eq_true rfl) dX2_init_41 (fun H locs hP hD hS => ?_)
  have hP : va_P (dC, dI) vwCl [(h_this, .inr (2, [.ref q1, .ref q2, .ref q3, .ref q4, .ref q5, .null, .null, .null, .int 0, .int 0, .int 0])), aJ cJ q1 7 (fun _ => 0), aI cI q2 7 (fun _ => 0), aI cI q3 7 (fun _ => 0), aI cI q4 7 (fun _ => 0), aI cI q5 7 (fun _ => 0)] H := hP
  have hD : va_D A [(h_this, .inr (2, [.ref q1, .ref q2, .ref q3, .ref q4, .ref q5, .null, .null, .null, .int 0, .int 0, .int 0])), aJ cJ q1 7 (fun _ => 0), aI cI q2 7 (fun _ => 0), aI cI q3 7 (fun _ => 0), aI cI q4 7 (fun _ => 0), aI cI q5 7 (fun _ => 0)] := hD
  refine lv_aload_n hx hb dX2_init_44 rfl (lv_at hl 0 rfl) ?_
  refine lv_bipush (v := 7) hx hb dX2_init_45 (by decide) ?_
  refine z_newarr (atype := .int) (a0 := (7, .inl (fun _ => 0))) (N' := 7) hx hb (hts _ (List.mem_cons_of_mem _ U_130)) rfl hK hP hD hS hA 0 rfl (fun _ => rfl) (by decide) (by decide) (Nat.le_of_ble_eq_true rfl) (Nat.le_of_ble_eq_true rfl) (Nat.le_of_ble_eq_true rfl) dX2_init_47 (fun q6 H hP hD hS => ?_)
  have hP : va_P (dC, dI) vwCl [(h_this, .inr (2, [.ref q1, .ref q2, .ref q3, .ref q4, .ref q5, .null, .null, .null, .int 0, .int 0, .int 0])), aJ cJ q1 7 (fun _ => 0), aI cI q2 7 (fun _ => 0), aI cI q3 7 (fun _ => 0), aI cI q4 7 (fun _ => 0), aI cI q5 7 (fun _ => 0), aI cI q6 7 (fun _ => 0)] H := hP
  have hD : va_D A [(h_this, .inr (2, [.ref q1, .ref q2, .ref q3, .ref q4, .ref q5, .null, .null, .null, .int 0, .int 0, .int 0])), aJ cJ q1 7 (fun _ => 0), aI cI q2 7 (fun _ => 0), aI cI q3 7 (fun _ => 0), aI cI q4 7 (fun _ => 0), aI cI q5 7 (fun _ => 0), aI cI q6 7 (fun _ => 0)] := hD
  refine W.widen (k := 6) (n := 42) (Nat.le_of_ble_eq_true rfl) (Nat.le_of_ble_eq_true rfl) ?_
  refine z_pc (pc' := 49) rfl ?_
  refine va_putF (D := (dC, dI)) (ci := 2) (v := .ref q6) (ty := (.array .int)) (C := RX2) (T := TX2) (N := 11) hx hb hts (fun w h => List.mem_cons_of_mem _ (inU_2 w h)) tyX2 tyX2_ok nmX2 hown hK hP hD hS 0 rfl rfl 5 (by decide) (hts _ (List.mem_cons_of_mem _ U_135)) (fun _ h9 => h9) rfl hin rfl (by decide +kernel) rfl rfl (Nat.le_of_ble_eq_true rfl) dX2_init_49 (fun H locs hP hD hS => ?_)
  have hP : va_P (dC, dI) vwCl [(h_this, .inr (2, [.ref q1, .ref q2, .ref q3, .ref q4, .ref q5, .ref q6, .null, .null, .int 0, .int 0, .int 0])), aJ cJ q1 7 (fun _ => 0), aI cI q2 7 (fun _ => 0), aI cI q3 7 (fun _ => 0), aI cI q4 7 (fun _ => 0), aI cI q5 7 (fun _ => 0), aI cI q6 7 (fun _ => 0)] H := hP
  have hD : va_D A [(h_this, .inr (2, [.ref q1, .ref q2, .ref q3, .ref q4, .ref q5, .ref q6, .null, .null, .int 0, .int 0, .int 0])), aJ cJ q1 7 (fun _ => 0), aI cI q2 7 (fun _ => 0), aI cI q3 7 (fun _ => 0), aI cI q4 7 (fun _ => 0), aI cI q5 7 (fun _ => 0), aI cI q6 7 (fun _ => 0)] := hD
  refine lv_aload_n hx hb dX2_init_52 rfl (lv_at hl 0 rfl) ?_
  refine lv_bipush (v := 6) hx hb dX2_init_53 (by decide) ?_
  refine z_newarr (atype := .long) (a0 := (6, .inr (.inl (fun _ => 0)))) (N' := 6) hx hb (hts _ (List.mem_cons_of_mem _ U_6)) rfl hK hP hD hS hA 1 rfl (fun _ => rfl) (by decide) (by decide) (Nat.le_of_ble_eq_true rfl) (Nat.le_of_ble_eq_true rfl) (Nat.le_of_ble_eq_true rfl) dX2_init_55 (fun q7 H hP hD hS => ?_)
  have hP : va_P (dC, dI) vwCl [(h_this, .inr (2, [.ref q1, .ref q2, .ref q3, .ref q4, .ref q5, .ref q6, .null, .null, .int 0, .int 0, .int 0])), aJ cJ q1 7 (fun _ => 0), aI cI q2 7 (fun _ => 0), aI cI q3 7 (fun _ => 0), aI cI q4 7 (fun _ => 0), aI cI q5 7 (fun _ => 0), aI cI q6 7 (fun _ => 0), aJ cJ q7 6 (fun _ => 0)] H := hP
  have hD : va_D A [(h_this, .inr (2, [.ref q1, .ref q2, .ref q3, .ref q4, .ref q5, .ref q6, .null, .null, .int 0, .int 0, .int 0])), aJ cJ q1 7 (fun _ => 0), aI cI q2 7 (fun _ => 0), aI cI q3 7 (fun _ => 0), aI cI q4 7 (fun _ => 0), aI cI q5 7 (fun _ => 0), aI cI q6 7 (fun _ => 0), aJ cJ q7 6 (fun _ => 0)] := hD
  refine W.widen (k := 7) (n := 48) (Nat.le_of_ble_eq_true rfl) (Nat.le_of_ble_eq_true rfl) ?_
  refine va_putF (D := (dC, dI)) (ci := 2) (v := .ref q7) (ty := (.array .long)) (C := RX2) (T := TX2) (N := 11) hx hb hts (fun w h => List.mem_cons_of_mem _ (inU_2 w h)) tyX2 tyX2_ok nmX2 hown hK hP hD hS 0 rfl rfl 6 (by decide) (hts _ (List.mem_cons_of_mem _ U_136)) (fun _ h9 => h9) rfl hin rfl (by decide +kernel) rfl rfl (Nat.le_of_ble_eq_true rfl) dX2_init_57 (fun H locs hP hD hS => ?_)
  have hP : va_P (dC, dI) vwCl [(h_this, .inr (2, [.ref q1, .ref q2, .ref q3, .ref q4, .ref q5, .ref q6, .ref q7, .null, .int 0, .int 0, .int 0])), aJ cJ q1 7 (fun _ => 0), aI cI q2 7 (fun _ => 0), aI cI q3 7 (fun _ => 0), aI cI q4 7 (fun _ => 0), aI cI q5 7 (fun _ => 0), aI cI q6 7 (fun _ => 0), aJ cJ q7 6 (fun _ => 0)] H := hP
  have hD : va_D A [(h_this, .inr (2, [.ref q1, .ref q2, .ref q3, .ref q4, .ref q5, .ref q6, .ref q7, .null, .int 0, .int 0, .int 0])), aJ cJ q1 7 (fun _ => 0), aI cI q2 7 (fun _ => 0), aI cI q3 7 (fun _ => 0), aI cI q4 7 (fun _ => 0), aI cI q5 7 (fun _ => 0), aI cI q6 7 (fun _ => 0), aJ cJ q7 6 (fun _ => 0)] := hD
  refine z_pc (pc' := 60) rfl ?_
  refine lv_aload_n hx hb dX2_init_60 rfl (lv_at hl 0 rfl) ?_
  refine lv_bipush (v := 6) hx hb dX2_init_61 (by decide) ?_
  refine z_newarr (atype := .int) (a0 := (6, .inl (fun _ => 0))) (N' := 6) hx hb (hts _ (List.mem_cons_of_mem _ U_130)) rfl hK hP hD hS hA 0 rfl (fun _ => rfl) (by decide) (by decide) (Nat.le_of_ble_eq_true rfl) (Nat.le_of_ble_eq_true rfl) (Nat.le_of_ble_eq_true rfl) dX2_init_63 (fun q8 H hP hD hS => ?_)
  have hP : va_P (dC, dI) vwCl [(h_this, .inr (2, [.ref q1, .ref q2, .ref q3, .ref q4, .ref q5, .ref q6, .ref q7, .null, .int 0, .int 0, .int 0])), aJ cJ q1 7 (fun _ => 0), aI cI q2 7 (fun _ => 0), aI cI q3 7 (fun _ => 0), aI cI q4 7 (fun _ => 0), aI cI q5 7 (fun _ => 0), aI cI q6 7 (fun _ => 0), aJ cJ q7 6 (fun _ => 0), aI cI q8 6 (fun _ => 0)] H := hP
  have hD : va_D A [(h_this, .inr (2, [.ref q1, .ref q2, .ref q3, .ref q4, .ref q5, .ref q6, .ref q7, .null, .int 0, .int 0, .int 0])), aJ cJ q1 7 (fun _ => 0), aI cI q2 7 (fun _ => 0), aI cI q3 7 (fun _ => 0), aI cI q4 7 (fun _ => 0), aI cI q5 7 (fun _ => 0), aI cI q6 7 (fun _ => 0), aJ cJ q7 6 (fun _ => 0), aI cI q8 6 (fun _ => 0)] := hD
  refine W.widen (k := 8) (n := 54) (Nat.le_of_ble_eq_true rfl) (Nat.le_of_ble_eq_true rfl) ?_
  refine va_putF (D := (dC, dI)) (ci := 2) (v := .ref q8) (ty := (.array .int)) (C := RX2) (T := TX2) (N := 11) hx hb hts (fun w h => List.mem_cons_of_mem _ (inU_2 w h)) tyX2 tyX2_ok nmX2 hown hK hP hD hS 0 rfl rfl 7 (by decide) (hts _ (List.mem_cons_of_mem _ U_137)) (fun _ h9 => h9) rfl hin rfl (by decide +kernel) rfl rfl (Nat.le_of_ble_eq_true rfl) dX2_init_65 (fun H locs hP hD hS => ?_)
  have hP : va_P (dC, dI) vwCl [(h_this, .inr (2, [.ref q1, .ref q2, .ref q3, .ref q4, .ref q5, .ref q6, .ref q7, .ref q8, .int 0, .int 0, .int 0])), aJ cJ q1 7 (fun _ => 0), aI cI q2 7 (fun _ => 0), aI cI q3 7 (fun _ => 0), aI cI q4 7 (fun _ => 0), aI cI q5 7 (fun _ => 0), aI cI q6 7 (fun _ => 0), aJ cJ q7 6 (fun _ => 0), aI cI q8 6 (fun _ => 0)] H := hP
  have hD : va_D A [(h_this, .inr (2, [.ref q1, .ref q2, .ref q3, .ref q4, .ref q5, .ref q6, .ref q7, .ref q8, .int 0, .int 0, .int 0])), aJ cJ q1 7 (fun _ => 0), aI cI q2 7 (fun _ => 0), aI cI q3 7 (fun _ => 0), aI cI q4 7 (fun _ => 0), aI cI q5 7 (fun _ => 0), aI cI q6 7 (fun _ => 0), aJ cJ q7 6 (fun _ => 0), aI cI q8 6 (fun _ => 0)] := hD
  refine lv_aload_n hx hb dX2_init_68 rfl (lv_at hl 0 rfl) ?_
  refine z_pc (pc' := 69) rfl ?_
  refine lv_bipush (v := 6) hx hb dX2_init_69 (by decide) ?_
  refine va_put (D := (dC, dI)) (ci := 2) (v := .int 6) (ty := .int) (C := RX2) (T := TX2) (N := 11) hx hb hts (fun w h => List.mem_cons_of_mem _ (inU_2 w h)) tyX2 tyX2_ok nmX2 hown hK hP hD hS 0 rfl rfl 8 (by decide) (hts _ (List.mem_cons_of_mem _ U_138)) (fun _ h9 => h9) rfl (by decide +kernel) rfl rfl (Nat.le_of_ble_eq_true rfl) dX2_init_71 (fun H locs hP hD hS => ?_)
  have hP : va_P (dC, dI) vwCl [(h_this, .inr (2, [.ref q1, .ref q2, .ref q3, .ref q4, .ref q5, .ref q6, .ref q7, .ref q8, .int 6, .int 0, .int 0])), aJ cJ q1 7 (fun _ => 0), aI cI q2 7 (fun _ => 0), aI cI q3 7 (fun _ => 0), aI cI q4 7 (fun _ => 0), aI cI q5 7 (fun _ => 0), aI cI q6 7 (fun _ => 0), aJ cJ q7 6 (fun _ => 0), aI cI q8 6 (fun _ => 0)] H := hP
  have hD : va_D A [(h_this, .inr (2, [.ref q1, .ref q2, .ref q3, .ref q4, .ref q5, .ref q6, .ref q7, .ref q8, .int 6, .int 0, .int 0])), aJ cJ q1 7 (fun _ => 0), aI cI q2 7 (fun _ => 0), aI cI q3 7 (fun _ => 0), aI cI q4 7 (fun _ => 0), aI cI q5 7 (fun _ => 0), aI cI q6 7 (fun _ => 0), aJ cJ q7 6 (fun _ => 0), aI cI q8 6 (fun _ => 0)] := hD
  exact W.vret hx hb hr (fun t ht hW => ⟨⟨(), rfl, trivial, ⟨q1, ⟨q2, ⟨q3, ⟨q4, ⟨q5, ⟨q6, ⟨q7, ⟨q8, ⟨by rw [ht]; exact hP, va_K.moved hW.alike hK, hD⟩⟩⟩⟩⟩⟩⟩⟩⟩⟩, hS.F ht⟩) hS.2.2 dX2_init_74 hlocks
set_option maxHeartbeats 8000000 in
set_option maxRecDepth 100000 in
theorem kX1_init (l : Launch) (dC : Nat → ClassId) (dI : Nat → Nat → Nat) (cI cJ cB cZ cF cG : ClassId) (h_this : Nat) (h_hall : Nat) (sz : Nat) : Met l yX1_init uX1_init ({ frames := 1, cells := 6, slots := 42, locals := 12 }) (va_Pc [.ref h_this, .ref h_hall] (fun U => U.heap.size = sz ∧ va_P (dC, dI) vwCl [(h_this, .inr (1, [.null, .null, .null, .null, .null, .null, .null, .int 0, .int 0, .int 0, .int 0, .int 0, .int 0, .int 0, .int 0, .int 0]))] U.heap ∧ va_K (dC, dI) vwCl (TYS cI cJ cB cZ cF cG) U ∧ va_D (fun _ => True) [(h_this, .inr (1, [.null, .null, .null, .null, .null, .null, .null, .int 0, .int 0, .int 0, .int 0, .int 0, .int 0, .int 0, .int 0, .int 0]))])) (va_Qv (fun (_ : Unit) => True) (fun _ t => ∃ q1 q2 q3 q4 q5 q6 : Nat, va_P (dC, dI) vwCl [(h_this, .inr (1, [.ref h_hall, .ref q1, .ref q2, .ref q3, .ref q4, .ref q5, .ref q6, .int 0, .int 0, .int 0, .int 0, .int 0, .int 0, .int (-1), .int 0, .int 0])), aI cI q1 7 (fun _ => 0), aI cI q2 7 (fun _ => 0), aI cI q3 7 (fun _ => 0), aI cI q4 7 (fun _ => 0), aI cI q5 7 (fun _ => 0), aI cI q6 7 (fun _ => 0)] t.heap ∧ va_K (dC, dI) vwCl (TYS cI cJ cB cZ cF cG) t ∧ va_D (va_A [(h_this, .inr (1, [.null, .null, .null, .null, .null, .null, .null, .int 0, .int 0, .int 0, .int 0, .int 0, .int 0, .int 0, .int 0, .int 0]))] sz) [(h_this, .inr (1, [.ref h_hall, .ref q1, .ref q2, .ref q3, .ref q4, .ref q5, .ref q6, .int 0, .int 0, .int 0, .int 0, .int 0, .int 0, .int (-1), .int 0, .int 0])), aI cI q1 7 (fun _ => 0), aI cI q2 7 (fun _ => 0), aI cI q3 7 (fun _ => 0), aI cI q4 7 (fun _ => 0), aI cI q5 7 (fun _ => 0), aI cI q6 7 (fun _ => 0)]) (va_A [(h_this, .inr (1, [.null, .null, .null, .null, .null, .null, .null, .int 0, .int 0, .int 0, .int 0, .int 0, .int 0, .int 0, .int 0, .int 0]))] sz)) 6 42 (va_A [(h_this, .inr (1, [.null, .null, .null, .null, .null, .null, .null, .int 0, .int 0, .int 0, .int 0, .int 0, .int 0, .int 0, .int 0, .int 0]))] sz) := by
  refine Met.ofW (cc := cX1_init) (maxL := 2) (ret := none) (by decide) rfl ?_
  intro p e s m args below meth c s₁ B hml hv
  obtain ⟨rfl, hsz, hP, hK, hD0⟩ := hv
  have hx := B.exec
  have hb := B.bytes
  have hr := B.returns
  have hts := atoms_spec (ws := uX1_init) B.pre
  have hown : s.vm.findClass RX1 = some m.cls := findClass_of_methodNamed B.named
  have hlocks := B.notSynchronized
  have hin : meth.name = "<init>" := (name_of_methodNamed B.named B.method).1
  subst hsz
  have hD := hD0.self (sz := s.heap.size)
  generalize hAe : va_A [(h_this, .inr (1, [.null, .null, .null, .null, .null, .null, .null, .int 0, .int 0, .int 0, .int 0, .int 0, .int 0, .int 0, .int 0, .int 0]))] s.heap.size = A at hD ⊢
  have hA : ∀ q : Nat, s.heap.size ≤ q → A q := fun q h => by rw [← hAe]; exact Or.inr h
  have hS : va_S A s.heap s.heap [] := va_S.rf
  have hl := lv_entry ([.ref h_this, .ref h_hall]) (n := 2) (Nat.le_of_ble_eq_true rfl)
  rw [lg_entry_eq]
  generalize (lg_sl ([.ref h_this, .ref h_hall]) ++ List.replicate (2 - (lg_sl ([.ref h_this, .ref h_hall])).length) Slot.unset).toArray = ls at hl ⊢
  have hl : lv_has ls 2 [(0, .ref h_this), (1, .ref h_hall)] := hl
  refine lv_aload_n hx hb dX1_init_0 rfl (lv_at hl 0 rfl) ?_
  refine W.objInit hx hb hown (hts _ (List.mem_cons_of_mem _ U_142)) (hts _ (List.mem_cons_of_mem _ U_11)) (hts _ (List.mem_cons_of_mem _ U_12)) rfl (by rw [hml]; exact hl.1) rfl dX1_init_1 (Nat.le_of_ble_eq_true rfl) (Nat.le_of_ble_eq_true rfl) ?_
  refine W.eq (g2 := F0 m 4 ls []) rfl ?_
  refine lv_aload_n hx hb dX1_init_4 rfl (lv_at hl 0 rfl) ?_
  refine lv_aload_n hx hb dX1_init_5 rfl (lv_at hl 1 rfl) ?_
  refine va_putF (D := (dC, dI)) (ci := 1) (v := .ref h_hall) (ty := (.object "LastSeat$Hall")) (C := RX1) (T := TX1) (N := 16) hx hb hts (fun w h => List.mem_cons_of_mem _ (inU_1 w h)) tyX1 tyX1_ok nmX1 hown hK hP hD hS 0 rfl rfl 0 (by decide) (hts _ (List.mem_cons_of_mem _ U_143)) (fun _ h9 => h9) rfl hin rfl (by decide +kernel) rfl rfl (Nat.le_of_ble_eq_true rfl) dX1_init_6 (fun H locs hP hD hS => ?_)
  have hP : va_P (dC, dI) vwCl [(h_this, .inr (1, [.ref h_hall, .null, .null, .null, .null, .null, .null, .int 0, .int 0, .int 0, .int 0, .int 0, .int 0, .int 0, .int 0, .int 0]))] H := hP
  have hD : va_D A [(h_this, .inr (1, [.ref h_hall, .null, .null, .null, .null, .null, .null, .int 0, .int 0, .int 0, .int 0, .int 0, .int 0, .int 0, .int 0, .int 0]))] := hD
  refine z_pc (pc' := 9) rfl ?_
  refine lv_aload_n hx hb dX1_init_9 rfl (lv_at hl 0 rfl) ?_
  refine lv_bipush (v := 7) hx hb dX1_init_10 (by decide) ?_
  refine z_newarr (atype := .int) (a0 := (7, .inl (fun _ => 0))) (N' := 7) hx hb (hts _ (List.mem_cons_of_mem _ U_130)) rfl hK hP hD hS hA 0 rfl (fun _ => rfl) (by decide) (by decide) (Nat.le_of_ble_eq_true rfl) (Nat.le_of_ble_eq_true rfl) (Nat.le_of_ble_eq_true rfl) dX1_init_12 (fun q1 H hP hD hS => ?_)
  have hP : va_P (dC, dI) vwCl [(h_this, .inr (1, [.ref h_hall, .null, .null, .null, .null, .null, .null, .int 0, .int 0, .int 0, .int 0, .int 0, .int 0, .int 0, .int 0, .int 0])), aI cI q1 7 (fun _ => 0)] H := hP
  have hD : va_D A [(h_this, .inr (1, [.ref h_hall, .null, .null, .null, .null, .null, .null, .int 0, .int 0, .int 0, .int 0, .int 0, .int 0, .int 0, .int 0, .int 0])), aI cI q1 7 (fun _ => 0)] := hD
  refine W.widen (k := 1) (n := 7) (Nat.le_of_ble_eq_true rfl) (Nat.le_of_ble_eq_true rfl) ?_
  refine va_putF (D := (dC, dI)) (ci := 1) (v := .ref q1) (ty := (.array .int)) (C := RX1) (T := TX1) (N := 16) hx hb hts (fun w h => List.mem_cons_of_mem _ (inU_1 w h)) tyX1 tyX1_ok nmX1 hown hK hP hD hS 0 rfl rfl 1 (by decide) (hts _ (List.mem_cons_of_mem _ U_144)) (fun _ h9 => h9) rfl hin rfl (by decide +kernel) rfl rfl (Nat.le_of_ble_eq_true rfl) dX1_init_14 (fun H locs hP hD hS => ?_)
  have hP : va_P (dC, dI) vwCl [(h_this, .inr (1, [.ref h_hall, .ref q1, .null, .null, .null, .null, .null, .int 0, .int 0, .int 0, .int 0, .int 0, .int 0, .int 0, .int 0, .int 0])), aI cI q1 7 (fun _ => 0)] H := hP
  have hD : va_D A [(h_this, .inr (1, [.ref h_hall, .ref q1, .null, .null, .null, .null, .null, .int 0, .int 0, .int 0, .int 0, .int 0, .int 0, .int 0, .int 0, .int 0])), aI cI q1 7 (fun _ => 0)] := hD
  refine lv_aload_n hx hb dX1_init_17 rfl (lv_at hl 0 rfl) ?_
  refine z_pc (pc' := 18) rfl ?_
  refine lv_bipush (v := 7) hx hb dX1_init_18 (by decide) ?_
  refine z_newarr (atype := .int) (a0 := (7, .inl (fun _ => 0))) (N' := 7) hx hb (hts _ (List.mem_cons_of_mem _ U_130)) rfl hK hP hD hS hA 0 rfl (fun _ => rfl) (by decide) (by decide) (Nat.le_of_ble_eq_true rfl) (Nat.le_of_ble_eq_true rfl) (Nat.le_of_ble_eq_true rfl) dX1_init_20 (fun q2 H hP hD hS => ?_)
  have hP : va_P (dC, dI) vwCl [(h_this, .inr (1, [.ref h_hall, .ref q1, .null, .null, .null, .null, .null, .int 0, .int 0, .int 0, .int 0, .int 0, .int 0, .int 0, .int 0, .int 0])), aI cI q1 7 (fun _ => 0), aI cI q2 7 (fun _ => 0)] H := hP
  have hD : va_D A [(h_this, .inr (1, [.ref h_hall, .ref q1, .null, .null, .null, .null, .null, .int 0, .int 0, .int 0, .int 0, .int 0, .int 0, .int 0, .int 0, .int 0])), aI cI q1 7 (fun _ => 0), aI cI q2 7 (fun _ => 0)] := hD
  refine W.widen (k := 2) (n := 14) (Nat.le_of_ble_eq_true rfl) (Nat.le_of_ble_eq_true rfl) ?_
  refine va_putF (D := (dC, dI)) (ci := 1) (v := .ref q2) (ty := (.array .int)) (C := RX1) (T := TX1) (N := 16) hx hb hts (fun w h => List.mem_cons_of_mem _ (inU_1 w h)) tyX1 tyX1_ok nmX1 hown hK hP hD hS 0 rfl rfl 2 (by decide) (hts _ (List.mem_cons_of_mem _ U_145)) (fun _ h9 => h9) rfl hin rfl (by decide +kernel) rfl rfl (Nat.le_of_ble_eq_true rfl) dX1_init_22 (fun H locs hP hD hS => ?_)
  have hP : va_P (dC, dI) vwCl [(h_this, .inr (1, [.ref h_hall, .ref q1, .ref q2, .null, .null, .null, .null, .int 0, .int 0, .int 0, .int 0, .int 0, .int 0, .int 0, .int 0, .int 0])), aI cI q1 7 (fun _ => 0), aI cI q2 7 (fun _ => 0)] H := hP
  have hD : va_D A [(h_this, .inr (1, [.ref h_hall, .ref q1, .ref q2, .null, .null, .null, .null, .int 0, .int 0, .int 0, .int 0, .int 0, .int 0, .int 0, .int 0, .int 0])), aI cI q1 7 (fun _ => 0), aI cI q2 7 (fun _ => 0)] := hD
  refine lv_aload_n hx hb dX1_init_25 rfl (lv_at hl 0 rfl) ?_
  refine lv_bipush (v := 7) hx hb dX1_init_26 (by decide) ?_
  refine z_pc (pc' := 28) rfl ?_
  refine z_newarr (atype := .int) (a0 := (7, .inl (fun _ => 0))) (N' := 7) hx hb (hts _ (List.mem_cons_of_mem _ U_130)) rfl hK hP hD hS hA 0 rfl (fun _ => rfl) (by decide) (by decide) (Nat.le_of_ble_eq_true rfl) (Nat.le_of_ble_eq_true rfl) (Nat.le_of_ble_eq_true rfl) dX1_init_28 (fun q3 H hP hD hS => ?_)
  have hP : va_P (dC, dI) vwCl [(h_this, .inr (1, [.ref h_hall, .ref q1, .ref q2, .null, .null, .null, .null, .int 0, .int 0, .int 0, .int 0, .int 0, .int 0, .int 0, .int 0, .int 0])), aI cI q1 7 (fun _ => 0), aI cI q2 7 (fun _ => 0), aI cI q3 7 (fun _ => 0)] H := hP
  have hD : va_D A [(h_this, .inr (1, [.ref h_hall, .ref q1, .ref q2, .null, .null, .null, .null, .int 0, .int 0, .int 0, .int 0, .int 0, .int 0, .int 0, .int 0, .int 0])), aI cI q1 7 (fun _ => 0), aI cI q2 7 (fun _ => 0), aI cI q3 7 (fun _ => 0)] := hD
  refine W.widen (k := 3) (n := 21) (Nat.le_of_ble_eq_true rfl) (Nat.le_of_ble_eq_true rfl) ?_
  refine va_putF (D := (dC, dI)) (ci := 1) (v := .ref q3) (ty := (.array .int)) (C := RX1) (T := TX1) (N := 16) hx hb hts (fun w h => List.mem_cons_of_mem _ (inU_1 w h)) tyX1 tyX1_ok nmX1 hown hK hP hD hS 0 rfl rfl 3 (by decide) (hts _ (List.mem_cons_of_mem _ U_146)) (fun _ h9 => h9) rfl hin rfl (by decide +kernel) rfl rfl (Nat.le_of_ble_eq_true rfl) dX1_init_30 (fun H locs hP hD hS => ?_)
  have hP : va_P (dC, dI) vwCl [(h_this, .inr (1, [.ref h_hall, .ref q1, .ref q2, .ref q3, .null, .null, .null, .int 0, .int 0, .int 0, .int 0, .int 0, .int 0, .int 0, .int 0, .int 0])), aI cI q1 7 (fun _ => 0), aI cI q2 7 (fun _ => 0), aI cI q3 7 (fun _ => 0)] H := hP
  have hD : va_D A [(h_this, .inr (1, [.ref h_hall, .ref q1, .ref q2, .ref q3, .null, .null, .null, .int 0, .int 0, .int 0, .int 0, .int 0, .int 0, .int 0, .int 0, .int 0])), aI cI q1 7 (fun _ => 0), aI cI q2 7 (fun _ => 0), aI cI q3 7 (fun _ => 0)] := hD
  refine lv_aload_n hx hb dX1_init_33 rfl (lv_at hl 0 rfl) ?_
  refine lv_bipush (v := 7) hx hb dX1_init_34 (by decide) ?_
  refine z_newarr (atype := .int) (a0 := (7, .inl (fun _ => 0))) (N' := 7) hx hb (hts _ (List.mem_cons_of_mem _ U_130)) rfl hK hP hD hS hA 0 rfl (fun _ => rfl) (by decide) (by decide) (Nat.le_of_ble_eq_true rfl) (Nat.le_of_ble_eq_true rfl) (Nat.le_of_ble_eq_true rfl) dX1_init_36 (fun q4 H hP hD hS => ?_)
  have hP : va_P (dC, dI) vwCl [(h_this, .inr (1, [.ref h_hall, .ref q1, .ref q2, .ref q3, .null, .null, .null, .int 0, .int 0, .int 0, .int 0, .int 0, .int 0, .int 0, .int 0, .int 0])), aI cI q1 7 (fun _ => 0), aI cI q2 7 (fun _ => 0), aI cI q3 7 (fun _ => 0), aI cI q4 7 (fun _ => 0)] H := hP
  have hD : va_D A [(h_this, .inr (1, [.ref h_hall, .ref q1, .ref q2, .ref q3, .null, .null, .null, .int 0, .int 0, .int 0, .int 0, .int 0, .int 0, .int 0, .int 0, .int 0])), aI cI q1 7 (fun _ => 0), aI cI q2 7 (fun _ => 0), aI cI q3 7 (fun _ => 0), aI cI q4 7 (fun _ => 0)] := hD
  refine W.widen (k := 4) (n := 28) (Nat.le_of_ble_eq_true rfl) (Nat.le_of_ble_eq_true rfl) ?_
  refine z_pc (pc' := 38) rfl ?_
  refine va_putF (D := (dC, dI)) (ci := 1) (v := .ref q4) (ty := (.array .int)) (C := RX1) (T := TX1) (N := 16) hx hb hts (fun w h => List.mem_cons_of_mem _ (inU_1 w h)) tyX1 tyX1_ok nmX1 hown hK hP hD hS 0 rfl rfl 4 (by decide) (hts _ (List.mem_cons_of_mem _ U_147)) (fun _ h9 => h9) rfl hin rfl (by decide +kernel) rfl rfl (Nat.le_of_ble_eq_true rfl) dX1_init_38 (fun H locs hP hD hS => ?_)
  have hP : va_P (dC, dI) vwCl [(h_this, .inr (1, [.ref h_hall, .ref q1, .ref q2, .ref q3, .ref q4, .null, .null, .int 0, .int 0, .int 0, .int 0, .int 0, .int 0, .int 0, .int 0, .int 0])), aI cI q1 7 (fun _ => 0), aI cI q2 7 (fun _ => 0), aI cI q3 7 (fun _ => 0), aI cI q4 7 (fun _ => 0)] H := hP
  have hD : va_D A [(h_this, .inr (1, [.ref h_hall, .ref q1, .ref q2, .ref q3, .ref q4, .null, .null, .int 0, .int 0, .int 0, .int 0, .int 0, .int 0, .int 0, .int 0, .int 0])), aI cI q1 7 (fun _ => 0), aI cI q2 7 (fun _ => 0), aI cI q3 7 (fun _ => 0), aI cI q4 7 (fun _ => 0)] := hD
  refine lv_aload_n hx hb dX1_init_41 rfl (lv_at hl 0 rfl) ?_
  refine lv_bipush (v := 7) hx hb dX1_init_42 (by decide) ?_
  refine z_newarr (atype := .int) (a0 := (7, .inl (fun _ => 0))) (N' := 7) hx hb (hts _ (List.mem_cons_of_mem _ U_130)) rfl hK hP hD hS hA 0 rfl (fun _ => rfl) (by decide) (by decide) (Nat.le_of_ble_eq_true rfl) (Nat.le_of_ble_eq_true rfl) (Nat.le_of_ble_eq_true rfl) dX1_init_44 (fun q5 H hP hD hS => ?_)
  have hP : va_P (dC, dI) vwCl [(h_this, .inr (1, [.ref h_hall, .ref q1, .ref q2, .ref q3, .ref q4, .null, .null, .int 0, .int 0, .int 0, .int 0, .int 0, .int 0, .int 0, .int 0, .int 0])), aI cI q1 7 (fun _ => 0), aI cI q2 7 (fun _ => 0), aI cI q3 7 (fun _ => 0), aI cI q4 7 (fun _ => 0), aI cI q5 7 (fun _ => 0)] H := hP
  have hD : va_D A [(h_this, .inr (1, [.ref h_hall, .ref q1, .ref q2, .ref q3, .ref q4, .null, .null, .int 0, .int 0, .int 0, .int 0, .int 0, .int 0, .int 0, .int 0, .int 0])), aI cI q1 7 (fun _ => 0), aI cI q2 7 (fun _ => 0), aI cI q3 7 (fun _ => 0), aI cI q4 7 (fun _ => 0), aI cI q5 7 (fun _ => 0)] := hD
  refine W.widen (k := 5) (n := 35) (Nat.le_of_ble_eq_true rfl) (Nat.le_of_ble_eq_true rfl) ?_
  refine va_putF (D := (dC, dI)) (ci := 1) (v := .ref q5) (ty := (.array .int)) (C := RX1) (T := TX1) (N := 16) hx hb hts (fun w h => List.mem_cons_of_mem _ (inU_1 w h)) tyX1 tyX1_ok nmX1 hown hK hP hD hS 0 rfl rfl 5 (by decide) (hts _ (List.mem_cons_of_mem _ U_148)) (fun _ h9 => h9) rfl hin rfl (by decide +kernel) rfl rfl (Nat.le_of_ble_eq_true rfl) dX1_init_46 (fun H locs hP hD hS => ?_)
  have hP : va_P (dC, dI) vwCl [(h_this, .inr (1, [.ref h_hall, .ref q1, .ref q2, .ref q3, .ref q4, .ref q5, .null, .int 0, .int 0, .int 0, .int 0, .int 0, .int 0, .int 0, .int 0, .int 0])), aI cI q1 7 (fun _ => 0), aI cI q2 7 (fun _ => 0), aI cI q3 7 (fun _ => 0), aI cI q4 7 (fun _ => 0), aI cI q5 7 (fun _ => 0)] H := hP
  have hD : va_D A [(h_this, .inr (1, [.ref h_hall, .ref q1, .ref q2, .ref q3, .ref q4, .ref q5, .null, .int 0, .int 0, .int 0, .int 0, .int 0, .int 0, .int 0, .int 0, .int 0])), aI cI q1 7 (fun _ => 0), aI cI q2 7 (fun _ => 0), aI cI q3 7 (fun _ => 0), aI cI q4 7 (fun _ => 0), aI cI q5 7 (fun _ => 0)] := hD
  refine z_pc (pc' := 49) rfl ?_
  refine lv_aload_n hx hb dX1_init_49 rfl (lv_at hl 0 rfl) ?_
  refine lv_bipush (v := 7) hx hb dX1_init_50 (by decide) ?_
  refine z_newarr (atype := .int) (a0 := (7, .inl (fun _ => 0))) (N' := 7) hx hb (hts _ (List.mem_cons_of_mem _ U_130)) rfl hK hP hD hS hA 0 rfl (fun _ => rfl) (by decide) (by decide) (Nat.le_of_ble_eq_true rfl) (Nat.le_of_ble_eq_true rfl) (Nat.le_of_ble_eq_true rfl) dX1_init_52 (fun q6 H hP hD hS => ?_)
  have hP : va_P (dC, dI) vwCl [(h_this, .inr (1, [.ref h_hall, .ref q1, .ref q2, .ref q3, .ref q4, .ref q5, .null, .int 0, .int 0, .int 0, .int 0, .int 0, .int 0, .int 0, .int 0, .int 0])), aI cI q1 7 (fun _ => 0), aI cI q2 7 (fun _ => 0), aI cI q3 7 (fun _ => 0), aI cI q4 7 (fun _ => 0), aI cI q5 7 (fun _ => 0), aI cI q6 7 (fun _ => 0)] H := hP
  have hD : va_D A [(h_this, .inr (1, [.ref h_hall, .ref q1, .ref q2, .ref q3, .ref q4, .ref q5, .null, .int 0, .int 0, .int 0, .int 0, .int 0, .int 0, .int 0, .int 0, .int 0])), aI cI q1 7 (fun _ => 0), aI cI q2 7 (fun _ => 0), aI cI q3 7 (fun _ => 0), aI cI q4 7 (fun _ => 0), aI cI q5 7 (fun _ => 0), aI cI q6 7 (fun _ => 0)] := hD
  refine W.widen (k := 6) (n := 42) (Nat.le_of_ble_eq_true rfl) (Nat.le_of_ble_eq_true rfl) ?_
  refine va_putF (D := (dC, dI)) (ci := 1) (v := .ref q6) (ty := (.array .int)) (C := RX1) (T := TX1) (N := 16) hx hb hts (fun w h => List.mem_cons_of_mem _ (inU_1 w h)) tyX1 tyX1_ok nmX1 hown hK hP hD hS 0 rfl rfl 6 (by decide) (hts _ (List.mem_cons_of_mem _ U_149)) (fun _ h9 => h9) rfl hin rfl (by decide +kernel) rfl rfl (Nat.le_of_ble_eq_true rfl) dX1_init_54 (fun H locs hP hD hS => ?_)
  have hP : va_P (dC, dI) vwCl [(h_this, .inr (1, [.ref h_hall, .ref q1, .ref q2, .ref q3, .ref q4, .ref q5, .ref q6, .int 0, .int 0, .int 0, .int 0, .int 0, .int 0, .int 0, .int 0, .int 0])), aI cI q1 7 (fun _ => 0), aI cI q2 7 (fun _ => 0), aI cI q3 7 (fun _ => 0), aI cI q4 7 (fun _ => 0), aI cI q5 7 (fun _ => 0), aI cI q6 7 (fun _ => 0)] H := hP
  have hD : va_D A [(h_this, .inr (1, [.ref h_hall, .ref q1, .ref q2, .ref q3, .ref q4, .ref q5, .ref q6, .int 0, .int 0, .int 0, .int 0, .int 0, .int 0, .int 0, .int 0, .int 0])), aI cI q1 7 (fun _ => 0), aI cI q2 7 (fun _ => 0), aI cI q3 7 (fun _ => 0), aI cI q4 7 (fun _ => 0), aI cI q5 7 (fun _ => 0), aI cI q6 7 (fun _ => 0)] := hD
  refine lv_aload_n hx hb dX1_init_57 rfl (lv_at hl 0 rfl) ?_
  refine z_pc (pc' := 58) rfl ?_
  refine lv_iconst (v := (-1)) hx hb dX1_init_58 (by decide) ?_
  refine va_put (D := (dC, dI)) (ci := 1) (v := .int (-1)) (ty := .int) (C := RX1) (T := TX1) (N := 16) hx hb hts (fun w h => List.mem_cons_of_mem _ (inU_1 w h)) tyX1 tyX1_ok nmX1 hown hK hP hD hS 0 rfl rfl 13 (by decide) (hts _ (List.mem_cons_of_mem _ U_150)) (fun _ h9 => h9) rfl (by decide +kernel) rfl rfl (Nat.le_of_ble_eq_true rfl) dX1_init_59 (fun H locs hP hD hS => ?_)
  have hP : va_P (dC, dI) vwCl [(h_this, .inr (1, [.ref h_hall, .ref q1, .ref q2, .ref q3, .ref q4, .ref q5, .ref q6, .int 0, .int 0, .int 0, .int 0, .int 0, .int 0, .int (-1), .int 0, .int 0])), aI cI q1 7 (fun _ => 0), aI cI q2 7 (fun _ => 0), aI cI q3 7 (fun _ => 0), aI cI q4 7 (fun _ => 0), aI cI q5 7 (fun _ => 0), aI cI q6 7 (fun _ => 0)] H := hP
  have hD : va_D A [(h_this, .inr (1, [.ref h_hall, .ref q1, .ref q2, .ref q3, .ref q4, .ref q5, .ref q6, .int 0, .int 0, .int 0, .int 0, .int 0, .int 0, .int (-1), .int 0, .int 0])), aI cI q1 7 (fun _ => 0), aI cI q2 7 (fun _ => 0), aI cI q3 7 (fun _ => 0), aI cI q4 7 (fun _ => 0), aI cI q5 7 (fun _ => 0), aI cI q6 7 (fun _ => 0)] := hD
  exact W.vret hx hb hr (fun t ht hW => ⟨⟨(), rfl, trivial, ⟨q1, ⟨q2, ⟨q3, ⟨q4, ⟨q5, ⟨q6, ⟨by rw [ht]; exact hP, va_K.moved hW.alike hK, hD⟩⟩⟩⟩⟩⟩⟩⟩, hS.F ht⟩) hS.2.2 dX1_init_62 hlocks
set_option maxHeartbeats 8000000 in
set_option maxRecDepth 100000 in
theorem kX7_init (l : Launch) (dC : Nat → ClassId) (dI : Nat → Nat → Nat) (cI cJ cB cZ cF cG : ClassId) (h_this : Nat) (sz : Nat) : Met l yX7_init uX7_init ({ frames := 1, cells := 4, slots := 140, locals := 12 }) (va_Pc [.ref h_this] (fun U => U.heap.size = sz ∧ va_P (dC, dI) vwCl [(h_this, .inr (7, [.null, .null, .null, .null, .int 0, .int 0]))] U.heap ∧ va_K (dC, dI) vwCl (TYS cI cJ cB cZ cF cG) U ∧ va_D (fun _ => True) [(h_this, .inr (7, [.null, .null, .null, .null, .int 0, .int 0]))])) (va_Qv (fun (_ : Unit) => True) (fun _ t => ∃ q1 q2 q3 q4 : Nat, va_P (dC, dI) vwCl [(h_this, .inr (7, [.ref q1, .ref q2, .ref q3, .ref q4, .int 0, .int 0])), aI cI q1 40 (fun _ => 0), aI cI q2 40 (fun _ => 0), aI cI q3 40 (fun _ => 0), aI cI q4 20 (fun _ => 0)] t.heap ∧ va_K (dC, dI) vwCl (TYS cI cJ cB cZ cF cG) t ∧ va_D (va_A [(h_this, .inr (7, [.null, .null, .null, .null, .int 0, .int 0]))] sz) [(h_this, .inr (7, [.ref q1, .ref q2, .ref q3, .ref q4, .int 0, .int 0])), aI cI q1 40 (fun _ => 0), aI cI q2 40 (fun _ => 0), aI cI q3 40 (fun _ => 0), aI cI q4 20 (fun _ => 0)]) (va_A [(h_this, .inr (7, [.null, .null, .null, .null, .int 0, .int 0]))] sz)) 4 140 (va_A [(h_this, .inr (7, [.null, .null, .null, .null, .int 0, .int 0]))] sz) := by
  refine Met.ofW (cc := cX7_init) (maxL := 1) (ret := none) (by decide) rfl ?_
  intro p e s m args below meth c s₁ B hml hv
  obtain ⟨rfl, hsz, hP, hK, hD0⟩ := hv
  have hx := B.exec
  have hb := B.bytes
  have hr := B.returns
  have hts := atoms_spec (ws := uX7_init) B.pre
  have hown : s.vm.findClass RX7 = some m.cls := findClass_of_methodNamed B.named
  have hlocks := B.notSynchronized
  have hin : meth.name = "<init>" := (name_of_methodNamed B.named B.method).1
  subst hsz
  have hD := hD0.self (sz := s.heap.size)
  generalize hAe : va_A [(h_this, .inr (7, [.null, .null, .null, .null, .int 0, .int 0]))] s.heap.size = A at hD ⊢
  have hA : ∀ q : Nat, s.heap.size ≤ q → A q := fun q h => by rw [← hAe]; exact Or.inr h
  have hS : va_S A s.heap s.heap [] := va_S.rf
  have hl := lv_entry ([.ref h_this]) (n := 1) (Nat.le_of_ble_eq_true rfl)
  rw [lg_entry_eq]
  generalize (lg_sl ([.ref h_this]) ++ List.replicate (1 - (lg_sl ([.ref h_this])).length) Slot.unset).toArray = ls at hl ⊢
  have hl : lv_has ls 1 [(0, .ref h_this)] := hl
  refine lv_aload_n hx hb dX7_init_0 rfl (lv_at hl 0 rfl) ?_
  refine W.objInit hx hb hown (hts _ (List.mem_cons_of_mem _ U_193)) (hts _ (List.mem_cons_of_mem _ U_11)) (hts _ (List.mem_cons_of_mem _ U_12)) rfl (by rw [hml]; exact hl.1) rfl dX7_init_1 (Nat.le_of_ble_eq_true rfl) (Nat.le_of_ble_eq_true rfl) ?_
  refine W.eq (g2 := F0 m 4 ls []) rfl ?_
  refine lv_aload_n hx hb dX7_init_4 rfl (lv_at hl 0 rfl) ?_
  refine lv_bipush (v := 40) hx hb dX7_init_5 (by decide) ?_
  refine z_newarr (atype := .int) (a0 := (40, .inl (fun _ => 0))) (N' := 40) hx hb (hts _ (List.mem_cons_of_mem _ U_130)) rfl hK hP hD hS hA 0 rfl (fun _ => rfl) (by decide) (by decide) (Nat.le_of_ble_eq_true rfl) (Nat.le_of_ble_eq_true rfl) (Nat.le_of_ble_eq_true rfl) dX7_init_7 (fun q1 H hP hD hS => ?_)
  have hP : va_P (dC, dI) vwCl [(h_this, .inr (7, [.null, .null, .null, .null, .int 0, .int 0])), aI cI q1 40 (fun _ => 0)] H := hP
  have hD : va_D A [(h_this, .inr (7, [.null, .null, .null, .null, .int 0, .int 0])), aI cI q1 40 (fun _ => 0)] := hD
  refine W.widen (k := 1) (n := 40) (Nat.le_of_ble_eq_true rfl) (Nat.le_of_ble_eq_true rfl) ?_
  refine z_pc (pc' := 9) rfl ?_
  refine va_putF (D := (dC, dI)) (ci := 7) (v := .ref q1) (ty := (.array .int)) (C := RX7) (T := TX7) (N := 6) hx hb hts (fun w h => List.mem_cons_of_mem _ (inU_7 w h)) tyX7 tyX7_ok nmX7 hown hK hP hD hS 0 rfl rfl 0 (by decide) (hts _ (List.mem_cons_of_mem _ U_194)) (fun _ h9 => h9) rfl hin rfl (by decide +kernel) rfl rfl (Nat.le_of_ble_eq_true rfl) dX7_init_9 (fun H locs hP hD hS => ?_)
  have hP : va_P (dC, dI) vwCl [(h_this, .inr (7, [.ref q1, .null, .null, .null, .int 0, .int 0])), aI cI q1 40 (fun _ => 0)] H := hP
  have hD : va_D A [(h_this, .inr (7, [.ref q1, .null, .null, .null, .int 0, .int 0])), aI cI q1 40 (fun _ => 0)] := hD
  refine lv_aload_n hx hb dX7_init_12 rfl (lv_at hl 0 rfl) ?_
  refine lv_bipush (v := 40) hx hb dX7_init_13 (by decide) ?_
  refine z_newarr (atype := .int) (a0 := (40, .inl (fun _ => 0))) (N' := 40) hx hb (hts _ (List.mem_cons_of_mem _ U_130)) rfl hK hP hD hS hA 0 rfl (fun _ => rfl) (by decide) (by decide) (Nat.le_of_ble_eq_true rfl) (Nat.le_of_ble_eq_true rfl) (Nat.le_of_ble_eq_true rfl) dX7_init_15 (fun q2 H hP hD hS => ?_)
  have hP : va_P (dC, dI) vwCl [(h_this, .inr (7, [.ref q1, .null, .null, .null, .int 0, .int 0])), aI cI q1 40 (fun _ => 0), aI cI q2 40 (fun _ => 0)] H := hP
  have hD : va_D A [(h_this, .inr (7, [.ref q1, .null, .null, .null, .int 0, .int 0])), aI cI q1 40 (fun _ => 0), aI cI q2 40 (fun _ => 0)] := hD
  refine W.widen (k := 2) (n := 80) (Nat.le_of_ble_eq_true rfl) (Nat.le_of_ble_eq_true rfl) ?_
  refine va_putF (D := (dC, dI)) (ci := 7) (v := .ref q2) (ty := (.array .int)) (C := RX7) (T := TX7) (N := 6) hx hb hts (fun w h => List.mem_cons_of_mem _ (inU_7 w h)) tyX7 tyX7_ok nmX7 hown hK hP hD hS 0 rfl rfl 1 (by decide) (hts _ (List.mem_cons_of_mem _ U_195)) (fun _ h9 => h9) rfl hin rfl (by decide +kernel) rfl rfl (Nat.le_of_ble_eq_true rfl) dX7_init_17 (fun H locs hP hD hS => ?_)
  have hP : va_P (dC, dI) vwCl [(h_this, .inr (7, [.ref q1, .ref q2, .null, .null, .int 0, .int 0])), aI cI q1 40 (fun _ => 0), aI cI q2 40 (fun _ => 0)] H := hP
  have hD : va_D A [(h_this, .inr (7, [.ref q1, .ref q2, .null, .null, .int 0, .int 0])), aI cI q1 40 (fun _ => 0), aI cI q2 40 (fun _ => 0)] := hD
  refine z_pc (pc' := 20) rfl ?_
  refine lv_aload_n hx hb dX7_init_20 rfl (lv_at hl 0 rfl) ?_
  refine lv_bipush (v := 40) hx hb dX7_init_21 (by decide) ?_
  refine z_newarr (atype := .int) (a0 := (40, .inl (fun _ => 0))) (N' := 40) hx hb (hts _ (List.mem_cons_of_mem _ U_130)) rfl hK hP hD hS hA 0 rfl (fun _ => rfl) (by decide) (by decide) (Nat.le_of_ble_eq_true rfl) (Nat.le_of_ble_eq_true rfl) (Nat.le_of_ble_eq_true rfl) dX7_init_23 (fun q3 H hP hD hS => ?_)
  have hP : va_P (dC, dI) vwCl [(h_this, .inr (7, [.ref q1, .ref q2, .null, .null, .int 0, .int 0])), aI cI q1 40 (fun _ => 0), aI cI q2 40 (fun _ => 0), aI cI q3 40 (fun _ => 0)] H := hP
  have hD : va_D A [(h_this, .inr (7, [.ref q1, .ref q2, .null, .null, .int 0, .int 0])), aI cI q1 40 (fun _ => 0), aI cI q2 40 (fun _ => 0), aI cI q3 40 (fun _ => 0)] := hD
  refine W.widen (k := 3) (n := 120) (Nat.le_of_ble_eq_true rfl) (Nat.le_of_ble_eq_true rfl) ?_
  refine va_putF (D := (dC, dI)) (ci := 7) (v := .ref q3) (ty := (.array .int)) (C := RX7) (T := TX7) (N := 6) hx hb hts (fun w h => List.mem_cons_of_mem _ (inU_7 w h)) tyX7 tyX7_ok nmX7 hown hK hP hD hS 0 rfl rfl 2 (by decide) (hts _ (List.mem_cons_of_mem _ U_196)) (fun _ h9 => h9) rfl hin rfl (by decide +kernel) rfl rfl (Nat.le_of_ble_eq_true rfl) dX7_init_25 (fun H locs hP hD hS => ?_)
  have hP : va_P (dC, dI) vwCl [(h_this, .inr (7, [.ref q1, .ref q2, .ref q3, .null, .int 0, .int 0])), aI cI q1 40 (fun _ => 0), aI cI q2 40 (fun _ => 0), aI cI q3 40 (fun _ => 0)] H := hP
  have hD : va_D A [(h_this, .inr (7, [.ref q1, .ref q2, .ref q3, .null, .int 0, .int 0])), aI cI q1 40 (fun _ => 0), aI cI q2 40 (fun _ => 0), aI cI q3 40 (fun _ => 0)] := hD
  refine lv_aload_n hx hb dX7_init_28 rfl (lv_at hl 0 rfl) ?_
  refine z_pc (pc' := 29) rfl ?_
  refine lv_bipush (v := 20) hx hb dX7_init_29 (by decide) ?_
  refine z_newarr (atype := .int) (a0 := (20, .inl (fun _ => 0))) (N' := 20) hx hb (hts _ (List.mem_cons_of_mem _ U_130)) rfl hK hP hD hS hA 0 rfl (fun _ => rfl) (by decide) (by decide) (Nat.le_of_ble_eq_true rfl) (Nat.le_of_ble_eq_true rfl) (Nat.le_of_ble_eq_true rfl) dX7_init_31 (fun q4 H hP hD hS => ?_)
  have hP : va_P (dC, dI) vwCl [(h_this, .inr (7, [.ref q1, .ref q2, .ref q3, .null, .int 0, .int 0])), aI cI q1 40 (fun _ => 0), aI cI q2 40 (fun _ => 0), aI cI q3 40 (fun _ => 0), aI cI q4 20 (fun _ => 0)] H := hP
  have hD : va_D A [(h_this, .inr (7, [.ref q1, .ref q2, .ref q3, .null, .int 0, .int 0])), aI cI q1 40 (fun _ => 0), aI cI q2 40 (fun _ => 0), aI cI q3 40 (fun _ => 0), aI cI q4 20 (fun _ => 0)] := hD
  refine W.widen (k := 4) (n := 140) (Nat.le_of_ble_eq_true rfl) (Nat.le_of_ble_eq_true rfl) ?_
  refine va_putF (D := (dC, dI)) (ci := 7) (v := .ref q4) (ty := (.array .int)) (C := RX7) (T := TX7) (N := 6) hx hb hts (fun w h => List.mem_cons_of_mem _ (inU_7 w h)) tyX7 tyX7_ok nmX7 hown hK hP hD hS 0 rfl rfl 3 (by decide) (hts _ (List.mem_cons_of_mem _ U_197)) (fun _ h9 => h9) rfl hin rfl (by decide +kernel) rfl rfl (Nat.le_of_ble_eq_true rfl) dX7_init_33 (fun H locs hP hD hS => ?_)
  have hP : va_P (dC, dI) vwCl [(h_this, .inr (7, [.ref q1, .ref q2, .ref q3, .ref q4, .int 0, .int 0])), aI cI q1 40 (fun _ => 0), aI cI q2 40 (fun _ => 0), aI cI q3 40 (fun _ => 0), aI cI q4 20 (fun _ => 0)] H := hP
  have hD : va_D A [(h_this, .inr (7, [.ref q1, .ref q2, .ref q3, .ref q4, .int 0, .int 0])), aI cI q1 40 (fun _ => 0), aI cI q2 40 (fun _ => 0), aI cI q3 40 (fun _ => 0), aI cI q4 20 (fun _ => 0)] := hD
  exact W.vret hx hb hr (fun t ht hW => ⟨⟨(), rfl, trivial, ⟨q1, ⟨q2, ⟨q3, ⟨q4, ⟨by rw [ht]; exact hP, va_K.moved hW.alike hK, hD⟩⟩⟩⟩⟩⟩, hS.F ht⟩) hS.2.2 dX7_init_36 hlocks
set_option maxHeartbeats 8000000 in
set_option maxRecDepth 100000 in
theorem kX5_init (l : Launch) (dC : Nat → ClassId) (dI : Nat → Nat → Nat) (cI cJ cB cZ cF cG : ClassId) (h_this : Nat) (h_reader : Nat) (h_hall : Nat) (sz : Nat) : Met l yX5_init uX5_init ({ frames := 1, cells := 2, slots := 80, locals := 12 }) (va_Pc [.ref h_this, .ref h_reader, .ref h_hall] (fun U => U.heap.size = sz ∧ va_P (dC, dI) vwCl [(h_this, .inr (5, [.null, .null, .null, .null, .int 0, .int 0, .int 0, .int 0, .int 0, .int 0]))] U.heap ∧ va_K (dC, dI) vwCl (TYS cI cJ cB cZ cF cG) U ∧ va_D (fun _ => True) [(h_this, .inr (5, [.null, .null, .null, .null, .int 0, .int 0, .int 0, .int 0, .int 0, .int 0]))])) (va_Qv (fun (_ : Unit) => True) (fun _ t => ∃ q1 q2 : Nat, va_P (dC, dI) vwCl [(h_this, .inr (5, [.ref h_reader, .ref h_hall, .ref q1, .ref q2, .int 0, .int 0, .int 0, .int 0, .int 0, .int 0])), aI cI q1 40 (fun _ => 0), aI cI q2 40 (fun _ => 0)] t.heap ∧ va_K (dC, dI) vwCl (TYS cI cJ cB cZ cF cG) t ∧ va_D (va_A [(h_this, .inr (5, [.null, .null, .null, .null, .int 0, .int 0, .int 0, .int 0, .int 0, .int 0]))] sz) [(h_this, .inr (5, [.ref h_reader, .ref h_hall, .ref q1, .ref q2, .int 0, .int 0, .int 0, .int 0, .int 0, .int 0])), aI cI q1 40 (fun _ => 0), aI cI q2 40 (fun _ => 0)]) (va_A [(h_this, .inr (5, [.null, .null, .null, .null, .int 0, .int 0, .int 0, .int 0, .int 0, .int 0]))] sz)) 2 80 (va_A [(h_this, .inr (5, [.null, .null, .null, .null, .int 0, .int 0, .int 0, .int 0, .int 0, .int 0]))] sz) := by
  refine Met.ofW (cc := cX5_init) (maxL := 3) (ret := none) (by decide) rfl ?_
  intro p e s m args below meth c s₁ B hml hv
  obtain ⟨rfl, hsz, hP, hK, hD0⟩ := hv
  have hx := B.exec
  have hb := B.bytes
  have hr := B.returns
  have hts := atoms_spec (ws := uX5_init) B.pre
  have hown : s.vm.findClass RX5 = some m.cls := findClass_of_methodNamed B.named
  have hlocks := B.notSynchronized
  have hin : meth.name = "<init>" := (name_of_methodNamed B.named B.method).1
  subst hsz
  have hD := hD0.self (sz := s.heap.size)
  generalize hAe : va_A [(h_this, .inr (5, [.null, .null, .null, .null, .int 0, .int 0, .int 0, .int 0, .int 0, .int 0]))] s.heap.size = A at hD ⊢
  have hA : ∀ q : Nat, s.heap.size ≤ q → A q := fun q h => by rw [← hAe]; exact Or.inr h
  have hS : va_S A s.heap s.heap [] := va_S.rf
  have hl := lv_entry ([.ref h_this, .ref h_reader, .ref h_hall]) (n := 3) (Nat.le_of_ble_eq_true rfl)
  rw [lg_entry_eq]
  generalize (lg_sl ([.ref h_this, .ref h_reader, .ref h_hall]) ++ List.replicate (3 - (lg_sl ([.ref h_this, .ref h_reader, .ref h_hall])).length) Slot.unset).toArray = ls at hl ⊢
  have hl : lv_has ls 3 [(0, .ref h_this), (1, .ref h_reader), (2, .ref h_hall)] := hl
  refine lv_aload_n hx hb dX5_init_0 rfl (lv_at hl 0 rfl) ?_
  refine W.objInit hx hb hown (hts _ (List.mem_cons_of_mem _ U_185)) (hts _ (List.mem_cons_of_mem _ U_11)) (hts _ (List.mem_cons_of_mem _ U_12)) rfl (by rw [hml]; exact hl.1) rfl dX5_init_1 (Nat.le_of_ble_eq_true rfl) (Nat.le_of_ble_eq_true rfl) ?_
  refine W.eq (g2 := F0 m 4 ls []) rfl ?_
  refine lv_aload_n hx hb dX5_init_4 rfl (lv_at hl 0 rfl) ?_
  refine lv_aload_n hx hb dX5_init_5 rfl (lv_at hl 1 rfl) ?_
  refine va_putF (D := (dC, dI)) (ci := 5) (v := .ref h_reader) (ty := (.object "LastSeat$Reader")) (C := RX5) (T := TX5) (N := 10) hx hb hts (fun w h => List.mem_cons_of_mem _ (inU_5 w h)) tyX5 tyX5_ok nmX5 hown hK hP hD hS 0 rfl rfl 0 (by decide) (hts _ (List.mem_cons_of_mem _ U_186)) (fun _ h9 => h9) rfl hin rfl (by decide +kernel) rfl rfl (Nat.le_of_ble_eq_true rfl) dX5_init_6 (fun H locs hP hD hS => ?_)
  have hP : va_P (dC, dI) vwCl [(h_this, .inr (5, [.ref h_reader, .null, .null, .null, .int 0, .int 0, .int 0, .int 0, .int 0, .int 0]))] H := hP
  have hD : va_D A [(h_this, .inr (5, [.ref h_reader, .null, .null, .null, .int 0, .int 0, .int 0, .int 0, .int 0, .int 0]))] := hD
  refine z_pc (pc' := 9) rfl ?_
  refine lv_aload_n hx hb dX5_init_9 rfl (lv_at hl 0 rfl) ?_
  refine lv_aload_n hx hb dX5_init_10 rfl (lv_at hl 2 rfl) ?_
  refine va_putF (D := (dC, dI)) (ci := 5) (v := .ref h_hall) (ty := (.object "LastSeat$Hall")) (C := RX5) (T := TX5) (N := 10) hx hb hts (fun w h => List.mem_cons_of_mem _ (inU_5 w h)) tyX5 tyX5_ok nmX5 hown hK hP hD hS 0 rfl rfl 1 (by decide) (hts _ (List.mem_cons_of_mem _ U_187)) (fun _ h9 => h9) rfl hin rfl (by decide +kernel) rfl rfl (Nat.le_of_ble_eq_true rfl) dX5_init_11 (fun H locs hP hD hS => ?_)
  have hP : va_P (dC, dI) vwCl [(h_this, .inr (5, [.ref h_reader, .ref h_hall, .null, .null, .int 0, .int 0, .int 0, .int 0, .int 0, .int 0]))] H := hP
  have hD : va_D A [(h_this, .inr (5, [.ref h_reader, .ref h_hall, .null, .null, .int 0, .int 0, .int 0, .int 0, .int 0, .int 0]))] := hD
  refine lv_aload_n hx hb dX5_init_14 rfl (lv_at hl 0 rfl) ?_
  refine lv_bipush (v := 40) hx hb dX5_init_15 (by decide) ?_
  refine z_pc (pc' := 17) rfl ?_
  refine z_newarr (atype := .int) (a0 := (40, .inl (fun _ => 0))) (N' := 40) hx hb (hts _ (List.mem_cons_of_mem _ U_130)) rfl hK hP hD hS hA 0 rfl (fun _ => rfl) (by decide) (by decide) (Nat.le_of_ble_eq_true rfl) (Nat.le_of_ble_eq_true rfl) (Nat.le_of_ble_eq_true rfl) dX5_init_17 (fun q1 H hP hD hS => ?_)
  have hP : va_P (dC, dI) vwCl [(h_this, .inr (5, [.ref h_reader, .ref h_hall, .null, .null, .int 0, .int 0, .int 0, .int 0, .int 0, .int 0])), aI cI q1 40 (fun _ => 0)] H := hP
  have hD : va_D A [(h_this, .inr (5, [.ref h_reader, .ref h_hall, .null, .null, .int 0, .int 0, .int 0, .int 0, .int 0, .int 0])), aI cI q1 40 (fun _ => 0)] := hD
  refine W.widen (k := 1) (n := 40) (Nat.le_of_ble_eq_true rfl) (Nat.le_of_ble_eq_true rfl) ?_
  refine va_putF (D := (dC, dI)) (ci := 5) (v := .ref q1) (ty := (.array .int)) (C := RX5) (T := TX5) (N := 10) hx hb hts (fun w h => List.mem_cons_of_mem _ (inU_5 w h)) tyX5 tyX5_ok nmX5 hown hK hP hD hS 0 rfl rfl 2 (by decide) (hts _ (List.mem_cons_of_mem _ U_188)) (fun _ h9 => h9) rfl hin rfl (by decide +kernel) rfl rfl (Nat.le_of_ble_eq_true rfl) dX5_init_19 (fun H locs hP hD hS => ?_)
  have hP : va_P (dC, dI) vwCl [(h_this, .inr (5, [.ref h_reader, .ref h_hall, .ref q1, .null, .int 0, .int 0, .int 0, .int 0, .int 0, .int 0])), aI cI q1 40 (fun _ => 0)] H := hP
  have hD : va_D A [(h_this, .inr (5, [.ref h_reader, .ref h_hall, .ref q1, .null, .int 0, .int 0, .int 0, .int 0, .int 0, .int 0])), aI cI q1 40 (fun _ => 0)] := hD
  refine lv_aload_n hx hb dX5_init_22 rfl (lv_at hl 0 rfl) ?_
  refine lv_bipush (v := 40) hx hb dX5_init_23 (by decide) ?_
  refine z_newarr (atype := .int) (a0 := (40, .inl (fun _ => 0))) (N' := 40) hx hb (hts _ (List.mem_cons_of_mem _ U_130)) rfl hK hP hD hS hA 0 rfl (fun _ => rfl) (by decide) (by decide) (Nat.le_of_ble_eq_true rfl) (Nat.le_of_ble_eq_true rfl) (Nat.le_of_ble_eq_true rfl) dX5_init_25 (fun q2 H hP hD hS => ?_)
  have hP : va_P (dC, dI) vwCl [(h_this, .inr (5, [.ref h_reader, .ref h_hall, .ref q1, .null, .int 0, .int 0, .int 0, .int 0, .int 0, .int 0])), aI cI q1 40 (fun _ => 0), aI cI q2 40 (fun _ => 0)] H := hP
  have hD : va_D A [(h_this, .inr (5, [.ref h_reader, .ref h_hall, .ref q1, .null, .int 0, .int 0, .int 0, .int 0, .int 0, .int 0])), aI cI q1 40 (fun _ => 0), aI cI q2 40 (fun _ => 0)] := hD
  refine W.widen (k := 2) (n := 80) (Nat.le_of_ble_eq_true rfl) (Nat.le_of_ble_eq_true rfl) ?_
  refine z_pc (pc' := 27) rfl ?_
  refine va_putF (D := (dC, dI)) (ci := 5) (v := .ref q2) (ty := (.array .int)) (C := RX5) (T := TX5) (N := 10) hx hb hts (fun w h => List.mem_cons_of_mem _ (inU_5 w h)) tyX5 tyX5_ok nmX5 hown hK hP hD hS 0 rfl rfl 3 (by decide) (hts _ (List.mem_cons_of_mem _ U_189)) (fun _ h9 => h9) rfl hin rfl (by decide +kernel) rfl rfl (Nat.le_of_ble_eq_true rfl) dX5_init_27 (fun H locs hP hD hS => ?_)
  have hP : va_P (dC, dI) vwCl [(h_this, .inr (5, [.ref h_reader, .ref h_hall, .ref q1, .ref q2, .int 0, .int 0, .int 0, .int 0, .int 0, .int 0])), aI cI q1 40 (fun _ => 0), aI cI q2 40 (fun _ => 0)] H := hP
  have hD : va_D A [(h_this, .inr (5, [.ref h_reader, .ref h_hall, .ref q1, .ref q2, .int 0, .int 0, .int 0, .int 0, .int 0, .int 0])), aI cI q1 40 (fun _ => 0), aI cI q2 40 (fun _ => 0)] := hD
  exact W.vret hx hb hr (fun t ht hW => ⟨⟨(), rfl, trivial, ⟨q1, ⟨q2, ⟨by rw [ht]; exact hP, va_K.moved hW.alike hK, hD⟩⟩⟩⟩, hS.F ht⟩) hS.2.2 dX5_init_30 hlocks
set_option maxHeartbeats 8000000 in
set_option maxRecDepth 100000 in
theorem kX3_init (l : Launch) (dC : Nat → ClassId) (dI : Nat → Nat → Nat) (cI cJ cB cZ cF cG : ClassId) (h_this : Nat) (h_reader : Nat) (sz : Nat) : Met l yX3_init uX3_init ({ frames := 2, cells := 9, slots := 65, locals := 32 }) (va_Pc [.ref h_this, .ref h_reader] (fun U => U.heap.size = sz ∧ va_P (dC, dI) vwCl [(h_this, .inr (3, [.null, .null, .int 0]))] U.heap ∧ va_K (dC, dI) vwCl (TYS cI cJ cB cZ cF cG) U ∧ va_D (fun _ => True) [(h_this, .inr (3, [.null, .null, .int 0]))])) (va_Qv (fun (_ : Unit) => True) (fun _ t => ∃ q1 r2 r3 r4 r5 r6 r7 r8 r9 : Nat, va_P (dC, dI) vwCl [(h_this, .inr (3, [.ref h_reader, .ref q1, .int 0])), (q1, .inr (2, [.ref r2, .ref r3, .ref r4, .ref r5, .ref r6, .ref r7, .ref r8, .ref r9, .int 6, .int 0, .int 0])), aJ cJ r2 7 (fun _ => 0), aI cI r3 7 (fun _ => 0), aI cI r4 7 (fun _ => 0), aI cI r5 7 (fun _ => 0), aI cI r6 7 (fun _ => 0), aI cI r7 7 (fun _ => 0), aJ cJ r8 6 (fun _ => 0), aI cI r9 6 (fun _ => 0)] t.heap ∧ va_K (dC, dI) vwCl (TYS cI cJ cB cZ cF cG) t ∧ va_D (va_A [(h_this, .inr (3, [.null, .null, .int 0]))] sz) [(h_this, .inr (3, [.ref h_reader, .ref q1, .int 0])), (q1, .inr (2, [.ref r2, .ref r3, .ref r4, .ref r5, .ref r6, .ref r7, .ref r8, .ref r9, .int 6, .int 0, .int 0])), aJ cJ r2 7 (fun _ => 0), aI cI r3 7 (fun _ => 0), aI cI r4 7 (fun _ => 0), aI cI r5 7 (fun _ => 0), aI cI r6 7 (fun _ => 0), aI cI r7 7 (fun _ => 0), aJ cJ r8 6 (fun _ => 0), aI cI r9 6 (fun _ => 0)]) (va_A [(h_this, .inr (3, [.null, .null, .int 0]))] sz)) 9 65 (va_A [(h_this, .inr (3, [.null, .null, .int 0]))] sz) := by
  refine Met.ofW (cc := cX3_init) (maxL := 2) (ret := none) (by decide) rfl ?_
  intro p e s m args below meth c s₁ B hml hv
  obtain ⟨rfl, hsz, hP, hK, hD0⟩ := hv
  have hx := B.exec
  have hb := B.bytes
  have hr := B.returns
  have hts := atoms_spec (ws := uX3_init) B.pre
  have hown : s.vm.findClass RX3 = some m.cls := findClass_of_methodNamed B.named
  have hlocks := B.notSynchronized
  have hin : meth.name = "<init>" := (name_of_methodNamed B.named B.method).1
  subst hsz
  have hD := hD0.self (sz := s.heap.size)
  generalize hAe : va_A [(h_this, .inr (3, [.null, .null, .int 0]))] s.heap.size = A at hD ⊢
  have hA : ∀ q : Nat, s.heap.size ≤ q → A q := fun q h => by rw [← hAe]; exact Or.inr h
  have hS : va_S A s.heap s.heap [] := va_S.rf
  have hl := lv_entry ([.ref h_this, .ref h_reader]) (n := 2) (Nat.le_of_ble_eq_true rfl)
  rw [lg_entry_eq]
  generalize (lg_sl ([.ref h_this, .ref h_reader]) ++ List.replicate (2 - (lg_sl ([.ref h_this, .ref h_reader])).length) Slot.unset).toArray = ls at hl ⊢
  have hl : lv_has ls 2 [(0, .ref h_this), (1, .ref h_reader)] := hl
  refine lv_aload_n hx hb dX3_init_0 rfl (lv_at hl 0 rfl) ?_
  refine W.objInit hx hb hown (hts _ (List.mem_cons_of_mem _ U_154)) (hts _ (List.mem_cons_of_mem _ U_11)) (hts _ (List.mem_cons_of_mem _ U_12)) rfl (by rw [hml]; exact hl.1) rfl dX3_init_1 (Nat.le_of_ble_eq_true rfl) (Nat.le_of_ble_eq_true rfl) ?_
  refine W.eq (g2 := F0 m 4 ls []) rfl ?_
  refine lv_aload_n hx hb dX3_init_4 rfl (lv_at hl 0 rfl) ?_
  refine lv_aload_n hx hb dX3_init_5 rfl (lv_at hl 1 rfl) ?_
  refine va_putF (D := (dC, dI)) (ci := 3) (v := .ref h_reader) (ty := (.object "LastSeat$Reader")) (C := RX3) (T := TX3) (N := 3) hx hb hts (fun w h => List.mem_cons_of_mem _ (inU_3 w h)) tyX3 tyX3_ok nmX3 hown hK hP hD hS 0 rfl rfl 0 (by decide) (hts _ (List.mem_cons_of_mem _ U_155)) (fun _ h9 => h9) rfl hin rfl (by decide +kernel) rfl rfl (Nat.le_of_ble_eq_true rfl) dX3_init_6 (fun H locs hP hD hS => ?_)
  have hP : va_P (dC, dI) vwCl [(h_this, .inr (3, [.ref h_reader, .null, .int 0]))] H := hP
  have hD : va_D A [(h_this, .inr (3, [.ref h_reader, .null, .int 0]))] := hD
  refine z_pc (pc' := 9) rfl ?_
  refine lv_aload_n hx hb dX3_init_9 rfl (lv_at hl 0 rfl) ?_
  refine va_new (ci := 2) (fs := [.null, .null, .null, .null, .null, .null, .null, .null, .int 0, .int 0, .int 0]) (C := RX2) (T := TX2) (N := 11) hx hb hts (fun w h => List.mem_cons_of_mem _ (inU_2 w h)) tyX2 tyX2_ok hown (hts _ (List.mem_cons_of_mem _ U_156)) (hts _ (List.mem_cons_of_mem _ U_22)) (hts _ (List.mem_cons_of_mem _ U_23)) hK hP hD hS hA rfl dfX2 (Nat.le_of_ble_eq_true rfl) (Nat.le_of_ble_eq_true rfl) dX3_init_10 (fun q1 H hP hD hS => ?_)
  have hP : va_P (dC, dI) vwCl [(h_this, .inr (3, [.ref h_reader, .null, .int 0])), (q1, .inr (2, [.null, .null, .null, .null, .null, .null, .null, .null, .int 0, .int 0, .int 0]))] H := hP
  have hD : va_D A [(h_this, .inr (3, [.ref h_reader, .null, .int 0])), (q1, .inr (2, [.null, .null, .null, .null, .null, .null, .null, .null, .int 0, .int 0, .int 0]))] := hD
  refine W.widen (k := 1) (n := 11) (Nat.le_of_ble_eq_true rfl) (Nat.le_of_ble_eq_true rfl) ?_
  refine lv_dup hx hb dX3_init_13 rfl ?_
  have hPc := hP.sub (ws' := [(q1, .inr (2, [.null, .null, .null, .null, .null, .null, .null, .null, .int 0, .int 0, .int 0]))]) [1] rfl
  have hDc := hD.sub (ws' := [(q1, .inr (2, [.null, .null, .null, .null, .null, .null, .null, .null, .int 0, .int 0, .int 0]))]) [1] (by decide) rfl
  have hFc := va_free (wc := [(q1, .inr (2, [.null, .null, .null, .null, .null, .null, .null, .null, .int 0, .int 0, .int 0]))]) hD hS hA [1] rfl
  refine va_callv (va_runI (As := []) (rest := [.ref q1, .ref h_this]) ⟨hx, hb, hml, hown, hts⟩ (kX2_init l dC dI cI cJ cB cZ cF cG q1 H.size) (cwI 0 hts (goodW (List.forall_mem_cons.mpr ⟨U_127, fun _ h => h⟩)) rfl rfl rfl (hts _ (List.mem_cons_of_mem _ U_23)) (hts _ (List.mem_cons_of_mem _ U_158)) (hts _ (List.mem_cons_of_mem _ U_126)) rfl (by decide +kernel) ⟨Nat.le_of_ble_eq_true rfl, Nat.le_of_ble_eq_true rfl⟩) ⟨fun a U g mk q => by obtain ⟨q0, q1, qP, qK, qD⟩ := q; exact ⟨q0, q1, qP, va_K.moved (u := U) (U := U.calling g mk a) (Vm.Alike.refl U.vm) qK, qD⟩, fun U hU hW => ⟨rfl, by rw [hU], by rw [hU]; exact hPc, va_K.moved hW.alike hK, hDc.weaken (fun _ _ _ _ => trivial)⟩⟩ rfl rfl hl.1 rfl (lv_room (Nat.le_of_ble_eq_true rfl)) dX3_init_14 ⟨Nat.le_of_ble_eq_true rfl, Nat.le_of_ble_eq_true rfl⟩) hS (fun q _ h => hFc q h) hFc (fun u t H1 locs ht hvm hw hB hz1 hk1 hS => ?_)
  obtain ⟨r2, r3, r4, r5, r6, r7, r8, r9,  hP1, hK1, hD1⟩ := hB
  rw [ht] at hP1
  obtain ⟨hP, hD⟩ := va_join (wr := [(h_this, .inr (3, [.ref h_reader, .null, .int 0]))]) (w1 := [(q1, .inr (2, [.ref r2, .ref r3, .ref r4, .ref r5, .ref r6, .ref r7, .ref r8, .ref r9, .int 6, .int 0, .int 0])), aJ cJ r2 7 (fun _ => 0), aI cI r3 7 (fun _ => 0), aI cI r4 7 (fun _ => 0), aI cI r5 7 (fun _ => 0), aI cI r6 7 (fun _ => 0), aI cI r7 7 (fun _ => 0), aJ cJ r8 6 (fun _ => 0), aI cI r9 6 (fun _ => 0)]) hP hD [1] [0] rfl rfl (by decide) (by decide) hk1 hFc hP1 hD1
  generalize H1 = H at hP hS ⊢
  have hP : va_P (dC, dI) vwCl [(h_this, .inr (3, [.ref h_reader, .null, .int 0])), (q1, .inr (2, [.ref r2, .ref r3, .ref r4, .ref r5, .ref r6, .ref r7, .ref r8, .ref r9, .int 6, .int 0, .int 0])), aJ cJ r2 7 (fun _ => 0), aI cI r3 7 (fun _ => 0), aI cI r4 7 (fun _ => 0), aI cI r5 7 (fun _ => 0), aI cI r6 7 (fun _ => 0), aI cI r7 7 (fun _ => 0), aJ cJ r8 6 (fun _ => 0), aI cI r9 6 (fun _ => 0)] H := hP
  have hD : va_D A [(h_this, .inr (3, [.ref h_reader, .null, .int 0])), (q1, .inr (2, [.ref r2, .ref r3, .ref r4, .ref r5, .ref r6, .ref r7, .ref r8, .ref r9, .int 6, .int 0, .int 0])), aJ cJ r2 7 (fun _ => 0), aI cI r3 7 (fun _ => 0), aI cI r4 7 (fun _ => 0), aI cI r5 7 (fun _ => 0), aI cI r6 7 (fun _ => 0), aI cI r7 7 (fun _ => 0), aJ cJ r8 6 (fun _ => 0), aI cI r9 6 (fun _ => 0)] := hD
  refine W.widen (k := 9) (n := 65) (Nat.le_of_ble_eq_true rfl) (Nat.le_of_ble_eq_true rfl) ?_
  refine va_putF (D := (dC, dI)) (ci := 3) (v := .ref q1) (ty := (.object "LastSeat$Hall")) (C := RX3) (T := TX3) (N := 3) hx hb hts (fun w h => List.mem_cons_of_mem _ (inU_3 w h)) tyX3 tyX3_ok nmX3 hown hK hP hD hS 0 rfl rfl 1 (by decide) (hts _ (List.mem_cons_of_mem _ U_157)) (fun _ h9 => h9) rfl hin rfl (by decide +kernel) rfl rfl (Nat.le_of_ble_eq_true rfl) dX3_init_17 (fun H locs hP hD hS => ?_)
  have hP : va_P (dC, dI) vwCl [(h_this, .inr (3, [.ref h_reader, .ref q1, .int 0])), (q1, .inr (2, [.ref r2, .ref r3, .ref r4, .ref r5, .ref r6, .ref r7, .ref r8, .ref r9, .int 6, .int 0, .int 0])), aJ cJ r2 7 (fun _ => 0), aI cI r3 7 (fun _ => 0), aI cI r4 7 (fun _ => 0), aI cI r5 7 (fun _ => 0), aI cI r6 7 (fun _ => 0), aI cI r7 7 (fun _ => 0), aJ cJ r8 6 (fun _ => 0), aI cI r9 6 (fun _ => 0)] H := hP
  have hD : va_D A [(h_this, .inr (3, [.ref h_reader, .ref q1, .int 0])), (q1, .inr (2, [.ref r2, .ref r3, .ref r4, .ref r5, .ref r6, .ref r7, .ref r8, .ref r9, .int 6, .int 0, .int 0])), aJ cJ r2 7 (fun _ => 0), aI cI r3 7 (fun _ => 0), aI cI r4 7 (fun _ => 0), aI cI r5 7 (fun _ => 0), aI cI r6 7 (fun _ => 0), aI cI r7 7 (fun _ => 0), aJ cJ r8 6 (fun _ => 0), aI cI r9 6 (fun _ => 0)] := hD
  refine z_pc (pc' := 20) rfl ?_
  exact W.vret hx hb hr (fun t ht hW => ⟨⟨(), rfl, trivial, ⟨q1, ⟨r2, ⟨r3, ⟨r4, ⟨r5, ⟨r6, ⟨r7, ⟨r8, ⟨r9, ⟨by rw [ht]; exact hP, va_K.moved hW.alike hK, hD⟩⟩⟩⟩⟩⟩⟩⟩⟩⟩⟩, hS.F ht⟩) hS.2.2 dX3_init_20 hlocks
set_option maxHeartbeats 8000000 in
set_option maxRecDepth 100000 in
theorem kX8_init (l : Launch) (dC : Nat → ClassId) (dI : Nat → Nat → Nat) (cI cJ cB cZ cF cG : ClassId) (h_this : Nat) (h_reader : Nat) (h_hall : Nat) (sz : Nat) : Met l yX8_init uX8_init ({ frames := 2, cells := 5, slots := 146, locals := 32 }) (va_Pc [.ref h_this, .ref h_reader, .ref h_hall] (fun U => U.heap.size = sz ∧ va_P (dC, dI) vwCl [(h_this, .inr (8, [.null, .null, .null]))] U.heap ∧ va_K (dC, dI) vwCl (TYS cI cJ cB cZ cF cG) U ∧ va_D (fun _ => True) [(h_this, .inr (8, [.null, .null, .null]))])) (va_Qv (fun (_ : Unit) => True) (fun _ t => ∃ q1 r2 r3 r4 r5 : Nat, va_P (dC, dI) vwCl [(h_this, .inr (8, [.ref h_reader, .ref h_hall, .ref q1])), (q1, .inr (7, [.ref r2, .ref r3, .ref r4, .ref r5, .int 0, .int 0])), aI cI r2 40 (fun _ => 0), aI cI r3 40 (fun _ => 0), aI cI r4 40 (fun _ => 0), aI cI r5 20 (fun _ => 0)] t.heap ∧ va_K (dC, dI) vwCl (TYS cI cJ cB cZ cF cG) t ∧ va_D (va_A [(h_this, .inr (8, [.null, .null, .null]))] sz) [(h_this, .inr (8, [.ref h_reader, .ref h_hall, .ref q1])), (q1, .inr (7, [.ref r2, .ref r3, .ref r4, .ref r5, .int 0, .int 0])), aI cI r2 40 (fun _ => 0), aI cI r3 40 (fun _ => 0), aI cI r4 40 (fun _ => 0), aI cI r5 20 (fun _ => 0)]) (va_A [(h_this, .inr (8, [.null, .null, .null]))] sz)) 5 146 (va_A [(h_this, .inr (8, [.null, .null, .null]))] sz) := by
  refine Met.ofW (cc := cX8_init) (maxL := 3) (ret := none) (by decide) rfl ?_
  intro p e s m args below meth c s₁ B hml hv
  obtain ⟨rfl, hsz, hP, hK, hD0⟩ := hv
  have hx := B.exec
  have hb := B.bytes
  have hr := B.returns
  have hts := atoms_spec (ws := uX8_init) B.pre
  have hown : s.vm.findClass RX8 = some m.cls := findClass_of_methodNamed B.named
  have hlocks := B.notSynchronized
  have hin : meth.name = "<init>" := (name_of_methodNamed B.named B.method).1
  subst hsz
  have hD := hD0.self (sz := s.heap.size)
  generalize hAe : va_A [(h_this, .inr (8, [.null, .null, .null]))] s.heap.size = A at hD ⊢
  have hA : ∀ q : Nat, s.heap.size ≤ q → A q := fun q h => by rw [← hAe]; exact Or.inr h
  have hS : va_S A s.heap s.heap [] := va_S.rf
  have hl := lv_entry ([.ref h_this, .ref h_reader, .ref h_hall]) (n := 3) (Nat.le_of_ble_eq_true rfl)
  rw [lg_entry_eq]
  generalize (lg_sl ([.ref h_this, .ref h_reader, .ref h_hall]) ++ List.replicate (3 - (lg_sl ([.ref h_this, .ref h_reader, .ref h_hall])).length) Slot.unset).toArray = ls at hl ⊢
  have hl : lv_has ls 3 [(0, .ref h_this), (1, .ref h_reader), (2, .ref h_hall)] := hl
  refine lv_aload_n hx hb dX8_init_0 rfl (lv_at hl 0 rfl) ?_
  refine W.objInit hx hb hown (hts _ (List.mem_cons_of_mem _ U_201)) (hts _ (List.mem_cons_of_mem _ U_11)) (hts _ (List.mem_cons_of_mem _ U_12)) rfl (by rw [hml]; exact hl.1) rfl dX8_init_1 (Nat.le_of_ble_eq_true rfl) (Nat.le_of_ble_eq_true rfl) ?_
  refine W.eq (g2 := F0 m 4 ls []) rfl ?_
  refine lv_aload_n hx hb dX8_init_4 rfl (lv_at hl 0 rfl) ?_
  refine lv_aload_n hx hb dX8_init_5 rfl (lv_at hl 1 rfl) ?_
  refine va_putF (D := (dC, dI)) (ci := 8) (v := .ref h_reader) (ty := (.object "LastSeat$Reader")) (C := RX8) (T := TX8) (N := 3) hx hb hts (fun w h => List.mem_cons_of_mem _ (inU_8 w h)) tyX8 tyX8_ok nmX8 hown hK hP hD hS 0 rfl rfl 0 (by decide) (hts _ (List.mem_cons_of_mem _ U_202)) (fun _ h9 => h9) rfl hin rfl (by decide +kernel) rfl rfl (Nat.le_of_ble_eq_true rfl) dX8_init_6 (fun H locs hP hD hS => ?_)
  have hP : va_P (dC, dI) vwCl [(h_this, .inr (8, [.ref h_reader, .null, .null]))] H := hP
  have hD : va_D A [(h_this, .inr (8, [.ref h_reader, .null, .null]))] := hD
  refine z_pc (pc' := 9) rfl ?_
  refine lv_aload_n hx hb dX8_init_9 rfl (lv_at hl 0 rfl) ?_
  refine lv_aload_n hx hb dX8_init_10 rfl (lv_at hl 2 rfl) ?_
  refine va_putF (D := (dC, dI)) (ci := 8) (v := .ref h_hall) (ty := (.object "LastSeat$Hall")) (C := RX8) (T := TX8) (N := 3) hx hb hts (fun w h => List.mem_cons_of_mem _ (inU_8 w h)) tyX8 tyX8_ok nmX8 hown hK hP hD hS 0 rfl rfl 1 (by decide) (hts _ (List.mem_cons_of_mem _ U_203)) (fun _ h9 => h9) rfl hin rfl (by decide +kernel) rfl rfl (Nat.le_of_ble_eq_true rfl) dX8_init_11 (fun H locs hP hD hS => ?_)
  have hP : va_P (dC, dI) vwCl [(h_this, .inr (8, [.ref h_reader, .ref h_hall, .null]))] H := hP
  have hD : va_D A [(h_this, .inr (8, [.ref h_reader, .ref h_hall, .null]))] := hD
  refine lv_aload_n hx hb dX8_init_14 rfl (lv_at hl 0 rfl) ?_
  refine va_new (ci := 7) (fs := [.null, .null, .null, .null, .int 0, .int 0]) (C := RX7) (T := TX7) (N := 6) hx hb hts (fun w h => List.mem_cons_of_mem _ (inU_7 w h)) tyX7 tyX7_ok hown (hts _ (List.mem_cons_of_mem _ U_204)) (hts _ (List.mem_cons_of_mem _ U_46)) (hts _ (List.mem_cons_of_mem _ U_47)) hK hP hD hS hA rfl dfX7 (Nat.le_of_ble_eq_true rfl) (Nat.le_of_ble_eq_true rfl) dX8_init_15 (fun q1 H hP hD hS => ?_)
  have hP : va_P (dC, dI) vwCl [(h_this, .inr (8, [.ref h_reader, .ref h_hall, .null])), (q1, .inr (7, [.null, .null, .null, .null, .int 0, .int 0]))] H := hP
  have hD : va_D A [(h_this, .inr (8, [.ref h_reader, .ref h_hall, .null])), (q1, .inr (7, [.null, .null, .null, .null, .int 0, .int 0]))] := hD
  refine W.widen (k := 1) (n := 6) (Nat.le_of_ble_eq_true rfl) (Nat.le_of_ble_eq_true rfl) ?_
  refine z_pc (pc' := 18) rfl ?_
  refine lv_dup hx hb dX8_init_18 rfl ?_
  have hPc := hP.sub (ws' := [(q1, .inr (7, [.null, .null, .null, .null, .int 0, .int 0]))]) [1] rfl
  have hDc := hD.sub (ws' := [(q1, .inr (7, [.null, .null, .null, .null, .int 0, .int 0]))]) [1] (by decide) rfl
  have hFc := va_free (wc := [(q1, .inr (7, [.null, .null, .null, .null, .int 0, .int 0]))]) hD hS hA [1] rfl
  refine va_callv (va_runI (As := []) (rest := [.ref q1, .ref h_this]) ⟨hx, hb, hml, hown, hts⟩ (kX7_init l dC dI cI cJ cB cZ cF cG q1 H.size) (cwI 0 hts (goodW (List.forall_mem_cons.mpr ⟨U_192, fun _ h => h⟩)) rfl rfl rfl (hts _ (List.mem_cons_of_mem _ U_47)) (hts _ (List.mem_cons_of_mem _ U_206)) (hts _ (List.mem_cons_of_mem _ U_191)) rfl (by decide +kernel) ⟨Nat.le_of_ble_eq_true rfl, Nat.le_of_ble_eq_true rfl⟩) ⟨fun a U g mk q => by obtain ⟨q0, q1, qP, qK, qD⟩ := q; exact ⟨q0, q1, qP, va_K.moved (u := U) (U := U.calling g mk a) (Vm.Alike.refl U.vm) qK, qD⟩, fun U hU hW => ⟨rfl, by rw [hU], by rw [hU]; exact hPc, va_K.moved hW.alike hK, hDc.weaken (fun _ _ _ _ => trivial)⟩⟩ rfl rfl hl.1 rfl (lv_room (Nat.le_of_ble_eq_true rfl)) dX8_init_19 ⟨Nat.le_of_ble_eq_true rfl, Nat.le_of_ble_eq_true rfl⟩) hS (fun q _ h => hFc q h) hFc (fun u t H1 locs ht hvm hw hB hz1 hk1 hS => ?_)
  obtain ⟨r2, r3, r4, r5,  hP1, hK1, hD1⟩ := hB
  rw [ht] at hP1
  obtain ⟨hP, hD⟩ := va_join (wr := [(h_this, .inr (8, [.ref h_reader, .ref h_hall, .null]))]) (w1 := [(q1, .inr (7, [.ref r2, .ref r3, .ref r4, .ref r5, .int 0, .int 0])), aI cI r2 40 (fun _ => 0), aI cI r3 40 (fun _ => 0), aI cI r4 40 (fun _ => 0), aI cI r5 20 (fun _ => 0)]) hP hD [1] [0] rfl rfl (by decide) (by decide) hk1 hFc hP1 hD1
  generalize H1 = H at hP hS ⊢
  have hP : va_P (dC, dI) vwCl [(h_this, .inr (8, [.ref h_reader, .ref h_hall, .null])), (q1, .inr (7, [.ref r2, .ref r3, .ref r4, .ref r5, .int 0, .int 0])), aI cI r2 40 (fun _ => 0), aI cI r3 40 (fun _ => 0), aI cI r4 40 (fun _ => 0), aI cI r5 20 (fun _ => 0)] H := hP
  have hD : va_D A [(h_this, .inr (8, [.ref h_reader, .ref h_hall, .null])), (q1, .inr (7, [.ref r2, .ref r3, .ref r4, .ref r5, .int 0, .int 0])), aI cI r2 40 (fun _ => 0), aI cI r3 40 (fun _ => 0), aI cI r4 40 (fun _ => 0), aI cI r5 20 (fun _ => 0)] := hD
  refine W.widen (k := 5) (n := 146) (Nat.le_of_ble_eq_true rfl) (Nat.le_of_ble_eq_true rfl) ?_
  refine va_putF (D := (dC, dI)) (ci := 8) (v := .ref q1) (ty := (.object "LastSeat$Saying")) (C := RX8) (T := TX8) (N := 3) hx hb hts (fun w h => List.mem_cons_of_mem _ (inU_8 w h)) tyX8 tyX8_ok nmX8 hown hK hP hD hS 0 rfl rfl 2 (by decide) (hts _ (List.mem_cons_of_mem _ U_205)) (fun _ h9 => h9) rfl hin rfl (by decide +kernel) rfl rfl (Nat.le_of_ble_eq_true rfl) dX8_init_22 (fun H locs hP hD hS => ?_)
  have hP : va_P (dC, dI) vwCl [(h_this, .inr (8, [.ref h_reader, .ref h_hall, .ref q1])), (q1, .inr (7, [.ref r2, .ref r3, .ref r4, .ref r5, .int 0, .int 0])), aI cI r2 40 (fun _ => 0), aI cI r3 40 (fun _ => 0), aI cI r4 40 (fun _ => 0), aI cI r5 20 (fun _ => 0)] H := hP
  have hD : va_D A [(h_this, .inr (8, [.ref h_reader, .ref h_hall, .ref q1])), (q1, .inr (7, [.ref r2, .ref r3, .ref r4, .ref r5, .int 0, .int 0])), aI cI r2 40 (fun _ => 0), aI cI r3 40 (fun _ => 0), aI cI r4 40 (fun _ => 0), aI cI r5 20 (fun _ => 0)] := hD
  exact W.vret hx hb hr (fun t ht hW => ⟨⟨(), rfl, trivial, ⟨q1, ⟨r2, ⟨r3, ⟨r4, ⟨r5, ⟨by rw [ht]; exact hP, va_K.moved hW.alike hK, hD⟩⟩⟩⟩⟩⟩⟩, hS.F ht⟩) hS.2.2 dX8_init_25 hlocks
set_option maxHeartbeats 8000000 in
set_option maxRecDepth 100000 in
theorem kX4_init (l : Launch) (dC : Nat → ClassId) (dI : Nat → Nat → Nat) (cI cJ cB cZ cF cG : ClassId) (h_this : Nat) (sz : Nat) : Met l yX4_init uX4_init ({ frames := 2, cells := 21, slots := 269, locals := 33 }) (va_Pc [.ref h_this] (fun U => U.heap.size = sz ∧ va_P (dC, dI) vwCl [(h_this, .inr (4, [.null, .null, .null, .int 0]))] U.heap ∧ va_K (dC, dI) vwCl (TYS cI cJ cB cZ cF cG) U ∧ va_D (fun _ => True) [(h_this, .inr (4, [.null, .null, .null, .int 0]))])) (va_Qv (fun (_ : Unit) => True) (fun _ t => ∃ q1 r2 r3 r4 r5 r6 r7 r8 r9 q10 r11 r12 r13 r14 r15 r16 q17 r18 r19 r20 r21 : Nat, va_P (dC, dI) vwCl [(h_this, .inr (4, [.ref q1, .ref q10, .ref q17, .int 0])), (q1, .inr (2, [.ref r2, .ref r3, .ref r4, .ref r5, .ref r6, .ref r7, .ref r8, .ref r9, .int 6, .int 0, .int 0])), aJ cJ r2 7 (fun _ => 0), aI cI r3 7 (fun _ => 0), aI cI r4 7 (fun _ => 0), aI cI r5 7 (fun _ => 0), aI cI r6 7 (fun _ => 0), aI cI r7 7 (fun _ => 0), aJ cJ r8 6 (fun _ => 0), aI cI r9 6 (fun _ => 0), (q10, .inr (1, [.ref q1, .ref r11, .ref r12, .ref r13, .ref r14, .ref r15, .ref r16, .int 0, .int 0, .int 0, .int 0, .int 0, .int 0, .int (-1), .int 0, .int 0])), aI cI r11 7 (fun _ => 0), aI cI r12 7 (fun _ => 0), aI cI r13 7 (fun _ => 0), aI cI r14 7 (fun _ => 0), aI cI r15 7 (fun _ => 0), aI cI r16 7 (fun _ => 0), (q17, .inr (7, [.ref r18, .ref r19, .ref r20, .ref r21, .int 0, .int 0])), aI cI r18 40 (fun _ => 0), aI cI r19 40 (fun _ => 0), aI cI r20 40 (fun _ => 0), aI cI r21 20 (fun _ => 0)] t.heap ∧ va_K (dC, dI) vwCl (TYS cI cJ cB cZ cF cG) t ∧ va_D (va_A [(h_this, .inr (4, [.null, .null, .null, .int 0]))] sz) [(h_this, .inr (4, [.ref q1, .ref q10, .ref q17, .int 0])), (q1, .inr (2, [.ref r2, .ref r3, .ref r4, .ref r5, .ref r6, .ref r7, .ref r8, .ref r9, .int 6, .int 0, .int 0])), aJ cJ r2 7 (fun _ => 0), aI cI r3 7 (fun _ => 0), aI cI r4 7 (fun _ => 0), aI cI r5 7 (fun _ => 0), aI cI r6 7 (fun _ => 0), aI cI r7 7 (fun _ => 0), aJ cJ r8 6 (fun _ => 0), aI cI r9 6 (fun _ => 0), (q10, .inr (1, [.ref q1, .ref r11, .ref r12, .ref r13, .ref r14, .ref r15, .ref r16, .int 0, .int 0, .int 0, .int 0, .int 0, .int 0, .int (-1), .int 0, .int 0])), aI cI r11 7 (fun _ => 0), aI cI r12 7 (fun _ => 0), aI cI r13 7 (fun _ => 0), aI cI r14 7 (fun _ => 0), aI cI r15 7 (fun _ => 0), aI cI r16 7 (fun _ => 0), (q17, .inr (7, [.ref r18, .ref r19, .ref r20, .ref r21, .int 0, .int 0])), aI cI r18 40 (fun _ => 0), aI cI r19 40 (fun _ => 0), aI cI r20 40 (fun _ => 0), aI cI r21 20 (fun _ => 0)]) (va_A [(h_this, .inr (4, [.null, .null, .null, .int 0]))] sz)) 21 269 (va_A [(h_this, .inr (4, [.null, .null, .null, .int 0]))] sz) := by
  refine Met.ofW (cc := cX4_init) (maxL := 1) (ret := none) (by decide) rfl ?_
  intro p e s m args below meth c s₁ B hml hv
  obtain ⟨rfl, hsz, hP, hK, hD0⟩ := hv
  have hx := B.exec
  have hb := B.bytes
  have hr := B.returns
  have hts := atoms_spec (ws := uX4_init) B.pre
  have hown : s.vm.findClass RX4 = some m.cls := findClass_of_methodNamed B.named
  have hlocks := B.notSynchronized
  have hin : meth.name = "<init>" := (name_of_methodNamed B.named B.method).1
  subst hsz
  have hD := hD0.self (sz := s.heap.size)
  generalize hAe : va_A [(h_this, .inr (4, [.null, .null, .null, .int 0]))] s.heap.size = A at hD ⊢
  have hA : ∀ q : Nat, s.heap.size ≤ q → A q := fun q h => by rw [← hAe]; exact Or.inr h
  have hS : va_S A s.heap s.heap [] := va_S.rf
  have hl := lv_entry ([.ref h_this]) (n := 1) (Nat.le_of_ble_eq_true rfl)
  rw [lg_entry_eq]
  generalize (lg_sl ([.ref h_this]) ++ List.replicate (1 - (lg_sl ([.ref h_this])).length) Slot.unset).toArray = ls at hl ⊢
  have hl : lv_has ls 1 [(0, .ref h_this)] := hl
  refine lv_aload_n hx hb dX4_init_0 rfl (lv_at hl 0 rfl) ?_
  refine W.objInit hx hb hown (hts _ (List.mem_cons_of_mem _ U_210)) (hts _ (List.mem_cons_of_mem _ U_11)) (hts _ (List.mem_cons_of_mem _ U_12)) rfl (by rw [hml]; exact hl.1) rfl dX4_init_1 (Nat.le_of_ble_eq_true rfl) (Nat.le_of_ble_eq_true rfl) ?_
  refine W.eq (g2 := F0 m 4 ls []) rfl ?_
  refine lv_aload_n hx hb dX4_init_4 rfl (lv_at hl 0 rfl) ?_
  refine va_new (ci := 2) (fs := [.null, .null, .null, .null, .null, .null, .null, .null, .int 0, .int 0, .int 0]) (C := RX2) (T := TX2) (N := 11) hx hb hts (fun w h => List.mem_cons_of_mem _ (inU_2 w h)) tyX2 tyX2_ok hown (hts _ (List.mem_cons_of_mem _ U_211)) (hts _ (List.mem_cons_of_mem _ U_22)) (hts _ (List.mem_cons_of_mem _ U_23)) hK hP hD hS hA rfl dfX2 (Nat.le_of_ble_eq_true rfl) (Nat.le_of_ble_eq_true rfl) dX4_init_5 (fun q1 H hP hD hS => ?_)
  have hP : va_P (dC, dI) vwCl [(h_this, .inr (4, [.null, .null, .null, .int 0])), (q1, .inr (2, [.null, .null, .null, .null, .null, .null, .null, .null, .int 0, .int 0, .int 0]))] H := hP
  have hD : va_D A [(h_this, .inr (4, [.null, .null, .null, .int 0])), (q1, .inr (2, [.null, .null, .null, .null, .null, .null, .null, .null, .int 0, .int 0, .int 0]))] := hD
  refine W.widen (k := 1) (n := 11) (Nat.le_of_ble_eq_true rfl) (Nat.le_of_ble_eq_true rfl) ?_
  refine lv_dup hx hb dX4_init_8 rfl ?_
  refine z_pc (pc' := 9) rfl ?_
  have hPc := hP.sub (ws' := [(q1, .inr (2, [.null, .null, .null, .null, .null, .null, .null, .null, .int 0, .int 0, .int 0]))]) [1] rfl
  have hDc := hD.sub (ws' := [(q1, .inr (2, [.null, .null, .null, .null, .null, .null, .null, .null, .int 0, .int 0, .int 0]))]) [1] (by decide) rfl
  have hFc := va_free (wc := [(q1, .inr (2, [.null, .null, .null, .null, .null, .null, .null, .null, .int 0, .int 0, .int 0]))]) hD hS hA [1] rfl
  refine va_callv (va_runI (As := []) (rest := [.ref q1, .ref h_this]) ⟨hx, hb, hml, hown, hts⟩ (kX2_init l dC dI cI cJ cB cZ cF cG q1 H.size) (cwI 0 hts (goodW (List.forall_mem_cons.mpr ⟨U_127, fun _ h => h⟩)) rfl rfl rfl (hts _ (List.mem_cons_of_mem _ U_23)) (hts _ (List.mem_cons_of_mem _ U_217)) (hts _ (List.mem_cons_of_mem _ U_126)) rfl (by decide +kernel) ⟨Nat.le_of_ble_eq_true rfl, Nat.le_of_ble_eq_true rfl⟩) ⟨fun a U g mk q => by obtain ⟨q0, q1, qP, qK, qD⟩ := q; exact ⟨q0, q1, qP, va_K.moved (u := U) (U := U.calling g mk a) (Vm.Alike.refl U.vm) qK, qD⟩, fun U hU hW => ⟨rfl, by rw [hU], by rw [hU]; exact hPc, va_K.moved hW.alike hK, hDc.weaken (fun _ _ _ _ => trivial)⟩⟩ rfl rfl hl.1 rfl (lv_room (Nat.le_of_ble_eq_true rfl)) dX4_init_9 ⟨Nat.le_of_ble_eq_true rfl, Nat.le_of_ble_eq_true rfl⟩) hS (fun q _ h => hFc q h) hFc (fun u t H1 locs ht hvm hw hB hz1 hk1 hS => ?_)
  obtain ⟨r2, r3, r4, r5, r6, r7, r8, r9,  hP1, hK1, hD1⟩ := hB
  rw [ht] at hP1
  obtain ⟨hP, hD⟩ := va_join (wr := [(h_this, .inr (4, [.null, .null, .null, .int 0]))]) (w1 := [(q1, .inr (2, [.ref r2, .ref r3, .ref r4, .ref r5, .ref r6, .ref r7, .ref r8, .ref r9, .int 6, .int 0, .int 0])), aJ cJ r2 7 (fun _ => 0), aI cI r3 7 (fun _ => 0), aI cI r4 7 (fun _ => 0), aI cI r5 7 (fun _ => 0), aI cI r6 7 (fun _ => 0), aI cI r7 7 (fun _ => 0), aJ cJ r8 6 (fun _ => 0), aI cI r9 6 (fun _ => 0)]) hP hD [1] [0] rfl rfl (by decide) (by decide) hk1 hFc hP1 hD1
  generalize H1 = H at hP hS ⊢
  have hP : va_P (dC, dI) vwCl [(h_this, .inr (4, [.null, .null, .null, .int 0])), (q1, .inr (2, [.ref r2, .ref r3, .ref r4, .ref r5, .ref r6, .ref r7, .ref r8, .ref r9, .int 6, .int 0, .int 0])), aJ cJ r2 7 (fun _ => 0), aI cI r3 7 (fun _ => 0), aI cI r4 7 (fun _ => 0), aI cI r5 7 (fun _ => 0), aI cI r6 7 (fun _ => 0), aI cI r7 7 (fun _ => 0), aJ cJ r8 6 (fun _ => 0), aI cI r9 6 (fun _ => 0)] H := hP
  have hD : va_D A [(h_this, .inr (4, [.null, .null, .null, .int 0])), (q1, .inr (2, [.ref r2, .ref r3, .ref r4, .ref r5, .ref r6, .ref r7, .ref r8, .ref r9, .int 6, .int 0, .int 0])), aJ cJ r2 7 (fun _ => 0), aI cI r3 7 (fun _ => 0), aI cI r4 7 (fun _ => 0), aI cI r5 7 (fun _ => 0), aI cI r6 7 (fun _ => 0), aI cI r7 7 (fun _ => 0), aJ cJ r8 6 (fun _ => 0), aI cI r9 6 (fun _ => 0)] := hD
  refine W.widen (k := 9) (n := 65) (Nat.le_of_ble_eq_true rfl) (Nat.le_of_ble_eq_true rfl) ?_
  refine va_putF (D := (dC, dI)) (ci := 4) (v := .ref q1) (ty := (.object "LastSeat$Hall")) (C := RX4) (T := TX4) (N := 4) hx hb hts (fun w h => List.mem_cons_of_mem _ (inU_4 w h)) tyX4 tyX4_ok nmX4 hown hK hP hD hS 0 rfl rfl 0 (by decide) (hts _ (List.mem_cons_of_mem _ U_212)) (fun _ h9 => h9) rfl hin rfl (by decide +kernel) rfl rfl (Nat.le_of_ble_eq_true rfl) dX4_init_12 (fun H locs hP hD hS => ?_)
  have hP : va_P (dC, dI) vwCl [(h_this, .inr (4, [.ref q1, .null, .null, .int 0])), (q1, .inr (2, [.ref r2, .ref r3, .ref r4, .ref r5, .ref r6, .ref r7, .ref r8, .ref r9, .int 6, .int 0, .int 0])), aJ cJ r2 7 (fun _ => 0), aI cI r3 7 (fun _ => 0), aI cI r4 7 (fun _ => 0), aI cI r5 7 (fun _ => 0), aI cI r6 7 (fun _ => 0), aI cI r7 7 (fun _ => 0), aJ cJ r8 6 (fun _ => 0), aI cI r9 6 (fun _ => 0)] H := hP
  have hD : va_D A [(h_this, .inr (4, [.ref q1, .null, .null, .int 0])), (q1, .inr (2, [.ref r2, .ref r3, .ref r4, .ref r5, .ref r6, .ref r7, .ref r8, .ref r9, .int 6, .int 0, .int 0])), aJ cJ r2 7 (fun _ => 0), aI cI r3 7 (fun _ => 0), aI cI r4 7 (fun _ => 0), aI cI r5 7 (fun _ => 0), aI cI r6 7 (fun _ => 0), aI cI r7 7 (fun _ => 0), aJ cJ r8 6 (fun _ => 0), aI cI r9 6 (fun _ => 0)] := hD
  refine lv_aload_n hx hb dX4_init_15 rfl (lv_at hl 0 rfl) ?_
  refine va_new (ci := 1) (fs := [.null, .null, .null, .null, .null, .null, .null, .int 0, .int 0, .int 0, .int 0, .int 0, .int 0, .int 0, .int 0, .int 0]) (C := RX1) (T := TX1) (N := 16) hx hb hts (fun w h => List.mem_cons_of_mem _ (inU_1 w h)) tyX1 tyX1_ok hown (hts _ (List.mem_cons_of_mem _ U_213)) (hts _ (List.mem_cons_of_mem _ U_26)) (hts _ (List.mem_cons_of_mem _ U_27)) hK hP hD hS hA rfl dfX1 (Nat.le_of_ble_eq_true rfl) (Nat.le_of_ble_eq_true rfl) dX4_init_16 (fun q10 H hP hD hS => ?_)
  have hP : va_P (dC, dI) vwCl [(h_this, .inr (4, [.ref q1, .null, .null, .int 0])), (q1, .inr (2, [.ref r2, .ref r3, .ref r4, .ref r5, .ref r6, .ref r7, .ref r8, .ref r9, .int 6, .int 0, .int 0])), aJ cJ r2 7 (fun _ => 0), aI cI r3 7 (fun _ => 0), aI cI r4 7 (fun _ => 0), aI cI r5 7 (fun _ => 0), aI cI r6 7 (fun _ => 0), aI cI r7 7 (fun _ => 0), aJ cJ r8 6 (fun _ => 0), aI cI r9 6 (fun _ => 0), (q10, .inr (1, [.null, .null, .null, .null, .null, .null, .null, .int 0, .int 0, .int 0, .int 0, .int 0, .int 0, .int 0, .int 0, .int 0]))] H := hP
  have hD : va_D A [(h_this, .inr (4, [.ref q1, .null, .null, .int 0])), (q1, .inr (2, [.ref r2, .ref r3, .ref r4, .ref r5, .ref r6, .ref r7, .ref r8, .ref r9, .int 6, .int 0, .int 0])), aJ cJ r2 7 (fun _ => 0), aI cI r3 7 (fun _ => 0), aI cI r4 7 (fun _ => 0), aI cI r5 7 (fun _ => 0), aI cI r6 7 (fun _ => 0), aI cI r7 7 (fun _ => 0), aJ cJ r8 6 (fun _ => 0), aI cI r9 6 (fun _ => 0), (q10, .inr (1, [.null, .null, .null, .null, .null, .null, .null, .int 0, .int 0, .int 0, .int 0, .int 0, .int 0, .int 0, .int 0, .int 0]))] := hD
  refine W.widen (k := 10) (n := 81) (Nat.le_of_ble_eq_true rfl) (Nat.le_of_ble_eq_true rfl) ?_
  refine lv_dup hx hb dX4_init_19 rfl ?_
  refine z_pc (pc' := 20) rfl ?_
  refine lv_aload_n hx hb dX4_init_20 rfl (lv_at hl 0 rfl) ?_
  refine va_get (D := (dC, dI)) (ci := 4) (v := .ref q1) (C := RX4) (T := TX4) (N := 4) hx hb hts (fun w h => List.mem_cons_of_mem _ (inU_4 w h)) hown hK hP 0 rfl rfl 0 (by decide) (hts _ (List.mem_cons_of_mem _ U_212)) (fun _ h9 => h9) rfl dX4_init_21 ?_
  have hPc := hP.sub (ws' := [(q10, .inr (1, [.null, .null, .null, .null, .null, .null, .null, .int 0, .int 0, .int 0, .int 0, .int 0, .int 0, .int 0, .int 0, .int 0]))]) [10] rfl
  have hDc := hD.sub (ws' := [(q10, .inr (1, [.null, .null, .null, .null, .null, .null, .null, .int 0, .int 0, .int 0, .int 0, .int 0, .int 0, .int 0, .int 0, .int 0]))]) [10] (by decide) rfl
  have hFc := va_free (wc := [(q10, .inr (1, [.null, .null, .null, .null, .null, .null, .null, .int 0, .int 0, .int 0, .int 0, .int 0, .int 0, .int 0, .int 0, .int 0]))]) hD hS hA [10] rfl
  refine va_callv (va_runI (As := [.ref q1]) (rest := [.ref q10, .ref h_this]) ⟨hx, hb, hml, hown, hts⟩ (kX1_init l dC dI cI cJ cB cZ cF cG q10 q1 H.size) (cwI 1 hts (goodW (List.forall_mem_cons.mpr ⟨U_141, fun _ h => h⟩)) rfl rfl rfl (hts _ (List.mem_cons_of_mem _ U_27)) (hts _ (List.mem_cons_of_mem _ U_218)) (hts _ (List.mem_cons_of_mem _ U_140)) rfl (by decide +kernel) ⟨Nat.le_of_ble_eq_true rfl, Nat.le_of_ble_eq_true rfl⟩) ⟨fun a U g mk q => by obtain ⟨q0, q1, qP, qK, qD⟩ := q; exact ⟨q0, q1, qP, va_K.moved (u := U) (U := U.calling g mk a) (Vm.Alike.refl U.vm) qK, qD⟩, fun U hU hW => ⟨rfl, by rw [hU], by rw [hU]; exact hPc, va_K.moved hW.alike hK, hDc.weaken (fun _ _ _ _ => trivial)⟩⟩ rfl rfl hl.1 rfl (lv_room (Nat.le_of_ble_eq_true rfl)) dX4_init_24 ⟨Nat.le_of_ble_eq_true rfl, Nat.le_of_ble_eq_true rfl⟩) hS (fun q _ h => hFc q h) hFc (fun u t H1 locs ht hvm hw hB hz1 hk1 hS => ?_)
  obtain ⟨r11, r12, r13, r14, r15, r16,  hP1, hK1, hD1⟩ := hB
  rw [ht] at hP1
  obtain ⟨hP, hD⟩ := va_join (wr := [(h_this, .inr (4, [.ref q1, .null, .null, .int 0])), (q1, .inr (2, [.ref r2, .ref r3, .ref r4, .ref r5, .ref r6, .ref r7, .ref r8, .ref r9, .int 6, .int 0, .int 0])), aJ cJ r2 7 (fun _ => 0), aI cI r3 7 (fun _ => 0), aI cI r4 7 (fun _ => 0), aI cI r5 7 (fun _ => 0), aI cI r6 7 (fun _ => 0), aI cI r7 7 (fun _ => 0), aJ cJ r8 6 (fun _ => 0), aI cI r9 6 (fun _ => 0)]) (w1 := [(q10, .inr (1, [.ref q1, .ref r11, .ref r12, .ref r13, .ref r14, .ref r15, .ref r16, .int 0, .int 0, .int 0, .int 0, .int 0, .int 0, .int (-1), .int 0, .int 0])), aI cI r11 7 (fun _ => 0), aI cI r12 7 (fun _ => 0), aI cI r13 7 (fun _ => 0), aI cI r14 7 (fun _ => 0), aI cI r15 7 (fun _ => 0), aI cI r16 7 (fun _ => 0)]) hP hD [10] [0, 1, 2, 3, 4, 5, 6, 7, 8, 9] rfl rfl (by decide) (by decide) hk1 hFc hP1 hD1
  generalize H1 = H at hP hS ⊢
  have hP : va_P (dC, dI) vwCl [(h_this, .inr (4, [.ref q1, .null, .null, .int 0])), (q1, .inr (2, [.ref r2, .ref r3, .ref r4, .ref r5, .ref r6, .ref r7, .ref r8, .ref r9, .int 6, .int 0, .int 0])), aJ cJ r2 7 (fun _ => 0), aI cI r3 7 (fun _ => 0), aI cI r4 7 (fun _ => 0), aI cI r5 7 (fun _ => 0), aI cI r6 7 (fun _ => 0), aI cI r7 7 (fun _ => 0), aJ cJ r8 6 (fun _ => 0), aI cI r9 6 (fun _ => 0), (q10, .inr (1, [.ref q1, .ref r11, .ref r12, .ref r13, .ref r14, .ref r15, .ref r16, .int 0, .int 0, .int 0, .int 0, .int 0, .int 0, .int (-1), .int 0, .int 0])), aI cI r11 7 (fun _ => 0), aI cI r12 7 (fun _ => 0), aI cI r13 7 (fun _ => 0), aI cI r14 7 (fun _ => 0), aI cI r15 7 (fun _ => 0), aI cI r16 7 (fun _ => 0)] H := hP
  have hD : va_D A [(h_this, .inr (4, [.ref q1, .null, .null, .int 0])), (q1, .inr (2, [.ref r2, .ref r3, .ref r4, .ref r5, .ref r6, .ref r7, .ref r8, .ref r9, .int 6, .int 0, .int 0])), aJ cJ r2 7 (fun _ => 0), aI cI r3 7 (fun _ => 0), aI cI r4 7 (fun _ => 0), aI cI r5 7 (fun _ => 0), aI cI r6 7 (fun _ => 0), aI cI r7 7 (fun _ => 0), aJ cJ r8 6 (fun _ => 0), aI cI r9 6 (fun _ => 0), (q10, .inr (1, [.ref q1, .ref r11, .ref r12, .ref r13, .ref r14, .ref r15, .ref r16, .int 0, .int 0, .int 0, .int 0, .int 0, .int 0, .int (-1), .int 0, .int 0])), aI cI r11 7 (fun _ => 0), aI cI r12 7 (fun _ => 0), aI cI r13 7 (fun _ => 0), aI cI r14 7 (fun _ => 0), aI cI r15 7 (fun _ => 0), aI cI r16 7 (fun _ => 0)] := hD
  refine W.widen (k := 16) (n := 123) (Nat.le_of_ble_eq_true rfl) (Nat.le_of_ble_eq_true rfl) ?_
  refine va_putF (D := (dC, dI)) (ci := 4) (v := .ref q10) (ty := (.object "LastSeat$Feast")) (C := RX4) (T := TX4) (N := 4) hx hb hts (fun w h => List.mem_cons_of_mem _ (inU_4 w h)) tyX4 tyX4_ok nmX4 hown hK hP hD hS 0 rfl rfl 1 (by decide) (hts _ (List.mem_cons_of_mem _ U_214)) (fun _ h9 => h9) rfl hin rfl (by decide +kernel) rfl rfl (Nat.le_of_ble_eq_true rfl) dX4_init_27 (fun H locs hP hD hS => ?_)
  have hP : va_P (dC, dI) vwCl [(h_this, .inr (4, [.ref q1, .ref q10, .null, .int 0])), (q1, .inr (2, [.ref r2, .ref r3, .ref r4, .ref r5, .ref r6, .ref r7, .ref r8, .ref r9, .int 6, .int 0, .int 0])), aJ cJ r2 7 (fun _ => 0), aI cI r3 7 (fun _ => 0), aI cI r4 7 (fun _ => 0), aI cI r5 7 (fun _ => 0), aI cI r6 7 (fun _ => 0), aI cI r7 7 (fun _ => 0), aJ cJ r8 6 (fun _ => 0), aI cI r9 6 (fun _ => 0), (q10, .inr (1, [.ref q1, .ref r11, .ref r12, .ref r13, .ref r14, .ref r15, .ref r16, .int 0, .int 0, .int 0, .int 0, .int 0, .int 0, .int (-1), .int 0, .int 0])), aI cI r11 7 (fun _ => 0), aI cI r12 7 (fun _ => 0), aI cI r13 7 (fun _ => 0), aI cI r14 7 (fun _ => 0), aI cI r15 7 (fun _ => 0), aI cI r16 7 (fun _ => 0)] H := hP
  have hD : va_D A [(h_this, .inr (4, [.ref q1, .ref q10, .null, .int 0])), (q1, .inr (2, [.ref r2, .ref r3, .ref r4, .ref r5, .ref r6, .ref r7, .ref r8, .ref r9, .int 6, .int 0, .int 0])), aJ cJ r2 7 (fun _ => 0), aI cI r3 7 (fun _ => 0), aI cI r4 7 (fun _ => 0), aI cI r5 7 (fun _ => 0), aI cI r6 7 (fun _ => 0), aI cI r7 7 (fun _ => 0), aJ cJ r8 6 (fun _ => 0), aI cI r9 6 (fun _ => 0), (q10, .inr (1, [.ref q1, .ref r11, .ref r12, .ref r13, .ref r14, .ref r15, .ref r16, .int 0, .int 0, .int 0, .int 0, .int 0, .int 0, .int (-1), .int 0, .int 0])), aI cI r11 7 (fun _ => 0), aI cI r12 7 (fun _ => 0), aI cI r13 7 (fun _ => 0), aI cI r14 7 (fun _ => 0), aI cI r15 7 (fun _ => 0), aI cI r16 7 (fun _ => 0)] := hD
  refine lv_aload_n hx hb dX4_init_30 rfl (lv_at hl 0 rfl) ?_
  refine z_pc (pc' := 31) rfl ?_
  refine va_new (ci := 7) (fs := [.null, .null, .null, .null, .int 0, .int 0]) (C := RX7) (T := TX7) (N := 6) hx hb hts (fun w h => List.mem_cons_of_mem _ (inU_7 w h)) tyX7 tyX7_ok hown (hts _ (List.mem_cons_of_mem _ U_215)) (hts _ (List.mem_cons_of_mem _ U_46)) (hts _ (List.mem_cons_of_mem _ U_47)) hK hP hD hS hA rfl dfX7 (Nat.le_of_ble_eq_true rfl) (Nat.le_of_ble_eq_true rfl) dX4_init_31 (fun q17 H hP hD hS => ?_)
  have hP : va_P (dC, dI) vwCl [(h_this, .inr (4, [.ref q1, .ref q10, .null, .int 0])), (q1, .inr (2, [.ref r2, .ref r3, .ref r4, .ref r5, .ref r6, .ref r7, .ref r8, .ref r9, .int 6, .int 0, .int 0])), aJ cJ r2 7 (fun _ => 0), aI cI r3 7 (fun _ => 0), aI cI r4 7 (fun _ => 0), aI cI r5 7 (fun _ => 0), aI cI r6 7 (fun _ => 0), aI cI r7 7 (fun _ => 0), aJ cJ r8 6 (fun _ => 0), aI cI r9 6 (fun _ => 0), (q10, .inr (1, [.ref q1, .ref r11, .ref r12, .ref r13, .ref r14, .ref r15, .ref r16, .int 0, .int 0, .int 0, .int 0, .int 0, .int 0, .int (-1), .int 0, .int 0])), aI cI r11 7 (fun _ => 0), aI cI r12 7 (fun _ => 0), aI cI r13 7 (fun _ => 0), aI cI r14 7 (fun _ => 0), aI cI r15 7 (fun _ => 0), aI cI r16 7 (fun _ => 0), (q17, .inr (7, [.null, .null, .null, .null, .int 0, .int 0]))] H := hP
  have hD : va_D A [(h_this, .inr (4, [.ref q1, .ref q10, .null, .int 0])), (q1, .inr (2, [.ref r2, .ref r3, .ref r4, .ref r5, .ref r6, .ref r7, .ref r8, .ref r9, .int 6, .int 0, .int 0])), aJ cJ r2 7 (fun _ => 0), aI cI r3 7 (fun _ => 0), aI cI r4 7 (fun _ => 0), aI cI r5 7 (fun _ => 0), aI cI r6 7 (fun _ => 0), aI cI r7 7 (fun _ => 0), aJ cJ r8 6 (fun _ => 0), aI cI r9 6 (fun _ => 0), (q10, .inr (1, [.ref q1, .ref r11, .ref r12, .ref r13, .ref r14, .ref r15, .ref r16, .int 0, .int 0, .int 0, .int 0, .int 0, .int 0, .int (-1), .int 0, .int 0])), aI cI r11 7 (fun _ => 0), aI cI r12 7 (fun _ => 0), aI cI r13 7 (fun _ => 0), aI cI r14 7 (fun _ => 0), aI cI r15 7 (fun _ => 0), aI cI r16 7 (fun _ => 0), (q17, .inr (7, [.null, .null, .null, .null, .int 0, .int 0]))] := hD
  refine W.widen (k := 17) (n := 129) (Nat.le_of_ble_eq_true rfl) (Nat.le_of_ble_eq_true rfl) ?_
  refine lv_dup hx hb dX4_init_34 rfl ?_
  have hPc := hP.sub (ws' := [(q17, .inr (7, [.null, .null, .null, .null, .int 0, .int 0]))]) [17] rfl
  have hDc := hD.sub (ws' := [(q17, .inr (7, [.null, .null, .null, .null, .int 0, .int 0]))]) [17] (by decide) rfl
  have hFc := va_free (wc := [(q17, .inr (7, [.null, .null, .null, .null, .int 0, .int 0]))]) hD hS hA [17] rfl
  refine va_callv (va_runI (As := []) (rest := [.ref q17, .ref h_this]) ⟨hx, hb, hml, hown, hts⟩ (kX7_init l dC dI cI cJ cB cZ cF cG q17 H.size) (cwI 0 hts (goodW (List.forall_mem_cons.mpr ⟨U_192, fun _ h => h⟩)) rfl rfl rfl (hts _ (List.mem_cons_of_mem _ U_47)) (hts _ (List.mem_cons_of_mem _ U_219)) (hts _ (List.mem_cons_of_mem _ U_191)) rfl (by decide +kernel) ⟨Nat.le_of_ble_eq_true rfl, Nat.le_of_ble_eq_true rfl⟩) ⟨fun a U g mk q => by obtain ⟨q0, q1, qP, qK, qD⟩ := q; exact ⟨q0, q1, qP, va_K.moved (u := U) (U := U.calling g mk a) (Vm.Alike.refl U.vm) qK, qD⟩, fun U hU hW => ⟨rfl, by rw [hU], by rw [hU]; exact hPc, va_K.moved hW.alike hK, hDc.weaken (fun _ _ _ _ => trivial)⟩⟩ rfl rfl hl.1 rfl (lv_room (Nat.le_of_ble_eq_true rfl)) dX4_init_35 ⟨Nat.le_of_ble_eq_true rfl, Nat.le_of_ble_eq_true rfl⟩) hS (fun q _ h => hFc q h) hFc (fun u t H1 locs ht hvm hw hB hz1 hk1 hS => ?_)
  obtain ⟨r18, r19, r20, r21,  hP1, hK1, hD1⟩ := hB
  rw [ht] at hP1
  obtain ⟨hP, hD⟩ := va_join (wr := [(h_this, .inr (4, [.ref q1, .ref q10, .null, .int 0])), (q1, .inr (2, [.ref r2, .ref r3, .ref r4, .ref r5, .ref r6, .ref r7, .ref r8, .ref r9, .int 6, .int 0, .int 0])), aJ cJ r2 7 (fun _ => 0), aI cI r3 7 (fun _ => 0), aI cI r4 7 (fun _ => 0), aI cI r5 7 (fun _ => 0), aI cI r6 7 (fun _ => 0), aI cI r7 7 (fun _ => 0), aJ cJ r8 6 (fun _ => 0), aI cI r9 6 (fun _ => 0), (q10, .inr (1, [.ref q1, .ref r11, .ref r12, .ref r13, .ref r14, .ref r15, .ref r16, .int 0, .int 0, .int 0, .int 0, .int 0, .int 0, .int (-1), .int 0, .int 0])), aI cI r11 7 (fun _ => 0), aI cI r12 7 (fun _ => 0), aI cI r13 7 (fun _ => 0), aI cI r14 7 (fun _ => 0), aI cI r15 7 (fun _ => 0), aI cI r16 7 (fun _ => 0)]) (w1 := [(q17, .inr (7, [.ref r18, .ref r19, .ref r20, .ref r21, .int 0, .int 0])), aI cI r18 40 (fun _ => 0), aI cI r19 40 (fun _ => 0), aI cI r20 40 (fun _ => 0), aI cI r21 20 (fun _ => 0)]) hP hD [17] [0, 1, 2, 3, 4, 5, 6, 7, 8, 9, 10, 11, 12, 13, 14, 15, 16] rfl rfl (by decide) (by decide) hk1 hFc hP1 hD1
  generalize H1 = H at hP hS ⊢
  have hP : va_P (dC, dI) vwCl [(h_this, .inr (4, [.ref q1, .ref q10, .null, .int 0])), (q1, .inr (2, [.ref r2, .ref r3, .ref r4, .ref r5, .ref r6, .ref r7, .ref r8, .ref r9, .int 6, .int 0, .int 0])), aJ cJ r2 7 (fun _ => 0), aI cI r3 7 (fun _ => 0), aI cI r4 7 (fun _ => 0), aI cI r5 7 (fun _ => 0), aI cI r6 7 (fun _ => 0), aI cI r7 7 (fun _ => 0), aJ cJ r8 6 (fun _ => 0), aI cI r9 6 (fun _ => 0), (q10, .inr (1, [.ref q1, .ref r11, .ref r12, .ref r13, .ref r14, .ref r15, .ref r16, .int 0, .int 0, .int 0, .int 0, .int 0, .int 0, .int (-1), .int 0, .int 0])), aI cI r11 7 (fun _ => 0), aI cI r12 7 (fun _ => 0), aI cI r13 7 (fun _ => 0), aI cI r14 7 (fun _ => 0), aI cI r15 7 (fun _ => 0), aI cI r16 7 (fun _ => 0), (q17, .inr (7, [.ref r18, .ref r19, .ref r20, .ref r21, .int 0, .int 0])), aI cI r18 40 (fun _ => 0), aI cI r19 40 (fun _ => 0), aI cI r20 40 (fun _ => 0), aI cI r21 20 (fun _ => 0)] H := hP
  have hD : va_D A [(h_this, .inr (4, [.ref q1, .ref q10, .null, .int 0])), (q1, .inr (2, [.ref r2, .ref r3, .ref r4, .ref r5, .ref r6, .ref r7, .ref r8, .ref r9, .int 6, .int 0, .int 0])), aJ cJ r2 7 (fun _ => 0), aI cI r3 7 (fun _ => 0), aI cI r4 7 (fun _ => 0), aI cI r5 7 (fun _ => 0), aI cI r6 7 (fun _ => 0), aI cI r7 7 (fun _ => 0), aJ cJ r8 6 (fun _ => 0), aI cI r9 6 (fun _ => 0), (q10, .inr (1, [.ref q1, .ref r11, .ref r12, .ref r13, .ref r14, .ref r15, .ref r16, .int 0, .int 0, .int 0, .int 0, .int 0, .int 0, .int (-1), .int 0, .int 0])), aI cI r11 7 (fun _ => 0), aI cI r12 7 (fun _ => 0), aI cI r13 7 (fun _ => 0), aI cI r14 7 (fun _ => 0), aI cI r15 7 (fun _ => 0), aI cI r16 7 (fun _ => 0), (q17, .inr (7, [.ref r18, .ref r19, .ref r20, .ref r21, .int 0, .int 0])), aI cI r18 40 (fun _ => 0), aI cI r19 40 (fun _ => 0), aI cI r20 40 (fun _ => 0), aI cI r21 20 (fun _ => 0)] := hD
  refine W.widen (k := 21) (n := 269) (Nat.le_of_ble_eq_true rfl) (Nat.le_of_ble_eq_true rfl) ?_
  refine va_putF (D := (dC, dI)) (ci := 4) (v := .ref q17) (ty := (.object "LastSeat$Saying")) (C := RX4) (T := TX4) (N := 4) hx hb hts (fun w h => List.mem_cons_of_mem _ (inU_4 w h)) tyX4 tyX4_ok nmX4 hown hK hP hD hS 0 rfl rfl 2 (by decide) (hts _ (List.mem_cons_of_mem _ U_216)) (fun _ h9 => h9) rfl hin rfl (by decide +kernel) rfl rfl (Nat.le_of_ble_eq_true rfl) dX4_init_38 (fun H locs hP hD hS => ?_)
  have hP : va_P (dC, dI) vwCl [(h_this, .inr (4, [.ref q1, .ref q10, .ref q17, .int 0])), (q1, .inr (2, [.ref r2, .ref r3, .ref r4, .ref r5, .ref r6, .ref r7, .ref r8, .ref r9, .int 6, .int 0, .int 0])), aJ cJ r2 7 (fun _ => 0), aI cI r3 7 (fun _ => 0), aI cI r4 7 (fun _ => 0), aI cI r5 7 (fun _ => 0), aI cI r6 7 (fun _ => 0), aI cI r7 7 (fun _ => 0), aJ cJ r8 6 (fun _ => 0), aI cI r9 6 (fun _ => 0), (q10, .inr (1, [.ref q1, .ref r11, .ref r12, .ref r13, .ref r14, .ref r15, .ref r16, .int 0, .int 0, .int 0, .int 0, .int 0, .int 0, .int (-1), .int 0, .int 0])), aI cI r11 7 (fun _ => 0), aI cI r12 7 (fun _ => 0), aI cI r13 7 (fun _ => 0), aI cI r14 7 (fun _ => 0), aI cI r15 7 (fun _ => 0), aI cI r16 7 (fun _ => 0), (q17, .inr (7, [.ref r18, .ref r19, .ref r20, .ref r21, .int 0, .int 0])), aI cI r18 40 (fun _ => 0), aI cI r19 40 (fun _ => 0), aI cI r20 40 (fun _ => 0), aI cI r21 20 (fun _ => 0)] H := hP
  have hD : va_D A [(h_this, .inr (4, [.ref q1, .ref q10, .ref q17, .int 0])), (q1, .inr (2, [.ref r2, .ref r3, .ref r4, .ref r5, .ref r6, .ref r7, .ref r8, .ref r9, .int 6, .int 0, .int 0])), aJ cJ r2 7 (fun _ => 0), aI cI r3 7 (fun _ => 0), aI cI r4 7 (fun _ => 0), aI cI r5 7 (fun _ => 0), aI cI r6 7 (fun _ => 0), aI cI r7 7 (fun _ => 0), aJ cJ r8 6 (fun _ => 0), aI cI r9 6 (fun _ => 0), (q10, .inr (1, [.ref q1, .ref r11, .ref r12, .ref r13, .ref r14, .ref r15, .ref r16, .int 0, .int 0, .int 0, .int 0, .int 0, .int 0, .int (-1), .int 0, .int 0])), aI cI r11 7 (fun _ => 0), aI cI r12 7 (fun _ => 0), aI cI r13 7 (fun _ => 0), aI cI r14 7 (fun _ => 0), aI cI r15 7 (fun _ => 0), aI cI r16 7 (fun _ => 0), (q17, .inr (7, [.ref r18, .ref r19, .ref r20, .ref r21, .int 0, .int 0])), aI cI r18 40 (fun _ => 0), aI cI r19 40 (fun _ => 0), aI cI r20 40 (fun _ => 0), aI cI r21 20 (fun _ => 0)] := hD
  exact W.vret hx hb hr (fun t ht hW => ⟨⟨(), rfl, trivial, ⟨q1, ⟨r2, ⟨r3, ⟨r4, ⟨r5, ⟨r6, ⟨r7, ⟨r8, ⟨r9, ⟨q10, ⟨r11, ⟨r12, ⟨r13, ⟨r14, ⟨r15, ⟨r16, ⟨q17, ⟨r18, ⟨r19, ⟨r20, ⟨r21, ⟨by rw [ht]; exact hP, va_K.moved hW.alike hK, hD⟩⟩⟩⟩⟩⟩⟩⟩⟩⟩⟩⟩⟩⟩⟩⟩⟩⟩⟩⟩⟩⟩⟩, hS.F ht⟩) hS.2.2 dX4_init_41 hlocks
