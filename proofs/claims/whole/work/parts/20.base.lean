/-! ===== the words of the decompiled rows ===== -/
abbrev vwCl : List vw_C := [(RX0, TX0, 3), (RX1, TX1, 16), (RX2, TX2, 11), (RX3, TX3, 3), (RX4, TX4, 4), (RX5, TX5, 10), (RX6, TX6, 12), (RX7, TX7, 6), (RX8, TX8, 3), (RX9, TX9, 10), (RX10, TX10, 2), (RX11, TX11, 12), (RX12, TX12, 52)]
abbrev TYS (cI cJ cB cZ cF cG : ClassId) : List (ClassId × FieldType) := [(cI, .int), (cJ, .long), (cB, .byte), (cZ, .boolean), (cF, .object "LastSeat$Feast"), (cG, .object "LastSeat$Image")]
abbrev aI (cA : ClassId) (h n : Nat) (v : Nat → Int32) : Nat × va_E := (h, .inl (cA, n, .inl v))
abbrev aB (cA : ClassId) (h n : Nat) (v : Nat → Int32) : Nat × va_E := (h, .inl (cA, n, .inl v))
abbrev aZ (cA : ClassId) (h n : Nat) (v : Nat → Int32) : Nat × va_E := (h, .inl (cA, n, .inl v))
abbrev aQ (cA : ClassId) (h n : Nat) (f : Nat → Option Nat) : Nat × va_E := (h, .inl (cA, n, .inr (.inr (.inr (.inr f)))))
abbrev aJ (cA : ClassId) (h n : Nat) (v : Nat → Int64) : Nat × va_E := (h, .inl (cA, n, .inr (.inl v)))
abbrev oX0 (h : Nat) (r_ahead : Nat) (v_kept : Int32) (v_last : Int32) : Nat × va_E := (h, .inr (0, [.ref r_ahead, .int v_kept, .int v_last]))
abbrev oX1 (h : Nat) (r_hall : Nat) (r_coins : Nat) (r_chairOf : Nat) (r_tired : Nat) (r_hosted : Nat) (r_owed : Nat) (r_paid : Nat) (v_sitting : Int32) (v_taken : Int32) (v_served : Int32) (v_hidden : Int32) (v_round : Int32) (v_over : Int32) (v_host : Int32) (v_paidInAll : Int32) (v_lot : Int32) : Nat × va_E := (h, .inr (1, [.ref r_hall, .ref r_coins, .ref r_chairOf, .ref r_tired, .ref r_hosted, .ref r_owed, .ref r_paid, .int v_sitting, .int v_taken, .int v_served, .int v_hidden, .int v_round, .int v_over, .int v_host, .int v_paidInAll, .int v_lot]))
abbrev oX2 (h : Nat) (r_guestName : Nat) (r_coins : Nat) (r_pride : Nat) (r_speed : Nat) (r_place : Nat) (r_payer : Nat) (r_dishName : Nat) (r_cost : Nat) (v_chairs : Int32) (v_guests : Int32) (v_dishes : Int32) : Nat × va_E := (h, .inr (2, [.ref r_guestName, .ref r_coins, .ref r_pride, .ref r_speed, .ref r_place, .ref r_payer, .ref r_dishName, .ref r_cost, .int v_chairs, .int v_guests, .int v_dishes]))
abbrev oX3 (h : Nat) (r_reader : Nat) (r_told : Nat) (v_chairsTold : Int32) : Nat × va_E := (h, .inr (3, [.ref r_reader, .ref r_told, .int v_chairsTold]))
abbrev oX4 (h : Nat) (r_hall : Nat) (r_feast : Nat) (r_saying : Nat) (v_isThere : Int32) : Nat × va_E := (h, .inr (4, [.ref r_hall, .ref r_feast, .ref r_saying, .int v_isThere]))
abbrev oX5 (h : Nat) (r_reader : Nat) (r_hall : Nat) (r_deed : Nat) (r_what : Nat) (v_lines : Int32) (v_judged : Int32) (v_why : Int32) (v_lived : Int32) (v_roundThen : Int32) (v_sittingThen : Int32) : Nat × va_E := (h, .inr (5, [.ref r_reader, .ref r_hall, .ref r_deed, .ref r_what, .int v_lines, .int v_judged, .int v_why, .int v_lived, .int v_roundThen, .int v_sittingThen]))
abbrev oX6 (h : Nat) (r_tape : Nat) (r_keys : Nat) (v_most : Int32) (v_behind : Int32) (v_at : Int32) (v_kind : Int32) (v_number : Int32) (v_word : Int64) (v_key : Int32) (v_taken : Int32) (v_fault : Int32) (v_faultAt : Int32) : Nat × va_E := (h, .inr (6, [.ref r_tape, .ref r_keys, .int v_most, .int v_behind, .int v_at, .int v_kind, .int v_number, .long v_word, .int v_key, .int v_taken, .int v_fault, .int v_faultAt]))
abbrev oX7 (h : Nat) (r_step : Nat) (r_sign : Nat) (r_value : Nat) (r_pile : Nat) (v_length : Int32) (v_ones : Int32) : Nat × va_E := (h, .inr (7, [.ref r_step, .ref r_sign, .ref r_value, .ref r_pile, .int v_length, .int v_ones]))
abbrev oX8 (h : Nat) (r_reader : Nat) (r_hall : Nat) (r_told : Nat) : Nat × va_E := (h, .inr (8, [.ref r_reader, .ref r_hall, .ref r_told]))
abbrev oX9 (h : Nat) (r_hall : Nat) (r_feast : Nat) (r_trial : Nat) (r_listedHosts : Nat) (v_hostsListed : Int32) (v_nextBehind : Int32) (v_trickChairs : Int32) (v_pushedGuests : Int32) (v_menuDishes : Int32) (v_watchAt : Int32) : Nat × va_E := (h, .inr (9, [.ref r_hall, .ref r_feast, .ref r_trial, .ref r_listedHosts, .int v_hostsListed, .int v_nextBehind, .int v_trickChairs, .int v_pushedGuests, .int v_menuDishes, .int v_watchAt]))
abbrev oX10 (h : Nat) (r_bytes : Nat) (v_size : Int32) : Nat × va_E := (h, .inr (10, [.ref r_bytes, .int v_size]))
abbrev oX11 (h : Nat) (r_tape : Nat) (r_written : Nat) (r_hallNow : Nat) (r_feast : Nat) (r_hallText : Nat) (r_acts : Nat) (r_seer : Nat) (r_ledger : Nat) (r_saying : Nat) (r_sayingText : Nat) (r_images : Nat) (v_lastFault : Int32) : Nat × va_E := (h, .inr (11, [.ref r_tape, .ref r_written, .ref r_hallNow, .ref r_feast, .ref r_hallText, .ref r_acts, .ref r_seer, .ref r_ledger, .ref r_saying, .ref r_sayingText, .ref r_images, .int v_lastFault]))
abbrev oX12 (h : Nat) (v_thrown : Int32) (r_tape : Nat) (v_length : Int32) (v_size : Int32) (v_p : Int32) (v_limit : Int32) (r_s : Nat) (r_h : Nat) (r_read : Nat) (r_names : Nat) (r_reserved : Nat) (v_token : Int32) (v_at : Int32) (v_span : Int32) (v_number : Int32) (v_fault : Int32) (v_faultAt : Int32) (v_word : Int64) (v_got : Int32) (v_lines : Int32) (v_hasChairs : Int32) (r_undone : Nat) (r_before : Nat) (v_undoMany : Int32) (v_hostIn : Int32) (v_nextMany : Int32) (v_trickSet : Int32) (v_pushSet : Int32) (v_hasTrick : Int32) (v_hasPush : Int32) (r_purse : Nat) (r_hostRow : Nat) (v_hostMany : Int32) (v_menuSet : Int32) (v_watchTired : Int32) (v_hasProud : Int32) (r_text : Nat) (v_textMany : Int32) (v_seed : Int32) (v_toldMany : Int32) (r_toldAt : Nat) (v_hasTold : Int32) (r_stack : Nat) (v_codes : Int32) (v_ones : Int32) (v_top : Int32) (v_deep : Int32) (v_isWhole : Int32) (r_truths : Nat) (r_imaged : Nat) (r_namesKept : Nat) (r_areKept : Nat) : Nat × va_E := (h, .inr (12, [.int v_thrown, .ref r_tape, .int v_length, .int v_size, .int v_p, .int v_limit, .ref r_s, .ref r_h, .ref r_read, .ref r_names, .ref r_reserved, .int v_token, .int v_at, .int v_span, .int v_number, .int v_fault, .int v_faultAt, .long v_word, .int v_got, .int v_lines, .int v_hasChairs, .ref r_undone, .ref r_before, .int v_undoMany, .int v_hostIn, .int v_nextMany, .int v_trickSet, .int v_pushSet, .int v_hasTrick, .int v_hasPush, .ref r_purse, .ref r_hostRow, .int v_hostMany, .int v_menuSet, .int v_watchTired, .int v_hasProud, .ref r_text, .int v_textMany, .int v_seed, .int v_toldMany, .ref r_toldAt, .int v_hasTold, .ref r_stack, .int v_codes, .int v_ones, .int v_top, .int v_deep, .int v_isWhole, .ref r_truths, .ref r_imaged, .ref r_namesKept, .ref r_areKept]))
/-! ===== what every decompiled method stands on ===== -/
def Cx (p : Program) (s : State) (m : MethodId) (meth : Method) (c : Code) (args : Array Value) (cc : ByteArray) (nL : Nat) (ret : Option FieldType) (own : String) (ws : List Cond) : Prop :=
  p.tables.exec = Jvm.exec ∧ c.code = cc ∧ meth.sig.returnType = ret ∧ c.maxLocals = nL ∧ s.vm.findClass own = some m.cls ∧ (∀ w ∈ ws, w.before args s = true) ∧ meth.locks = false
def Wd (dC : Nat → ClassId) (dI : Nat → Nat → Nat) (cI cJ cB cZ cF cG : ClassId) (A : Nat → Prop) (s : State) (H : Heap) (locs : List Loc) (ws : va_W) : Prop :=
  va_K (dC, dI) vwCl (TYS cI cJ cB cZ cF cG) s ∧ va_P (dC, dI) vwCl ws H ∧ va_D A ws ∧ va_S A s.heap H locs
abbrev PQi (dC : Nat → ClassId) (dI : Nat → Nat → Nat) (cI cJ cB cZ cF cG : ClassId) (A : Nat → Prop) (o : Int32) (wo : va_W) : Array Value → State → Outcome → State → Prop :=
  va_Qi (fun (r : Int32) (_ : Unit) => r = o) (fun _ t => va_P (dC, dI) vwCl wo t.heap ∧ va_K (dC, dI) vwCl (TYS cI cJ cB cZ cF cG) t ∧ va_D A wo) A
abbrev PQz (dC : Nat → ClassId) (dI : Nat → Nat → Nat) (cI cJ cB cZ cF cG : ClassId) (A : Nat → Prop) (o : Int32) (wo : va_W) : Array Value → State → Outcome → State → Prop :=
  va_Qi (fun (r : Int32) (_ : Unit) => r = o ∧ narrow .boolean (.int r) = .int r) (fun _ t => va_P (dC, dI) vwCl wo t.heap ∧ va_K (dC, dI) vwCl (TYS cI cJ cB cZ cF cG) t ∧ va_D A wo) A
abbrev PQl (dC : Nat → ClassId) (dI : Nat → Nat → Nat) (cI cJ cB cZ cF cG : ClassId) (A : Nat → Prop) (o : Int64) (wo : va_W) : Array Value → State → Outcome → State → Prop :=
  va_Ql (fun (r : Int64) (_ : Unit) => r = o) (fun _ t => va_P (dC, dI) vwCl wo t.heap ∧ va_K (dC, dI) vwCl (TYS cI cJ cB cZ cF cG) t ∧ va_D A wo) A
abbrev PQv (dC : Nat → ClassId) (dI : Nat → Nat → Nat) (cI cJ cB cZ cF cG : ClassId) (A : Nat → Prop) (wo : va_W) : Array Value → State → Outcome → State → Prop :=
  va_Qv (fun (_ : Unit) => True) (fun _ t => va_P (dC, dI) vwCl wo t.heap ∧ va_K (dC, dI) vwCl (TYS cI cJ cB cZ cF cG) t ∧ va_D A wo) A
def gI {α : Type} (i : Int32) (n : Nat) (x : Option α) : Option α := if 0 ≤ i.toInt ∧ i.toInt < (n : Int) then x else none
def gZ {α : Type} (y : Int32) (x : Option α) : Option α := if y = 0 then none else x
theorem gI_s {α : Type} {i : Int32} {n : Nat} {x : Option α} {o : α} (h : gI i n x = some o) : vp_in i n ∧ x = some o := by
  unfold gI at h
  by_cases hc : 0 ≤ i.toInt ∧ i.toInt < (n : Int)
  · rw [if_pos hc] at h
    exact ⟨vp_in_iff.mpr hc, h⟩
  · rw [if_neg hc] at h
    cases h
theorem gZ_s {α : Type} {y : Int32} {x : Option α} {o : α} (h : gZ y x = some o) : ¬ y = 0 ∧ x = some o := by
  unfold gZ at h
  by_cases hc : y = 0
  · rw [if_pos hc] at h
    cases h
  · rw [if_neg hc] at h
    exact ⟨hc, h⟩
def gB {α : Type} (v : Int32) (x : Option α) : Option α := if v = 0 ∨ v = 1 then x else none
theorem gB_s {α : Type} {v : Int32} {x : Option α} {o : α} (h : gB v x = some o) : narrow .boolean (.int v) = .int v ∧ x = some o := by
  unfold gB at h
  by_cases hc : v = 0 ∨ v = 1
  · rw [if_pos hc] at h
    refine ⟨?_, h⟩
    rcases hc with rfl | rfl <;> rfl
  · rw [if_neg hc] at h
    cases h
def updE {α : Type} (f : Nat → α) (k : Nat) (x : α) : Nat → α := fun j => if j = k then x else f j
def nmv {α β : Type} (a : α) (f : α → Option β) : Option β := f a
theorem nm_s {α β : Type} {a : α} {f : α → Option β} {o : β} (h : nmv a f = some o) : ∃ z, a = z ∧ f z = some o := ⟨a, rfl, h⟩
theorem bind_s {α β : Type} {x : Option α} {f : α → Option β} {o : β} (h : x.bind f = some o) : ∃ a, x = some a ∧ f a = some o := by
  cases x with
  | none => cases h
  | some a => exact ⟨a, rfl, h⟩
theorem iteP {α : Type} {c : Prop} {inst : Decidable c} {a b r : α} (hc : c) (h : @ite α c inst a b = r) : a = r := by
  rw [if_pos hc] at h
  exact h
theorem iteN {α : Type} {c : Prop} {inst : Decidable c} {a b r : α} (hc : ¬ c) (h : @ite α c inst a b = r) : b = r := by
  rw [if_neg hc] at h
  exact h
theorem swN {x v : Int32} {k : Int} (h : ¬ x = v) (hv : v.toInt = k) : x.toInt ≠ k := fun e => h (Int32.toInt_inj.mp (e.trans hv.symm))
def zushr (x y : Int32) : Int32 := (x.toUInt32 >>> (y.toUInt32 &&& Int32.toUInt32 31)).toInt32
def zi2b (x : Int32) : Int32 := x.toInt8.toInt32
theorem z_inL {i : Int32} {n : Nat} (h : (decide (0 ≤ i.toInt) && decide (i.toInt < (n : Int))) = true) : vp_in i n := by
  rw [Bool.and_eq_true, decide_eq_true_iff, decide_eq_true_iff] at h
  exact vp_in_iff.mpr h
section ZRows
variable {p : Program} {l : Launch} {e : Env} {R : Room} {s : State} {m : MethodId} {args : Array Value} {below : List Frame} {meth : Method} {c : Code} {H : Heap} {locs : List Loc} {cells slots : Nat} {Q : State → Prop}
variable {cc : ByteArray} {pc : Nat} {ls : Array Slot} {rest : List Value} {D : va_G} {cl : List vw_C} {A : Nat → Prop} {a : Nat} {tys : List (ClassId × FieldType)} {ws : va_W} {H0 : Heap}
theorem z_iald (hexec : p.tables.exec = Jvm.exec) (hb : c.code = cc) (hK : va_K D cl tys s) (hP : va_P D cl ws H) (q0 t0 : Nat) {cA : ClassId} {n k : Nat} {f : Nat → Int32} (ha : ws[q0]? = some (a, .inl (cA, n, .inl f))) (ht : tys[t0]? = some (cA, .int)) {i : Int32} (hin : vp_in i n) (hk : i.toNatClampNeg = k) (hdg : decode cc pc = .ok (.iaload, 1))
    (kk : W p l e R s m args below meth c H locs cells slots Q (F0 m (pc + 1) ls (.int (f k) :: rest))) : W p l e R s m args below meth c H locs cells slots Q (F0 m pc ls (.int i :: .ref a :: rest)) := by
  subst hk
  exact va_iald hexec hb hK hP q0 t0 ha ht hin hdg kk
theorem z_bald (hexec : p.tables.exec = Jvm.exec) (hb : c.code = cc) (hK : va_K D cl tys s) (hP : va_P D cl ws H) (q0 t0 : Nat) {cA : ClassId} {n k : Nat} {f : Nat → Int32} (ha : ws[q0]? = some (a, .inl (cA, n, .inl f))) (ht : tys[t0]? = some (cA, .byte)) {i : Int32} (hin : vp_in i n) (hk : i.toNatClampNeg = k) (hdg : decode cc pc = .ok (.baload, 1))
    (kk : W p l e R s m args below meth c H locs cells slots Q (F0 m (pc + 1) ls (.int (f k) :: rest))) : W p l e R s m args below meth c H locs cells slots Q (F0 m pc ls (.int i :: .ref a :: rest)) := by
  subst hk
  exact va_bald hexec hb hK hP q0 t0 ha ht hin hdg kk
theorem z_zald (hexec : p.tables.exec = Jvm.exec) (hb : c.code = cc) (hK : va_K D cl tys s) (hP : va_P D cl ws H) (q0 t0 : Nat) {cA : ClassId} {n k : Nat} {f : Nat → Int32} (ha : ws[q0]? = some (a, .inl (cA, n, .inl f))) (ht : tys[t0]? = some (cA, .boolean)) {i : Int32} (hin : vp_in i n) (hk : i.toNatClampNeg = k) (hdg : decode cc pc = .ok (.baload, 1))
    (kk : W p l e R s m args below meth c H locs cells slots Q (F0 m (pc + 1) ls (.int (f k) :: rest))) : W p l e R s m args below meth c H locs cells slots Q (F0 m pc ls (.int i :: .ref a :: rest)) := by
  subst hk
  exact va_zald hexec hb hK hP q0 t0 ha ht hin hdg kk
theorem z_lald (hexec : p.tables.exec = Jvm.exec) (hb : c.code = cc) (hK : va_K D cl tys s) (hP : va_P D cl ws H) (q0 t0 : Nat) {cA : ClassId} {n k : Nat} {f : Nat → Int64} (ha : ws[q0]? = some (a, .inl (cA, n, .inr (.inl f)))) (ht : tys[t0]? = some (cA, .long)) {i : Int32} (hin : vp_in i n) (hk : i.toNatClampNeg = k) (hdg : decode cc pc = .ok (.laload, 1))
    (kk : W p l e R s m args below meth c H locs cells slots Q (F0 m (pc + 1) ls (.long (f k) :: rest))) : W p l e R s m args below meth c H locs cells slots Q (F0 m pc ls (.int i :: .ref a :: rest)) := by
  subst hk
  exact va_lald hexec hb hK hP q0 t0 ha ht hin hdg kk
theorem z_iast (hexec : p.tables.exec = Jvm.exec) (hb : c.code = cc) (hK : va_K D cl tys s) (hP : va_P D cl ws H) (hD : va_D A ws) (hS : va_S A H0 H locs) (q0 t0 : Nat) {cA : ClassId} {n k : Nat} {f f2 : Nat → Int32} (ha : ws[q0]? = some (a, .inl (cA, n, .inl f))) (ht : tys[t0]? = some (cA, .int)) {i : Int32} {x : Int32} (hin : vp_in i n) (hk : i.toNatClampNeg = k) (hu : upd f k x = f2) (hdg : decode cc pc = .ok (.iastore, 1))
    (kk : ∀ (H1 : Heap) (locs1 : List Loc), va_P D cl (ws.set q0 (a, .inl (cA, n, .inl f2))) H1 → va_D A (ws.set q0 (a, .inl (cA, n, .inl f2))) → va_S A H0 H1 locs1 → W p l e R s m args below meth c H1 locs1 cells slots Q (F0 m (pc + 1) ls rest)) : W p l e R s m args below meth c H locs cells slots Q (F0 m pc ls (.int x :: .int i :: .ref a :: rest)) := by
  subst hk
  subst hu
  exact va_iast hexec hb hK hP hD hS q0 t0 ha ht hin hdg kk
theorem z_bast (hexec : p.tables.exec = Jvm.exec) (hb : c.code = cc) (hK : va_K D cl tys s) (hP : va_P D cl ws H) (hD : va_D A ws) (hS : va_S A H0 H locs) (q0 t0 : Nat) {cA : ClassId} {n k : Nat} {f f2 : Nat → Int32} (ha : ws[q0]? = some (a, .inl (cA, n, .inl f))) (ht : tys[t0]? = some (cA, .byte)) {i : Int32} {x : Int32} (hin : vp_in i n) (hk : i.toNatClampNeg = k) (hu : upd f k (vp_nar .byte x) = f2) (hdg : decode cc pc = .ok (.bastore, 1))
    (kk : ∀ (H1 : Heap) (locs1 : List Loc), va_P D cl (ws.set q0 (a, .inl (cA, n, .inl f2))) H1 → va_D A (ws.set q0 (a, .inl (cA, n, .inl f2))) → va_S A H0 H1 locs1 → W p l e R s m args below meth c H1 locs1 cells slots Q (F0 m (pc + 1) ls rest)) : W p l e R s m args below meth c H locs cells slots Q (F0 m pc ls (.int x :: .int i :: .ref a :: rest)) := by
  subst hk
  subst hu
  exact va_bast hexec hb hK hP hD hS q0 t0 ha ht hin hdg kk
theorem z_zast (hexec : p.tables.exec = Jvm.exec) (hb : c.code = cc) (hK : va_K D cl tys s) (hP : va_P D cl ws H) (hD : va_D A ws) (hS : va_S A H0 H locs) (q0 t0 : Nat) {cA : ClassId} {n k : Nat} {f f2 : Nat → Int32} (ha : ws[q0]? = some (a, .inl (cA, n, .inl f))) (ht : tys[t0]? = some (cA, .boolean)) {i : Int32} {x : Int32} (hin : vp_in i n) (hk : i.toNatClampNeg = k) (hu : upd f k (vp_nar .boolean x) = f2) (hdg : decode cc pc = .ok (.bastore, 1))
    (kk : ∀ (H1 : Heap) (locs1 : List Loc), va_P D cl (ws.set q0 (a, .inl (cA, n, .inl f2))) H1 → va_D A (ws.set q0 (a, .inl (cA, n, .inl f2))) → va_S A H0 H1 locs1 → W p l e R s m args below meth c H1 locs1 cells slots Q (F0 m (pc + 1) ls rest)) : W p l e R s m args below meth c H locs cells slots Q (F0 m pc ls (.int x :: .int i :: .ref a :: rest)) := by
  subst hk
  subst hu
  exact va_zast hexec hb hK hP hD hS q0 t0 ha ht hin hdg kk
theorem z_last (hexec : p.tables.exec = Jvm.exec) (hb : c.code = cc) (hK : va_K D cl tys s) (hP : va_P D cl ws H) (hD : va_D A ws) (hS : va_S A H0 H locs) (q0 t0 : Nat) {cA : ClassId} {n k : Nat} {f f2 : Nat → Int64} (ha : ws[q0]? = some (a, .inl (cA, n, .inr (.inl f)))) (ht : tys[t0]? = some (cA, .long)) {i : Int32} {x : Int64} (hin : vp_in i n) (hk : i.toNatClampNeg = k) (hu : vp_updL f k x = f2) (hdg : decode cc pc = .ok (.lastore, 1))
    (kk : ∀ (H1 : Heap) (locs1 : List Loc), va_P D cl (ws.set q0 (a, .inl (cA, n, .inr (.inl f2)))) H1 → va_D A (ws.set q0 (a, .inl (cA, n, .inr (.inl f2)))) → va_S A H0 H1 locs1 → W p l e R s m args below meth c H1 locs1 cells slots Q (F0 m (pc + 1) ls rest)) : W p l e R s m args below meth c H locs cells slots Q (F0 m pc ls (.long x :: .int i :: .ref a :: rest)) := by
  subst hk
  subst hu
  exact va_last hexec hb hK hP hD hS q0 t0 ha ht hin hdg kk
theorem z_topi {x y : Int32} (h : x = y) (k : W p l e R s m args below meth c H locs cells slots Q (F0 m pc ls (.int y :: rest))) : W p l e R s m args below meth c H locs cells slots Q (F0 m pc ls (.int x :: rest)) := by
  subst h
  exact k
theorem z_topl {x y : Int64} (h : x = y) (k : W p l e R s m args below meth c H locs cells slots Q (F0 m pc ls (.long y :: rest))) : W p l e R s m args below meth c H locs cells slots Q (F0 m pc ls (.long x :: rest)) := by
  subst h
  exact k
theorem z_pc {pc' : Nat} {st : List Value} (h : pc = pc') (k : W p l e R s m args below meth c H locs cells slots Q (F0 m pc' ls st)) : W p l e R s m args below meth c H locs cells slots Q (F0 m pc ls st) := by
  subst h
  exact k
theorem z_aald (hexec : p.tables.exec = Jvm.exec) (hb : c.code = cc) (hK : va_K D cl tys s) (hP : va_P D cl ws H) (q0 t0 : Nat) {cA : ClassId} {C : String} {n k b : Nat} {f : Nat → Option Nat} (ha : ws[q0]? = some (a, .inl (cA, n, .inr (.inr (.inr (.inr f)))))) (ht : tys[t0]? = some (cA, .object C)) {i : Int32} (hin : vp_in i n) (hk : i.toNatClampNeg = k) (hv : f k = some b) (hdg : decode cc pc = .ok (.aaload, 1))
    (kk : W p l e R s m args below meth c H locs cells slots Q (F0 m (pc + 1) ls (.ref b :: rest))) : W p l e R s m args below meth c H locs cells slots Q (F0 m pc ls (.int i :: .ref a :: rest)) := by
  subst hk
  refine va_aldq hexec hb hK hP q0 t0 ha ht hin hdg ?_
  rw [hv]
  exact kk
end ZRows
