/-! ===== throwing an object of a class whose constructor of a text calls its super by another constant than 7 (NoSuchElementException: 13) ===== -/
theorem xw_h {w : Cond} {args : Array Value} {s : State} (h : w.before args s = true) : w.holds args s none s [] = true := h
/-- what is asked of a class X besides its constructors, by the library's own list -/
def xwT (own : String) (ic : Nat) (X : String) : List Cond := (Bundle.ownAtoms own ic X []).drop (Bundle.throwableAtoms ++ Bundle.throwableSAtoms ++ Bundle.chainSAtoms X []).length
theorem xwT_mem {own X : String} {ic : Nat} {w : Cond} (k : Nat) (h : (xwT own ic X)[k]? = some w) : w ∈ xwT own ic X := List.mem_of_getElem? h
/-- all that is asked of X, whose constructor of a text (its bytes rx) calls that of Y by the constant ix; from Y on the constant is 7 -/
def xwX (own : String) (ic : Nat) (X Y : String) (ix : Nat) (rx : ByteArray) (names : List String) : List Cond :=
  Bundle.throwableAtoms ++ Bundle.throwableSAtoms ++ (Bundle.passSAtoms X Y ix rx ++ Bundle.chainSAtoms Y names) ++ xwT own ic X
theorem xchain {args : Array Value} {s : State} {pl : Platform} (hpl : pl.magicAccessors = ({} : Platform).magicAccessors) {top : MethodId} (htop : s.methodNamed? (Bundle.initS Bundle.tN) = some top) {ix : Nat} {rx : ByteArray}
    (x0 : decode rx 0 = .ok (.aload_n 0, 1)) (x1 : decode rx 1 = .ok (.aload_n 1, 1)) (x2 : decode rx 2 = .ok (.invokespecial ix, 3)) (x5 : decode rx 5 = .ok (.return_, 1)) {X Y : String} {names : List String}
    (hX : Bundle.fit X = true) (hY : Bundle.fit Y = true) (hn : ∀ n ∈ names, Bundle.fit n = true) (h : ∀ c ∈ Bundle.passSAtoms X Y ix rx ++ Bundle.chainSAtoms Y names, c.before args s = true) :
    ∃ (P : PassC) (Ps : List PassC), Ps.length = names.length + 1 ∧ (∀ Q ∈ P :: Ps, Q.LinksS pl s) ∧ s.methodNamed? (Bundle.initS X) = some P.m ∧ PassesOn top ((P :: Ps).map (·.toPassT)) := by
  obtain ⟨P, L, hm, hs⟩ := PassC.ofS_atoms (args := args) (s := s) hpl (X := X) (Y := Y) (Bundle.fit_spec hX).1 (Bundle.fit_spec hY).2 x0 x1 x2 x5 (fun c hc => h c (List.mem_append_left _ hc))
  obtain ⟨P', Ps, hlen, L', hL, hm', hsup, hpass⟩ := Bundle.chainS (args := args) hpl htop names Y hY hn (fun c hc => h c (List.mem_append_right _ hc))
  exact ⟨P, P' :: Ps, by rw [List.length_cons, hlen], List.forall_mem_cons.mpr ⟨L, List.forall_mem_cons.mpr ⟨L', hL⟩⟩, hm, Option.some.inj (hs.symm.trans hm'), hsup, hpass⟩
/-- the method y of a class X that selects y itself -/
theorem xw_sel {l : Launch} {e : Env} (hA : l.admits e) {s : State} {args : Array Value} {X : String} {k : ClassId} (hk : s.vm.findClass X = some k) {y : MethodName} {i : MethodId} (hn : s.methodNamed? y = some i)
    (hy : y.cls ≠ "java/lang/invoke/MethodHandle" ∧ y.cls ≠ "java/lang/invoke/VarHandle") (h : (Cond.selects X y y).before args s = true) : selectMethod e.platform s.vm k i = .method i := by
  obtain ⟨k', r, i', e1, e2, e3, e4, -⟩ := Cond.selects_spec (xw_h h)
  have f1 : k' = k := Option.some.inj (e1.symm.trans hk)
  have f2 : r = i := Option.some.inj (e2.symm.trans (State.methodFound?_of_named hn hy))
  have f3 : i' = i := Option.some.inj (e3.symm.trans hn)
  rw [f1, f2, f3] at e4
  exact (Launch.admits_selectMethod hA s.vm k i).trans e4
/-- a slot beside the one that is set -/
theorem xw_ss {x : Cell} {i j : Nat} {v : Value} (h : j ≠ i) : (x.setSlot i v).slots[j]? = x.slots[j]? := Array.getElem?_setIfInBounds_ne (fun q => h q.symm)
/-- a field of Throwable in the cells of X: its type; a field of another name lies elsewhere -/
theorem xw_slot {s : State} {args : Array Value} {X n d : String} {k : ClassId} {K : Class} (hk : s.vm.findClass X = some k) (hK : s.vm.classes[k]? = some K) {c' i : Nat} {k' : Class} {f : Field} (hf : s.fieldFound? Bundle.tN n d = some (c', k', i, f))
    (hl : (Cond.lays X Bundle.tN n d).before args s = true) : K.instanceTypes[f.slot]? = some f.type ∧ ∀ (g : Field) (q : Class × Field), Jmm.declares? s.vm g.slot (k + 1) k = some q → q.2.name = g.name → g.name ≠ f.name → g.slot ≠ f.slot := by
  obtain ⟨h1, q', h2, h3⟩ := Cond.laysAt hk hK hf (xw_h hl)
  exact ⟨h1, fun g q h4 h5 h6 => Cond.laysApart h4 h2 h5 h3 h6⟩
/-- 'backtrace' is null while the constructor of Throwable runs -/
theorem xw_skip {pl : Platform} (hm : pl.magicAccessors = ({} : Platform).magicAccessors) {s : State} {args : Array Value} {T : ThrowableC} {Z0 : Init0T} (L : T.Links pl s) (Y : Bundle.Ties T Z0 s) {own X : String} {ic : Nat} {k : ClassId} {K : Class}
    (hk : s.vm.findClass X = some k) (hK : s.vm.classes[k]? = some K) (hw : ∀ w ∈ xwT own ic X, w.before args s = true) (a : Addr) (u v : RefV) (t : ThreadId) :
    SkipFacts T pl s (fun z => z) u ((preparedCellV T.toThrowableT (freshCell k K) a u v).withEntry t) := by
  obtain ⟨ci, i, f, q1, q2, q3, q4, -, q6, q7, q8⟩ := Cond.ownField (t := .object "java/lang/Object") Y.found L.cls (by decide +kernel) (xw_h (hw _ (xwT_mem 11 rfl))) (xw_h (hw _ (xwT_mem 12 rfl))) pl hm
  obtain ⟨t1, d, t2, t3⟩ := Cond.laysAt hk hK q8 (xw_h (hw _ (xwT_mem 13 rfl)))
  have n1 : f.slot ≠ T.fCause.slot := (xw_slot hk hK Y.cause (hw _ (xwT_mem 5 rfl))).2 f d t2 t3 (by rw [q6, Y.causeName]; decide)
  have n2 : f.slot ≠ T.fStack.slot := (xw_slot hk hK Y.stack (hw _ (xwT_mem 6 rfl))).2 f d t2 t3 (by rw [q6, Y.stackName]; decide)
  have n3 : f.slot ≠ T.fSupp.slot := (xw_slot hk hK Y.supp (hw _ (xwT_mem 7 rfl))).2 f d t2 t3 (by rw [q6, Y.suppName]; decide)
  have z : (freshCell k K).slots[f.slot]? = some .null := by
    have z1 := fresh_default (c := k) t1
    rw [q7] at z1
    exact z1
  exact ⟨⟨ci, i, f⟩, ⟨q1, q2, q3, q4⟩, (xw_ss n3).trans ((xw_ss n2).trans ((xw_ss n1).trans z)), fun _ _ => rfl⟩
section XW
variable {p : Program} {l : Launch} {e : Env} {R : Room} {s : State} {m : MethodId} {args : Array Value} {below : List Frame} {meth : Method} {c : Code} {V : State} {cells slots : Nat}
/-- an old cell, where nothing old was written -/
theorem xw_old (X : Stand p l e R s m args below meth c V [] cells slots) {b : Addr} {x : Cell} (hx : s.heap[b]? = some x) : ∃ y : Cell, V.heap[b]? = some y ∧ y.vm = x.vm ∧ ∀ i : Nat, y.slots[i]? = x.slots[i]? := by
  obtain ⟨y, h1, h2, -, h4⟩ := X.same.2.2.2.2.2 b x hx
  exact ⟨y, h1, by rw [h2], fun i => h4 i List.not_mem_nil⟩
/-- the two statics of Throwable that its constructor reads -/
theorem xw_statics (X : Stand p l e R s m args below meth c V [] cells slots) {T : ThrowableC} {Z0 : Init0T} (L : T.Links e.platform s) (Y : Bundle.Ties T Z0 s)
    (h1 : (Cond.isRef (.static Bundle.tN "UNASSIGNED_STACK" Bundle.steD)).before args s = true) (h2 : (Cond.isRef (.static Bundle.tN "SUPPRESSED_SENTINEL" Bundle.listD)).before args s = true) {a : Addr} (ha : s.heap.size ≤ a) :
    ∃ (u v : RefV) (y : Cell), V.heap[T.aS]? = some y ∧ T.aS ≠ a ∧ y.vm ≠ .unknown ∧ y.slots[T.fUnassigned.slot]? = some u.v ∧ y.slots[T.fSentinel.slot]? = some v.v := by
  obtain ⟨x, hx, hst⟩ := Y.statics
  obtain ⟨u, hu⟩ := Cond.staticRefV Y.unassigned L.unassignedStatic L.statics hx hst (xw_h h1)
  obtain ⟨v, hv⟩ := Cond.staticRefV Y.sentinel L.sentinelStatic L.statics hx hst (xw_h h2)
  obtain ⟨y, hy, hvm, hsl⟩ := xw_old X hx
  have hlt : T.aS < s.heap.size := (Array.getElem?_eq_some_iff.mp hx).1
  refine ⟨u, v, y, hy, Nat.ne_of_lt (Nat.lt_of_lt_of_le hlt ha), fun h3 => ?_, (hsl _).trans hu, (hsl _).trans hv⟩
  rw [← hvm, h3] at hst
  exact absurd hst (by decide)
set_option maxHeartbeats 1000000 in
/-- from the constructor's call to the throw: the cell a is as 'new' left it, the text q is any reference -/
theorem xw_made (X : Stand p l e R s m args below meth c V [] cells slots) (hexec : p.tables.exec = Jvm.exec) (htr : e.platform.stackTraces = false) {own cls Ys : String} {names : List String} {ic ix : Nat} {rx : ByteArray}
    (x0 : decode rx 0 = .ok (.aload_n 0, 1)) (x1 : decode rx 1 = .ok (.aload_n 1, 1)) (x2 : decode rx 2 = .ok (.invokespecial ix, 3)) (x5 : decode rx 5 = .ok (.return_, 1))
    (hown : s.vm.findClass own = some m.cls) (hcls : Bundle.fit cls = true) (hY : Bundle.fit Ys = true) (hnames : ∀ n ∈ names, Bundle.fit n = true) (h : ∀ w ∈ xwX own ic cls Ys ix rx names, w.before args s = true)
    {a : Addr} {k : ClassId} {K : Class} (hk : s.vm.findClass cls = some k) (hK : s.vm.classes[k]? = some K) (hcell : V.heap[a]? = some (freshCell k K)) (ha : s.heap.size ≤ a) {q : Value} (hq : q.isRef = true)
    {ls : Array Slot} (hls : ls.size = c.maxLocals) {pc : Nat} {rest : List Value} (d1 : decode c.code pc = .ok (.invokespecial ic, 3)) (d2 : decode c.code (pc + 3) = .ok (.athrow, 1)) (hout : ∀ x ∈ c.exceptionTable.toList, covers x (pc + 3) = false)
    (hRf : names.length + 4 < R.frames) (hRl : (rest.map fun v => v.category).sum + (13 * (names.length + 2) + 43) ≤ R.locals) (hlocks : meth.locks = false) :
    ∃ U : State, Steps p.tables e below (V.setTop { method := m, pc := pc, locals := ls, stack := q :: .ref a :: .ref a :: rest, locked := none }) U ∧ U.status = .running ∧ Ended U below (.threw a) ∧ s.WarmedH U.vm ∧
      s.sameButNew ({ U with vm := s.vm } : State) [] cells slots ∧ ∃ x, U.heap[a]? = some x ∧ s.vm.findClass cls = some x.cls ∧ x.vm = .none := by
  have hm : e.platform.magicAccessors = ({} : Platform).magicAccessors := by rw [X.admits.platform]
  have hw : ∀ w ∈ xwT own ic cls, w.before args s = true := fun w hw => h w (List.mem_append_right _ hw)
  have hp : ∀ w ∈ Bundle.passSAtoms cls Ys ix rx, w.before args s = true := fun w hw => h w (List.mem_append_left _ (List.mem_append_right _ (List.mem_append_left _ hw)))
  obtain ⟨T, Z0, L, -, Y⟩ := ThrowableC.of_atoms (args := args) (s := s) (pl := e.platform) (by rw [X.admits.platform]) (by rw [X.admits.platform]) hm
    (fun w hw => h w (List.mem_append_left _ (List.mem_append_left _ (List.mem_append_left _ hw))))
  obtain ⟨Z, M, LZ, LM, hZ⟩ := Init0T.ofS_atoms (args := args) hm L Y (fun w hw => h w (List.mem_append_left _ (List.mem_append_left _ (List.mem_append_right _ hw))))
  obtain ⟨P, Ps, hn, LP, hPm, hpass⟩ := xchain (args := args) hm hZ x0 x1 x2 x5 hcls hY hnames (fun w hw => h w (List.mem_append_left _ (List.mem_append_right _ hw)))
  have hord : K.kind = .ordinary := by
    obtain ⟨k1, K1, e1, e2, e3, -⟩ := Cond.instantiable_spec (xw_h (hw (.instantiable cls 6) (xwT_mem 1 rfl)))
    cases Option.some.inj (e1.symm.trans hk)
    cases Option.some.inj (e2.symm.trans hK)
    exact e3
  obtain ⟨u, v, y, hy, hne, hkn, hu, hv⟩ := xw_statics X L Y (hw _ (xwT_mem 9 rfl)) (hw _ (xwT_mem 10 rfl)) ha
  obtain ⟨iM, hM⟩ := Y.msg
  have tC : Takes s (freshCell k K) T.fCause (.ref a) := Takes.of_laid hK hord (xw_slot hk hK Y.cause (hw _ (xwT_mem 5 rfl))).1 (by rw [Y.causeType]; rfl)
  have tS : Takes s (freshCell k K) T.fStack u.v := Takes.of_laid hK hord (xw_slot hk hK Y.stack (hw _ (xwT_mem 6 rfl))).1 (by rw [Y.stackType]; exact fits_refV_array _ u)
  have tP : Takes s (freshCell k K) T.fSupp v.v := Takes.of_laid hK hord (xw_slot hk hK Y.supp (hw _ (xwT_mem 7 rfl))).1 (by rw [Y.suppType]; exact fits_refV_object _ v)
  have tM : Takes s (freshCell k K) T.fMsg q := Takes.of_laid hK hord (xw_slot hk hK hM (hw _ (xwT_mem 8 rfl))).1 (by rw [Y.msgType]; exact fits_refV_object _ ⟨q, hq⟩)
  have s0 : selectMethod e.platform s.vm k T.fill0 = .method T.fill0 := xw_sel X.admits hk Y.fill0 (by decide) (hw _ (xwT_mem 3 rfl))
  have s1 : selectMethod e.platform s.vm k T.fill = .method T.fill := xw_sel X.admits hk Y.fill (by decide) (hw _ (xwT_mem 4 rfl))
  obtain ⟨tm, -, -, -, vm1, hn1, -, -, -, -, -, -, -, hW1, st1⟩ := Steps.initColdS (tb := p.tables) (e := e) (below := below) (s := s) (U := V) X.here hexec X.warmed hm hown (t := Bundle.initS cls) rfl rfl (Bundle.fit_spec hcls).2
    (hw _ (xwT_mem 0 rfl)) (hp (.instanceMethod (Bundle.initS cls)) List.mem_cons_self) (bytes := rx) (maxL := 2) (hp (.code (Bundle.initS cls) rx 2 none) (List.mem_cons_of_mem _ List.mem_cons_self))
    (f := { method := m, pc := pc, locals := ls, stack := q :: .ref a :: .ref a :: rest, locked := none }) rfl (a := a) (msg := q) (rest := .ref a :: rest) rfl d1
  cases Option.some.inj (hn1.symm.trans hPm)
  obtain ⟨vm2, X2, st2⟩ := (X.noted hW1).ctorMessageOffV hexec (g := { method := m, pc := pc, locals := ls, stack := .ref a :: rest, locked := none }) rfl hls T L Z LZ M LM (P :: Ps) LP hpass (u0 := u) (sen := v) (self := a) hq
    (cell := freshCell k K) (cellS := y) hcell (fun _ z => nomatch z) (fun z => nomatch z) rfl rfl s0 s1 hy hne hkn hu hv tC tS tP tM Y.objLocals (xw_skip hm L Y hk hK hw a u v _) htr [] d1
    (by rw [List.length_cons, hn]; omega)
    (by
      have hr : (JFrame.monitorRoom { method := m, pc := pc, locals := ls, stack := .ref a :: rest, locked := none }) = 0 := rfl
      have hc : (Value.ref a).category = 1 := rfl
      rw [hr, List.length_cons, hn]
      simp only [List.map_cons, List.sum_cons, hc]
      omega)
  obtain ⟨hwalk, hrun, hend, hWU, hsame⟩ := X2.athrowLeaves hexec (g := { method := m, pc := pc + 3, locals := ls, stack := .ref a :: rest, locked := none }) rfl rfl rfl hout (a := a) (rest := rest) rfl d2 hlocks
  have hlt : a < ((V.setVm vm1).setVm vm2).heap.size := (Array.getElem?_eq_some_iff.mp hcell).1
  refine ⟨_, st1 _ (fun acts => ?_), hrun, hend, hWU, hsame.weaken (fun z hz hl => ?_) (Nat.le_refl _) (Nat.le_refl _), _, heapAt_setCell_self (s := (V.setVm vm1).setVm vm2) _ hlt, hk, rfl⟩
  · rw [doInvoke_state]
    exact st2 _ hwalk
  · simp only [List.nil_append, List.mem_cons, List.not_mem_nil, or_false] at hz
    have hb : z.base = a := by rcases hz with q1 | q1 | q1 | q1 | q1 <;> rw [q1]
    exact absurd (Nat.lt_of_lt_of_le hl ha) (by rw [hb]; exact Nat.lt_irrefl a)
end XW
def vx_atX (own : String) (ic : Nat) (X Y : String) (ix : Nat) (rx : ByteArray) (names : List String) : List Cond := (xwX own ic X Y ix rx names).filter vx_no
section VX13
variable {p : Program} {l : Launch} {e : Env} {R : Room} {s : State} {m : MethodId} {args : Array Value} {below : List Frame} {meth : Method} {c : Code} {H : Heap} {locs : List Loc} {cells slots : Nat} {Q : State → Prop}
variable {mc ms : Nat} {free : Addr → Prop} {A0 A1 : Nat → Prop} {H0 : Heap} {a : Array Value} {ls : Array Slot} {st0 rest : List Value}
variable {Qc : Array Value → State → Outcome → State → Prop} {XC : String → State → State → Prop}
/-- 'throw new E("text")': new; dup; ldc; invokespecial; athrow -/
theorem vx_throwSX {cc : ByteArray} {pc : Nat} (hexec : p.tables.exec = Jvm.exec) (hb : c.code = cc) (hl : l.stackTraces = false) {own cls text Ys : String} {names : List String} {ik is ic mc ms sa : Nat} {A : Nat → Prop} {ix : Nat} {rx : ByteArray} (x0 : decode rx 0 = .ok (.aload_n 0, 1)) (x1 : decode rx 1 = .ok (.aload_n 1, 1)) (x2 : decode rx 2 = .ok (.invokespecial ix, 3)) (x5 : decode rx 5 = .ok (.return_, 1))
    (hown : s.vm.findClass own = some m.cls) (hcls : Bundle.fit cls = true) (hY : Bundle.fit Ys = true) (hnames : ∀ n ∈ names, Bundle.fit n = true)
    (hk : (Cond.classLink own ik cls).before args s = true) (hini : (Cond.initialized cls).before args s = true) (hstr : vk_R own is text sa s) (hat : ∀ w ∈ vx_atX own ic cls Ys ix rx names, w.before args s = true)
    (hgood : ∀ w ∈ Cond.classLink own ik cls :: Cond.initialized cls :: vx_atX own ic cls Ys ix rx names, vx_ot w = true)
    (hU : vx_Zq Bundle.tN "UNASSIGNED_STACK" Bundle.steD A s s.heap) (hN : vx_Zq Bundle.tN "SUPPRESSED_SENTINEL" Bundle.listD A s s.heap) (hS : va_S A s.heap H locs) (hsize : ls.size = c.maxLocals)
    (d0 : decode cc pc = .ok (.new ik, 3)) (d3 : decode cc (pc + 3) = .ok (.dup, 1)) (d4 : decode cc (pc + 4) = .ok (.ldc is, 2)) (d6 : decode cc (pc + 6) = .ok (.invokespecial ic, 3)) (d9 : decode cc (pc + 9) = .ok (.athrow, 1))
    (hout : ∀ x ∈ c.exceptionTable.toList, covers x (pc + 9) = false)
    (hRframes : names.length + 4 < R.frames) (hRlocals : (rest.map fun v => v.category).sum + (13 * (names.length + 2) + 43) ≤ R.locals) (hRcells : cells + 1 ≤ R.cells) (hRslots : slots + 6 ≤ R.slots) (hlocks : meth.locks = false)
    (hx : ∀ t : State, s.vm.Alike t.vm → H.size ≤ t.heap.size → (∀ q : Nat, q < H.size → t.heap[q]? = H[q]?) → XC cls s t)
    (hf : ∀ z ∈ locs, free z.base) (hc : cells + 1 ≤ mc) (hs : slots + 6 ≤ ms) :
    W p l e R s m args below meth c H locs cells slots (vx_MQ below Qc XC args s mc ms free) (F0 m pc ls rest) := by
  intro T hT X
  have htr : e.platform.stackTraces = false := (show e.platform.stackTraces = l.stackTraces by rw [X.admits.platform]).trans hl
  have Y := vx_rebase X (R' := { frames := R.frames, locals := R.locals, cells := 1, slots := 6 }) (Nat.le_refl _) (Nat.le_refl _) hRcells hRslots
  obtain ⟨s', hA⟩ : ∃ z, z = (T.setVm s.vm).setFrames (.invoking m args :: below) := ⟨_, rfl⟩
  rw [← hA] at Y
  have hvm : s'.vm = s.vm := by rw [hA]; rfl
  have hhp : s'.heap = H := by rw [hA]; exact hT
  have hW0 : s.WarmedH s'.vm := by rw [hvm]; exact State.WarmedH.refl s
  have hat' : ∀ w ∈ vx_atX own ic cls Ys ix rx names, w.before args s' = true := fun w hw => vx_ot_at hW0 hvm.symm (hgood w (List.mem_cons_of_mem _ (List.mem_cons_of_mem _ hw))) (hat w hw)
  have hk' : (Cond.classLink own ik cls).before args s' = true := vx_ot_at hW0 hvm.symm (hgood _ List.mem_cons_self) hk
  have hini' : (Cond.initialized cls).before args s' = true := vx_ot_at hW0 hvm.symm (hgood _ (List.mem_cons_of_mem _ List.mem_cons_self)) hini
  have hU' : vx_Zq Bundle.tN "UNASSIGNED_STACK" Bundle.steD A s' s'.heap := by rw [hhp]; exact vx_Zq.moved hW0.alike (hU.kept hS.2.1)
  have hN' : vx_Zq Bundle.tN "SUPPRESSED_SENTINEL" Bundle.listD A s' s'.heap := by rw [hhp]; exact vx_Zq.moved hW0.alike (hN.kept hS.2.1)
  have h : ∀ w ∈ xwX own ic cls Ys ix rx names, w.before args s' = true := vx_own hat' (vx_isRefq hU'.1) (vx_isRefq hN'.1) hU'.2.word hN'.2.word
  have hown' : s'.vm.findClass own = some m.cls := by rw [hvm]; exact hown
  have hins : (Cond.instantiable cls 6).before args s' = true := h _ (List.mem_append_right _ (xwT_mem 1 rfl))
  obtain ⟨vm₁, cX, kX, hfX, hkX, -, -, X₁, st1⟩ := Y.newCold hexec (own := own) (C := cls) (index := ik) (n := 6) hown' hk' hins hini'
    (g := F0 m pc ls rest) rfl (by rw [hb]; exact d0) (Nat.le_refl _) (Nat.le_refl _)
  generalize hT1 : (T.setVm vm₁).pushCell { cls := cX, slots := kX.instanceTypes.map defaultValue, vm := .none } = T1 at X₁ st1
  have hcellA : T1.heap[T.heap.size]? = some (freshCell cX kX) := by rw [← hT1]; exact State.heap_pushCell_size _ _
  have d3' : decode c.code (pc + 3) = .ok (.dup, 1) := by rw [hb]; exact d3
  have d4' : decode c.code (pc + 4) = .ok (.ldc is, 2) := by rw [hb]; exact d4
  have hstr' : vk_R own is text sa s' := vk_R.warm hW0 hstr
  obtain ⟨U, hsteps, hrun, hend, hW, hsame, ce, hce, hO1, hO2⟩ := xw_made X₁ hexec htr x0 x1 x2 x5 (own := own) (cls := cls) (Ys := Ys) (names := names) (ic := ic) hown' hcls hY hnames h hfX hkX hcellA (by rw [hhp, hT]; exact Nat.le_refl _) (q := .ref sa) rfl hsize (pc := pc + 6) (rest := rest)
    (by rw [hb]; exact d6) (by rw [hb]; exact d9) hout hRframes hRlocals hlocks
  obtain ⟨f1, f2⟩ := vx_frame hsame
  rw [hhp] at f1 f2
  have hWs : s.WarmedH U.vm := State.WarmedH.trans hW0 hW
  have hcl : s.vm.findClass cls = some ce.cls := by
    have h9 := hO1
    rw [hvm] at h9
    exact h9
  have hall : s.sameButNew ({ U with vm := s.vm } : State) locs mc ms := by
    subst hA
    obtain ⟨e1, e2⟩ := hsame
    rw [State.setFrames_setFrames] at e1
    have h2 : (T.setVm s.vm).sameButNew ({ U with vm := s.vm } : State) [] (0 + 1) (0 + 6) := ⟨e1, e2⟩
    have h3 := X.same.trans h2
    rw [List.append_nil] at h3
    exact h3.mono hc hs
  refine ⟨U, ?_, .threw T.heap.size, hrun, hend, Or.inr ⟨T.heap.size, rfl, cls, ce, locs, hx U hWs.alike f1 (fun q hq => f2 q hq (fun z hz => nomatch hz)), hce, hO2, hcl, hWs, hall, hf⟩⟩
  refine st1 _ ?_
  show Steps p.tables e below (T1.setTop { method := m, pc := pc + 3, locals := ls, stack := .ref T.heap.size :: rest, locked := none }) _
  jvm_step X₁.here [X₁.here.top, hexec, d3', Value.category]
  exact X₁.ldcString hexec (own := own) (text := text) (index := is) (a := sa) hown' hstr'.1 hstr'.2
    (g := { method := m, pc := pc + 4, locals := ls, stack := .ref T.heap.size :: .ref T.heap.size :: rest, locked := none }) rfl d4' _ hsteps
/-- 'throw new E("text")', the text by a wide index -/
theorem vx_throwSWX {cc : ByteArray} {pc : Nat} (hexec : p.tables.exec = Jvm.exec) (hb : c.code = cc) (hl : l.stackTraces = false) {own cls text Ys : String} {names : List String} {ik is ic mc ms sa : Nat} {A : Nat → Prop} {ix : Nat} {rx : ByteArray} (x0 : decode rx 0 = .ok (.aload_n 0, 1)) (x1 : decode rx 1 = .ok (.aload_n 1, 1)) (x2 : decode rx 2 = .ok (.invokespecial ix, 3)) (x5 : decode rx 5 = .ok (.return_, 1))
    (hown : s.vm.findClass own = some m.cls) (hcls : Bundle.fit cls = true) (hY : Bundle.fit Ys = true) (hnames : ∀ n ∈ names, Bundle.fit n = true)
    (hk : (Cond.classLink own ik cls).before args s = true) (hini : (Cond.initialized cls).before args s = true) (hstr : vk_R own is text sa s) (hat : ∀ w ∈ vx_atX own ic cls Ys ix rx names, w.before args s = true)
    (hgood : ∀ w ∈ Cond.classLink own ik cls :: Cond.initialized cls :: vx_atX own ic cls Ys ix rx names, vx_ot w = true)
    (hU : vx_Zq Bundle.tN "UNASSIGNED_STACK" Bundle.steD A s s.heap) (hN : vx_Zq Bundle.tN "SUPPRESSED_SENTINEL" Bundle.listD A s s.heap) (hS : va_S A s.heap H locs) (hsize : ls.size = c.maxLocals)
    (d0 : decode cc pc = .ok (.new ik, 3)) (d3 : decode cc (pc + 3) = .ok (.dup, 1)) (d4 : decode cc (pc + 4) = .ok (.ldc_w is, 3)) (d7 : decode cc (pc + 7) = .ok (.invokespecial ic, 3)) (d10 : decode cc (pc + 10) = .ok (.athrow, 1))
    (hout : ∀ x ∈ c.exceptionTable.toList, covers x (pc + 10) = false)
    (hRframes : names.length + 4 < R.frames) (hRlocals : (rest.map fun v => v.category).sum + (13 * (names.length + 2) + 43) ≤ R.locals) (hRcells : cells + 1 ≤ R.cells) (hRslots : slots + 6 ≤ R.slots) (hlocks : meth.locks = false)
    (hx : ∀ t : State, s.vm.Alike t.vm → H.size ≤ t.heap.size → (∀ q : Nat, q < H.size → t.heap[q]? = H[q]?) → XC cls s t)
    (hf : ∀ z ∈ locs, free z.base) (hc : cells + 1 ≤ mc) (hs : slots + 6 ≤ ms) :
    W p l e R s m args below meth c H locs cells slots (vx_MQ below Qc XC args s mc ms free) (F0 m pc ls rest) := by
  intro T hT X
  have htr : e.platform.stackTraces = false := (show e.platform.stackTraces = l.stackTraces by rw [X.admits.platform]).trans hl
  have Y := vx_rebase X (R' := { frames := R.frames, locals := R.locals, cells := 1, slots := 6 }) (Nat.le_refl _) (Nat.le_refl _) hRcells hRslots
  obtain ⟨s', hA⟩ : ∃ z, z = (T.setVm s.vm).setFrames (.invoking m args :: below) := ⟨_, rfl⟩
  rw [← hA] at Y
  have hvm : s'.vm = s.vm := by rw [hA]; rfl
  have hhp : s'.heap = H := by rw [hA]; exact hT
  have hW0 : s.WarmedH s'.vm := by rw [hvm]; exact State.WarmedH.refl s
  have hat' : ∀ w ∈ vx_atX own ic cls Ys ix rx names, w.before args s' = true := fun w hw => vx_ot_at hW0 hvm.symm (hgood w (List.mem_cons_of_mem _ (List.mem_cons_of_mem _ hw))) (hat w hw)
  have hk' : (Cond.classLink own ik cls).before args s' = true := vx_ot_at hW0 hvm.symm (hgood _ List.mem_cons_self) hk
  have hini' : (Cond.initialized cls).before args s' = true := vx_ot_at hW0 hvm.symm (hgood _ (List.mem_cons_of_mem _ List.mem_cons_self)) hini
  have hU' : vx_Zq Bundle.tN "UNASSIGNED_STACK" Bundle.steD A s' s'.heap := by rw [hhp]; exact vx_Zq.moved hW0.alike (hU.kept hS.2.1)
  have hN' : vx_Zq Bundle.tN "SUPPRESSED_SENTINEL" Bundle.listD A s' s'.heap := by rw [hhp]; exact vx_Zq.moved hW0.alike (hN.kept hS.2.1)
  have h : ∀ w ∈ xwX own ic cls Ys ix rx names, w.before args s' = true := vx_own hat' (vx_isRefq hU'.1) (vx_isRefq hN'.1) hU'.2.word hN'.2.word
  have hown' : s'.vm.findClass own = some m.cls := by rw [hvm]; exact hown
  have hins : (Cond.instantiable cls 6).before args s' = true := h _ (List.mem_append_right _ (xwT_mem 1 rfl))
  obtain ⟨vm₁, cX, kX, hfX, hkX, -, -, X₁, st1⟩ := Y.newCold hexec (own := own) (C := cls) (index := ik) (n := 6) hown' hk' hins hini'
    (g := F0 m pc ls rest) rfl (by rw [hb]; exact d0) (Nat.le_refl _) (Nat.le_refl _)
  generalize hT1 : (T.setVm vm₁).pushCell { cls := cX, slots := kX.instanceTypes.map defaultValue, vm := .none } = T1 at X₁ st1
  have hcellA : T1.heap[T.heap.size]? = some (freshCell cX kX) := by rw [← hT1]; exact State.heap_pushCell_size _ _
  have d3' : decode c.code (pc + 3) = .ok (.dup, 1) := by rw [hb]; exact d3
  have d4' : decode c.code (pc + 4) = .ok (.ldc_w is, 3) := by rw [hb]; exact d4
  have hstr' : vk_R own is text sa s' := vk_R.warm hW0 hstr
  obtain ⟨U, hsteps, hrun, hend, hW, hsame, ce, hce, hO1, hO2⟩ := xw_made X₁ hexec htr x0 x1 x2 x5 (own := own) (cls := cls) (Ys := Ys) (names := names) (ic := ic) hown' hcls hY hnames h hfX hkX hcellA (by rw [hhp, hT]; exact Nat.le_refl _) (q := .ref sa) rfl hsize (pc := pc + 7) (rest := rest)
    (by rw [hb]; exact d7) (by rw [hb]; exact d10) hout hRframes hRlocals hlocks
  obtain ⟨f1, f2⟩ := vx_frame hsame
  rw [hhp] at f1 f2
  have hWs : s.WarmedH U.vm := State.WarmedH.trans hW0 hW
  have hcl : s.vm.findClass cls = some ce.cls := by
    have h9 := hO1
    rw [hvm] at h9
    exact h9
  have hall : s.sameButNew ({ U with vm := s.vm } : State) locs mc ms := by
    subst hA
    obtain ⟨e1, e2⟩ := hsame
    rw [State.setFrames_setFrames] at e1
    have h2 : (T.setVm s.vm).sameButNew ({ U with vm := s.vm } : State) [] (0 + 1) (0 + 6) := ⟨e1, e2⟩
    have h3 := X.same.trans h2
    rw [List.append_nil] at h3
    exact h3.mono hc hs
  refine ⟨U, ?_, .threw T.heap.size, hrun, hend, Or.inr ⟨T.heap.size, rfl, cls, ce, locs, hx U hWs.alike f1 (fun q hq => f2 q hq (fun z hz => nomatch hz)), hce, hO2, hcl, hWs, hall, hf⟩⟩
  refine st1 _ ?_
  show Steps p.tables e below (T1.setTop { method := m, pc := pc + 3, locals := ls, stack := .ref T.heap.size :: rest, locked := none }) _
  jvm_step X₁.here [X₁.here.top, hexec, d3', Value.category]
  exact X₁.ldcStringW hexec (own := own) (text := text) (index := is) (a := sa) hown' hstr'.1 hstr'.2
    (g := { method := m, pc := pc + 4, locals := ls, stack := .ref T.heap.size :: .ref T.heap.size :: rest, locked := none }) rfl d4' _ hsteps
end VX13
def six13 : ByteArray := ⟨#[0x2a, 0x2b, 0xb7, 0x00, 0x0d, 0xb1]⟩
theorem s13_0 : decode six13 0 = .ok (.aload_n 0, 1) := by decide +kernel
theorem s13_1 : decode six13 1 = .ok (.aload_n 1, 1) := by decide +kernel
theorem s13_2 : decode six13 2 = .ok (.invokespecial 13, 3) := by decide +kernel
theorem s13_5 : decode six13 5 = .ok (.return_, 1) := by decide +kernel
