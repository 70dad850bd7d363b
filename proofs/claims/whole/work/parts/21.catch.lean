/-! ===== a call that throws, caught in the caller by a catch whose class is resolved or not yet ===== -/
def xFinds (e : Env) (s : State) (f : JFrame) (a : Addr) (h : Handler) (s' : State) : Prop :=
  ∀ (Q : Handler → Pre) (E : CtlPost) (d : Bool) (acts : List Action), Sem.wp (findHandler f a) Q E e d acts s ↔ Q h d acts s'
section XCT
variable {e : Env} {s : State} {f : JFrame} {a : Addr}
theorem xgo_class {Q : Handler → Pre} {E : CtlPost} {d : Bool} {acts : List Action} {x : ExceptionTableEntry} {t : List ExceptionTableEntry} {c : ClassId} {cell : Cell} {vm' : Vm} (hx : covers x f.pc = true) (h0 : x.catchType ≠ 0)
    (hg : (Jvm.resolveClass f.method.cls x.catchType).Gives e.toSetting s.vm (.ok c) vm') (hsz : vm'.classes.size ≤ s.vm.classes.size) (hcell : s.heap[a]? = some cell) (hobj : ∀ k, cell.vm ≠ .statics k)
    (hk : ∃ k, vm'.classes[cell.cls]? = some k) (hc : ∃ k, vm'.classes[c]? = some k) :
    Sem.wp (findHandler.go f a (x :: t)) Q E e d acts s ↔ if vm'.assignable cell.cls c = true then Q (.found x.handlerPc) d acts (s.setVm vm') else Sem.wp (findHandler.go f a t) Q E e d acts (s.setVm vm') := by
  simp only [covers] at hx
  obtain ⟨ha, ht⟩ := hg.op (op := VmOp.resolveClass f.method.cls x.catchType) rfl
  cases hfit : vm'.assignable cell.cls c <;> simp [findHandler.go, hx, h0, ha, ht, hsz, hcell, hobj, hk, hc, hfit, VmOp.dirties, VmOp.acts]
theorem xcaught {tb : Tables} {g : JFrame} {c : Code} {below : List Frame} {target : State} {vm' : Vm} (h : At s g.method c below) {pc : Nat} (hfind : xFinds e ((s.setTop g).pushFrame (.throwing a)) g a (.found pc) (((s.setTop g).pushFrame (.throwing a)).setVm vm'))
    (hrest : Steps tb e below ((s.setVm vm').setTop { g with pc := pc, stack := [.ref a] }) target) :
    Steps tb e below ((s.setTop g).pushFrame (.throwing a)) target := by
  obtain ⟨hgo, hw⟩ := h.throwing a
  refine Steps.head hgo hw ?_
  have hstep : ∀ r, (stepThrowing e ((s.setTop g).pushFrame (.throwing a)) a (.java g :: r)).Is ((((s.setTop g).pushFrame (.throwing a)).setVm vm').setFrames (.java { g with pc := pc, stack := [.ref a] } :: r)) [] := by
    intro r
    simp only [stepThrowing, searchFrame, vmDo]
    generalize hr : Sem.go _ e false [] _ = res
    obtain ⟨as, rfl, ha⟩ := Sem.eq_ok_of hr (a := Handler.found pc) (s' := ((s.setTop g).pushFrame (.throwing a)).setVm vm') (acts' := []) (by simp [hfind _ _ _ _])
    exact ⟨rfl, ha⟩
  rw [stepThread_throwing (frames_entered h.top _), (hstep _).1]
  obtain ⟨g₀, hg⟩ := Option.isSome_iff_exists.mp h.top
  obtain ⟨r, hr⟩ := State.topJava?_eq_some.mp hg
  have hr' : (s.setVm vm').frames = .java g₀ :: r := hr
  rw [State.setTop_of_frames _ hr'] at hrest
  have e1 : (((s.setTop g).pushFrame (.throwing a)).setVm vm').setFrames (.java { g with pc := pc, stack := [.ref a] } :: s.frames.tail) = (s.setVm vm').setFrames (.java { g with pc := pc, stack := [.ref a] } :: r) := by
    rw [State.pushFrame, State.setTop_of_frames _ hr, State.setFrames_setFrames, hr]
    show ((s.setVm vm').setFrames _).setFrames _ = _
    rw [State.setFrames_setFrames]
    rfl
  rw [e1]
  exact hrest
end XCT
section XCC
variable {p : Program} {l : Launch} {e : Env} {R : Room} {s : State} {m : MethodId} {args : Array Value} {below : List Frame} {meth : Method} {c : Code} {V : State} {locs : List Loc} {cells slots : Nat}
/-- the handler that takes it, its class resolved on the way -/
def xTakes (p : Program) (l : Launch) (e : Env) (R : Room) (s : State) (m : MethodId) (args : Array Value) (below : List Frame) (meth : Method) (c : Code) (cls : String) (g : JFrame) (hpc : Nat) : Prop :=
  ∀ (V : State) (locs : List Loc) (cells slots : Nat) (q : Addr) (ce : Cell), Stand p l e R s m args below meth c V locs cells slots → V.heap[q]? = some ce → ce.vm = .none → s.vm.findClass cls = some ce.cls →
    ∃ vm' : Vm, Stand p l e R s m args below meth c (V.setVm vm') locs cells slots ∧ ∀ target, Steps p.tables e below ((V.setVm vm').setTop { g with pc := hpc, stack := [.ref q] }) target → Steps p.tables e below ((V.setTop g).pushFrame (.throwing q)) target
theorem xtakes1 {own cls : String} (hown : s.vm.findClass own = some m.cls) (hts : ∀ w ∈ lw_w, w.before args s = true) (hself : va_Nw (.castable cls cls) s) {a1 b1 h1 t1 : Nat} {hr : List (Nat × Nat × Nat × Nat)} (hex : c.exceptionTable.toList.map (fun h => (h.startPc, h.endPc, h.handlerPc, h.catchType)) = (a1, b1, h1, t1) :: hr) (hl1 : Cond.classLink own t1 cls ∈ lw_w) (ht1 : t1 ≠ 0) {g : JFrame} (hg : g.method = m) (hpc : a1 ≤ g.pc ∧ g.pc < b1) :
    xTakes p l e R s m args below meth c cls g h1 := by
  intro V locs cells slots q ce X hce hcv hcc
  subst hg
  have hpl : e.platform.magicAccessors = ({} : Platform).magicAccessors := by rw [X.admits.platform]
  obtain ⟨c1, hf1, hcl1⟩ := Cond.classLink_spec hown (hts _ hl1) e.platform hpl
  cases Option.some.inj (hcc.symm.trans hf1)
  obtain ⟨hg1, hw1, hr1⟩ := State.classEntry (e := e) X.warmed hcl1
  generalize V.vm.noted g.method.cls t1 (.cls ce.cls) = vm1 at hg1 hw1 hr1
  refine ⟨vm1, X.noted hw1, fun target hrest => xcaught X.here (pc := h1) ?_ hrest⟩
  intro Q E d acts
  obtain ⟨c3, c4, hc3, hc4, hasg⟩ := Cond.castable_spec (hself.use (A := args) rfl)
  cases Option.some.inj (hc3.symm.trans hcc)
  cases Option.some.inj (hc4.symm.trans hcc)
  have has1 : vm1.assignable ce.cls ce.cls = true := by rw [hw1.alike.assignable]; exact hasg
  have hk1 : ∃ k, vm1.classes[ce.cls]? = some k := Vm.classAt_of_findClass (name := cls) (by rw [hw1.alike.findClass]; exact hcc)
  have hvm : ((V.setTop g).pushFrame (.throwing q)).vm = V.vm := Stand.throwing_vm V g q
  rw [W.findHandler_eq (s := (V.setTop g).pushFrame (.throwing q)) (meth := meth) (code := c) (by rw [hvm]; exact X.method') X.code]
  cases hl : c.exceptionTable.toList with
  | nil => rw [hl] at hex; simp at hex
  | cons x1 t =>
    rw [hl] at hex
    simp only [List.map_cons, List.cons.injEq, Prod.mk.injEq] at hex
    obtain ⟨⟨e1, e2, e3, e4⟩, -⟩ := hex
    rw [xgo_class (cell := ce) (vm' := vm1) (c := ce.cls) (by simp [covers, e1, e2, hpc]) (by rw [e4]; exact ht1) (by rw [hvm, e4]; exact hg1) (by rw [hvm]; exact Nat.le_of_eq (alike_of X.warmed hw1).2.1) (by rw [Stand.throwing_heap]; exact hce) (fun k => by rw [hcv]; simp) hk1 hk1, if_pos has1, e3]
theorem xtakes2 {own cls c1n : String} (hown : s.vm.findClass own = some m.cls) (hts : ∀ w ∈ lw_w, w.before args s = true) (hself : va_Nw (.castable cls cls) s) (hno : va_Nc cls c1n s) {a1 b1 h1 t1 a2 b2 h2 t2 : Nat} {hr : List (Nat × Nat × Nat × Nat)} (hex : c.exceptionTable.toList.map (fun h => (h.startPc, h.endPc, h.handlerPc, h.catchType)) = (a1, b1, h1, t1) :: (a2, b2, h2, t2) :: hr) (hl1 : Cond.classLink own t1 c1n ∈ lw_w) (ht1 : t1 ≠ 0) (hl2 : Cond.classLink own t2 cls ∈ lw_w) (ht2 : t2 ≠ 0) {g : JFrame} (hg : g.method = m) (hpc : a1 ≤ g.pc ∧ g.pc < b1) (hpc2 : a2 ≤ g.pc ∧ g.pc < b2) :
    xTakes p l e R s m args below meth c cls g h2 := by
  intro V locs cells slots q ce X hce hcv hcc
  subst hg
  have hpl : e.platform.magicAccessors = ({} : Platform).magicAccessors := by rw [X.admits.platform]
  obtain ⟨d1, hf1, hcl1⟩ := Cond.classLink_spec hown (hts _ hl1) e.platform hpl
  obtain ⟨hg1, hw1, hr1⟩ := State.classEntry (e := e) X.warmed hcl1
  generalize V.vm.noted g.method.cls t1 (.cls d1) = vm1 at hg1 hw1 hr1
  obtain ⟨c2, hf2, hcl2⟩ := Cond.classLink_spec hown (hts _ hl2) e.platform hpl
  cases Option.some.inj (hcc.symm.trans hf2)
  obtain ⟨hg2, hw2, hr2⟩ := State.classEntry (e := e) (X.noted hw1).warmed hcl2
  generalize (V.setVm vm1).vm.noted g.method.cls t2 (.cls ce.cls) = vm2 at hg2 hw2 hr2
  refine ⟨vm2, X.noted hw2, fun target hrest => xcaught X.here (pc := h2) ?_ hrest⟩
  intro Q E d acts
  obtain ⟨c3, c4, hc3, hc4, hasg⟩ := Cond.castable_spec (hself.use (A := args) rfl)
  cases Option.some.inj (hc3.symm.trans hcc)
  cases Option.some.inj (hc4.symm.trans hcc)
  obtain ⟨n1, n2, hn1, hn2, hnas⟩ := hno
  cases Option.some.inj (hn1.symm.trans hcc)
  cases Option.some.inj (hn2.symm.trans hf1)
  have has2 : vm2.assignable ce.cls ce.cls = true := by rw [hw2.alike.assignable]; exact hasg
  have hno1 : vm1.assignable ce.cls d1 = false := by rw [hw1.alike.assignable]; exact hnas
  have hk1 : ∃ k, vm1.classes[ce.cls]? = some k := Vm.classAt_of_findClass (name := cls) (by rw [hw1.alike.findClass]; exact hcc)
  have hd1 : ∃ k, vm1.classes[d1]? = some k := Vm.classAt_of_findClass (name := c1n) (by rw [hw1.alike.findClass]; exact hf1)
  have hk2 : ∃ k, vm2.classes[ce.cls]? = some k := Vm.classAt_of_findClass (name := cls) (by rw [hw2.alike.findClass]; exact hcc)
  have hvm : ((V.setTop g).pushFrame (.throwing q)).vm = V.vm := Stand.throwing_vm V g q
  rw [W.findHandler_eq (s := (V.setTop g).pushFrame (.throwing q)) (meth := meth) (code := c) (by rw [hvm]; exact X.method') X.code]
  cases hl : c.exceptionTable.toList with
  | nil => rw [hl] at hex; simp at hex
  | cons x1 t =>
    cases t with
    | nil => rw [hl] at hex; simp at hex
    | cons x2 t =>
      rw [hl] at hex
      simp only [List.map_cons, List.cons.injEq, Prod.mk.injEq] at hex
      obtain ⟨⟨e1, e2, e3, e4⟩, ⟨i1, i2, i3, i4⟩, -⟩ := hex
      rw [xgo_class (cell := ce) (vm' := vm1) (c := d1) (by simp [covers, e1, e2, hpc]) (by rw [e4]; exact ht1) (by rw [hvm, e4]; exact hg1) (by rw [hvm]; exact Nat.le_of_eq (alike_of X.warmed hw1).2.1) (by rw [Stand.throwing_heap]; exact hce) (fun k => by rw [hcv]; simp) hk1 hd1, if_neg (by rw [hno1]; decide)]
      rw [xgo_class (f := g) (a := q) (s := ((V.setTop g).pushFrame (.throwing q)).setVm vm1) (cell := ce) (vm' := vm2) (c := ce.cls) (by simp [covers, i1, i2, hpc2]) (by rw [i4]; exact ht2) (by rw [i4]; exact hg2) (Nat.le_of_eq (alike_of hw1 hw2).2.1) (by show ((V.setTop g).pushFrame (.throwing q)).heap[q]? = _; rw [Stand.throwing_heap]; exact hce) (fun k => by rw [hcv]; simp) hk2 hk2, if_pos has2, i3]
      rfl
end XCC
