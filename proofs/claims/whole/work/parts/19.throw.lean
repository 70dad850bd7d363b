/-! ===== methods that throw: the road to the throw writes nothing, makes the exception, and leaves ===== -/
def xcls : Nat → String
  | 1 => "java/lang/IndexOutOfBoundsException"
  | 2 => "java/lang/IllegalArgumentException"
  | 3 => "java/lang/UnsupportedOperationException"
  | _ => "java/lang/IllegalStateException"
abbrev xnames : List String := ["java/lang/RuntimeException", "java/lang/Exception"]
abbrev xspec : List Cond := xcls4 ++ (xdecl.map Cond.declares ++ xcast.map (fun X => Cond.castable X X))
def xownOk (own : String) (ic : Nat) (X : String) : Prop := ∀ a ∈ Bundle.ownAtoms own ic X xnames, a ∈ lw_w ∨ a ∈ xspec
theorem xown_1 : xownOk "FilterRows" 66 "java/lang/IndexOutOfBoundsException" := by
  have h : (Bundle.ownAtoms "FilterRows" 66 "java/lang/IndexOutOfBoundsException" xnames).all (fun a => decide (a ∈ lw_w) || decide (a ∈ xspec)) = true := by decide +kernel
  intro a ha
  have := List.all_eq_true.mp h a ha
  simpa only [Bool.or_eq_true, decide_eq_true_eq] using this
theorem xown_2 : xownOk "FilterRows" 76 "java/lang/IllegalArgumentException" := by
  have h : (Bundle.ownAtoms "FilterRows" 76 "java/lang/IllegalArgumentException" xnames).all (fun a => decide (a ∈ lw_w) || decide (a ∈ xspec)) = true := by decide +kernel
  intro a ha
  have := List.all_eq_true.mp h a ha
  simpa only [Bool.or_eq_true, decide_eq_true_eq] using this
theorem xown_3 : xownOk "FilterRows" 170 "java/lang/UnsupportedOperationException" := by
  have h : (Bundle.ownAtoms "FilterRows" 170 "java/lang/UnsupportedOperationException" xnames).all (fun a => decide (a ∈ lw_w) || decide (a ∈ xspec)) = true := by decide +kernel
  intro a ha
  have := List.all_eq_true.mp h a ha
  simpa only [Bool.or_eq_true, decide_eq_true_eq] using this
theorem xown_4 : xownOk "FilterRows" 191 "java/lang/IllegalStateException" := by
  have h : (Bundle.ownAtoms "FilterRows" 191 "java/lang/IllegalStateException" xnames).all (fun a => decide (a ∈ lw_w) || decide (a ∈ xspec)) = true := by decide +kernel
  intro a ha
  have := List.all_eq_true.mp h a ha
  simpa only [Bool.or_eq_true, decide_eq_true_eq] using this
theorem xown_use {own X : String} {ic : Nat} {args : Array Value} {s : State} {A : Nat → Prop} (h : xownOk own ic X) (hts : ∀ w ∈ lw_w, w.before args s = true) (hZ : xZ A s s.heap) : ∀ a ∈ Bundle.ownAtoms own ic X xnames, a.before args s = true := by
  intro a ha
  rcases h a ha with h1 | h1
  · exact hts a h1
  · rcases List.mem_append.mp h1 with h2 | h2
    · exact (hZ.2.2.2.2.2 a h2).use args
    · rcases List.mem_append.mp h2 with h3 | h3
      · obtain ⟨y, hy, rfl⟩ := List.mem_map.mp h3
        exact (hZ.1.1.2.1 y hy).use rfl
      · obtain ⟨y, hy, rfl⟩ := List.mem_map.mp h3
        exact (hZ.1.1.2.2.1 y hy).use rfl
/-- the end of a call that throws: a new object of that class; nothing that was there has changed -/
def xThr (st : State) (cls : String) (o : Outcome) (t : State) (mc ms : Nat) : Prop :=
  ∃ q : Addr, o = .threw q ∧ st.WarmedH t.vm ∧ st.sameButNew ({ t with vm := st.vm } : State) [] mc ms ∧ st.heap.size ≤ q ∧ ∃ ce : Cell, t.heap[q]? = some ce ∧ ce.vm = .none ∧ st.vm.findClass cls = some ce.cls
def MQT (below : List Frame) (cls : String) (s : State) (mc ms : Nat) : State → Prop := fun t => ∃ o, t.status = .running ∧ Ended t below o ∧ xThr s cls o t mc ms
def MetT (l : Launch) (y : MethodName) (ws : List Cond) (rm : Room) (Pc : Array Value → State → Prop) (cls : String) : Prop :=
  MetFree l y (headSpec ws rm) Pc (fun _ _ _ _ _ => True) (fun _ st o t => xThr st cls o t 1 6)
section XT
variable {p : Program} {l : Launch} {e : Env} {R : Room} {s : State} {m : MethodId} {args : Array Value} {below : List Frame} {meth : Method} {c : Code} {H : Heap} {locs : List Loc}
variable {own : String} {code : ByteArray} {nL : Nat} {ret : Option FieldType} {G : xG} {w : Bool} {A : Nat → Prop} {ws : va_W} {pc : Nat} {ls : Array Slot} {st : List Value}
theorem xMetT {y : MethodName} {rm : Room} {av : List Value} {sz : Nat} {cls : String} (hfl : l.flags = pinnedFlags ++ [noTraceFlag]) (hy : plainName y.cls = true) (hlen : (lg_sl av).length ≤ nL)
    (body : ∀ (p : Program) (e : Env) (s : State) (m : MethodId) (below : List Frame) (meth : Method) (c : Code) (ls : Array Slot) (A : Nat → Prop) (H : Heap) (locs : List Loc), e.platform.stackTraces = false → c.exceptionTable.isEmpty = true → (∀ q, A q → s.heap.size ≤ q) → xC p s m av.toArray meth c y.cls code nL ret → meth.name = y.name → xW G false A s ws H locs → lv_has ls nL (lv_args 0 av) →
      W p l e rm s m av.toArray below meth c H locs 0 0 (MQT below cls s 1 6) (F0 m 0 ls [])) : MetT l y (xws y code nL ret) rm (va_Pc av (xPre G ws sz)) cls := by
  refine MetFree.of_bodyS (code := code) (maxLocals := nL) (ret := ret) hy ?_ ?_
  · intro args s m h hn
    obtain ⟨meth, c, h1, h2, h3, h4, h5, h6, -, -⟩ := Cond.code_spec hn (atoms_spec (ws := xws y code nL ret) h _ List.mem_cons_self)
    exact ⟨meth, c, h1, h2, h3, h4, h5, h6⟩
  · intro p e s m args below meth c s₁ B hml hv _
    obtain ⟨rfl, hsz, hP, hK, hD, hZ⟩ := hv
    have hts := atoms_spec (ws := xws y code nL ret) B.pre
    have hml : c.maxLocals = nL := B.maxLocals_eq (hts _ List.mem_cons_self)
    have hno := B.noHandlers (hts _ List.mem_cons_self)
    have hh0 : s₁.heap = s.heap := by rw [B.state]; rfl
    have K := body p e s m below meth c _ (fun q => sz ≤ q) s.heap [] (Launch.traces_off hfl (Stand.of_body B).admits) hno (fun q h => by rw [hsz]; exact h) ⟨B.exec, B.bytes, B.returns, hml, findClass_of_methodNamed B.named, fun w hw => hts w (List.mem_cons_of_mem _ hw), B.notSynchronized⟩ (name_of_methodNamed B.named B.method).1
      ⟨hP, hD, (fun q => absurd q (by decide)), va_S.rf, hK, fun q h => by rw [← hsz]; exact h, xZ.narrow hZ (fun q h => by
        rcases h with h | h
        · exact Or.inr h
        · rw [hsz] at h; exact h)⟩ (lv_entry av hlen)
    rw [← lg_entry_eq] at K
    obtain ⟨t, a1, o, b1, b2, b3⟩ := K s₁ hh0 (Stand.of_body B)
    exact ⟨t, o, a1, b1, b2, b3⟩
theorem xthrow {cls tx : String} {ic ix isx : Nat} (htr : e.platform.stackTraces = false) (hno : c.exceptionTable.isEmpty = true) (hAn : ∀ q, A q → s.heap.size ≤ q) (C0 : xC p s m args meth c own code nL ret) (B : xW G w A s ws H locs) (how : xownOk own ic cls) (hfit : Bundle.fit cls = true) (hcl : Cond.classLink own ix cls ∈ lw_w) (hins : Cond.instantiable cls 6 ∈ lw_w) (hini : Cond.initialized cls ∈ lw_w) (hstr : ∃ q : Nat, vk_R own isx tx q s)
    {lvs : List (Nat × Value)} (hls : lv_has ls nL lvs) (hRc : 1 ≤ R.cells) (hRs : 6 ≤ R.slots) (hRf : 5 < R.frames) (hRl : (st.map fun v => v.category).sum + 82 ≤ R.locals)
    (d0 : decode code pc = .ok (.new ix, 3)) (d1 : decode code (pc + 3) = .ok (.dup, 1)) (d2 : decode code (pc + 4) = .ok (.ldc isx, 2)) (d3 : decode code (pc + 6) = .ok (.invokespecial ic, 3)) (d4 : decode code (pc + 9) = .ok (.athrow, 1)) :
    W p l e R s m args below meth c H locs 0 0 (MQT below cls s 1 6) (F0 m pc ls st) := by
  have hat := xown_use how C0.2.2.2.2.2.1 B.Z
  obtain ⟨hx, hb, hr, hml, hown, hts, hlk⟩ := C0
  refine va_forget (fun q hq => hAn _ (B.2.2.2.1.2.2 q hq)) ?_
  refine W.newc hx hb hown (hts _ hcl) (hts _ hins) (hts _ hini) rfl d0 (by omega) (by omega) (fun cC kC h1 h2 h3 h4 => ?_)
  refine W.eq (g2 := F0 m (pc + 3) ls (.ref H.size :: st)) rfl ?_
  refine lv_dup hx hb d1 rfl ?_
  obtain ⟨q, hq⟩ := hstr
  refine va_ldcS hx hb hown hq d2 ?_
  intro T hT X
  have hcell : T.heap[H.size]? = some (freshCell cC kC) := by rw [hT]; simp [freshCell]
  obtain ⟨U, a1, a2, a3, a4, a5, ce, a6, a7⟩ := X.ctorThrowS hx htr hown hfit (names := xnames) (by decide) hat (fun x hx => absurd hx List.not_mem_nil) h1 h2 hcell B.2.2.2.1.1 (msg := .ref q) rfl (g := F0 m (pc + 3 + 1 + 2) ls (.ref q :: .ref H.size :: .ref H.size :: st)) rfl (by rw [hml]; exact hls.1) rfl rfl (rest := st) rfl (by rw [hb]; exact d3) (by rw [hb]; exact d4) (fun x hx => by
    have : c.exceptionTable.toList = [] := by
      have h9 := Array.isEmpty_iff.mp hno
      rw [h9]
    rw [this] at hx
    exact absurd hx List.not_mem_nil) (by show 2 + 3 < R.frames; omega) (by
      show 2 * 0 + (1 + (st.map fun v => v.category).sum) + (13 * (2 + 1) + 42) ≤ R.locals
      omega) hlk
  exact ⟨U, a1, .threw H.size, a2, a3, H.size, rfl, a4, a5, B.2.2.2.1.1, ce, a6, a7.vm, a7.cls⟩
end XT
