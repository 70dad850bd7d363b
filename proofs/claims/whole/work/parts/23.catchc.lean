/-! ===== methods with handlers of their own: entry and call ===== -/
abbrev xwsW (y : MethodName) (b : ByteArray) (mL : Nat) (ret : Option FieldType) (hh : List (Nat × Nat × Nat × Nat)) : List Cond := Cond.codeWith y b mL ret hh :: lw_w
def xEx (c : Code) (hh : List (Nat × Nat × Nat × Nat)) : Prop := c.exceptionTable.toList.map (fun h => (h.startPc, h.endPc, h.handlerPc, h.catchType)) = hh
section XW1
variable {l : Launch} {code : ByteArray} {nL : Nat} {ret : Option FieldType} {G : xG} {ws ws' : va_W} {hh : List (Nat × Nat × Nat × Nat)}
theorem xMetW {y : MethodName} {rm : Room} {av : List Value} {sz : Nat} {v0 : Option Value} {mc ms : Nat} (hy : plainName y.cls = true) (hlen : (lg_sl av).length ≤ nL)
    (body : ∀ (p : Program) (e : Env) (s : State) (m : MethodId) (below : List Frame) (meth : Method) (c : Code) (ls : Array Slot) (A : Nat → Prop) (H : Heap) (locs : List Loc), xEx c hh → xC p s m av.toArray meth c y.cls code nL ret → xW G true A s ws H locs → lv_has ls nL (lv_args 0 av) →
      W p l e rm s m av.toArray below meth c H locs 0 0 (MQ below (xQ G v0 ws' A) av.toArray s mc ms A) (F0 m 0 ls [])) : Met l y (xwsW y code nL ret hh) rm (va_Pc av (xPre G ws sz)) (xQ G v0 ws' (va_A ws sz)) mc ms (va_A ws sz) := by
  refine va_MetW (cc := code) (maxL := nL) (ret := ret) (hh := hh) hy rfl ?_
  intro p e s m args below meth c s₁ B hml hv
  obtain ⟨rfl, hsz, hP, hK, hD, hZ⟩ := hv
  have hts := atoms_spec (ws := xwsW y code nL ret hh) B.pre
  have hex : xEx c hh := by
    obtain ⟨m9, meth9, c9, k1, k2, k3, -, -, k4, -⟩ := Cond.codeWith_spec (hts _ List.mem_cons_self)
    cases B.named.symm.trans k1
    cases B.method.symm.trans k2
    cases (Stand.of_body B).code.symm.trans k3
    exact k4
  rw [lg_entry_eq]
  exact body p e s m below meth c _ (va_A ws sz) s.heap [] hex ⟨B.exec, B.bytes, B.returns, hml, findClass_of_methodNamed B.named, fun w hw => hts w (List.mem_cons_of_mem _ hw), B.notSynchronized⟩
    ⟨hP, hD, fun _ _ _ hk => va_A.in hk, va_S.rf, hK, fun q h => Or.inr (by rw [← hsz]; exact h), xZ.narrow hZ (fun q h => by
      rcases h with h | h
      · exact h
      · rw [hsz] at h; exact h)⟩ (lv_entry av hlen)
end XW1
section XW2
variable {p : Program} {l : Launch} {e : Env} {R : Room} {s : State} {m : MethodId} {args : Array Value} {below : List Frame} {meth : Method} {c : Code} {H : Heap} {locs : List Loc} {cells slots : Nat}
variable {own : String} {code : ByteArray} {nL : Nat} {ret : Option FieldType} {G : xG} {pc : Nat} {ls : Array Slot} {rest : List Value}
variable {y : MethodName} {b : ByteArray} {mL index n mc ms : Nat} {ret2 : Option FieldType} {rm : Room} {As : List Value} {wc : va_W} {Qc : Array Value → State → Outcome → State → Prop} {free : Addr → Prop} {hh : List (Nat × Nat × Nat × Nat)}
def xwW (y : MethodName) (b : ByteArray) (mL : Nat) (ret2 : Option FieldType) (hh : List (Nat × Nat × Nat × Nat)) (n : Nat) : Prop := Cond.codeWith y b mL ret2 hh ∈ lw_w ∧ Cond.initialized y.cls ∈ lw_w ∧ y.cls ≠ "java/lang/invoke/MethodHandle" ∧ y.cls ≠ "java/lang/invoke/VarHandle" ∧ (parseMethodDescriptor y.desc).map (fun d => d.parameters.length) = some n
theorem xgoodW (h : Cond.codeWith y b mL ret2 hh ∈ lw_w) : GoodIn lw_w (xwsW y b mL ret2 hh) := fun w hw => by
  rcases List.mem_cons.mp hw with rfl | hw
  · exact ⟨h, good_of_word (lw_good _ h)⟩
  · exact ⟨hw, good_of_word (lw_good _ hw)⟩
theorem xrunSW (C0 : xC p s m args meth c own code nL ret) (hM : Met l y (xwsW y b mL ret2 hh) rm (va_Pc As (xPre G wc H.size)) Qc mc ms free) (h : xwW y b mL ret2 hh n) (hv : Cond.static y ∈ lw_w) (hl : Cond.methodLink own index y ∈ lw_w)
    (hrc : rm.cells = mc) (hrs : rm.slots = ms) (hR : rm.frames + 1 ≤ R.frames ∧ 8 + (mL + 11) + rm.locals ≤ R.locals) (hn : As.length = n) {lvs : List (Nat × Value)} (hls : lv_has ls nL lvs) {st0 : List Value} (hst : st0 = As.reverse ++ rest) (hW : (rest.map fun v => v.category).sum ≤ 8) (hdg : decode code pc = .ok (.invokestatic index, 3)) (hf : cells + mc ≤ R.cells ∧ slots + ms ≤ R.slots)
    (X0 : xCut G s wc H) : va_Run p l e R s m args below meth c H locs cells slots mc ms (F0 m pc ls st0) rest (Qc As.toArray) free := by
  obtain ⟨hx, hb, hr, hml, hown, hts, hlk⟩ := C0
  have hK : Back l R p e below s args y 3 8 (PreOf R mc ms (va_Pc As (xPre G wc H.size))) (PostOf Qc mc ms free) :=
    va_backW (bytes := b) (maxL := mL) (ret := ret2) (hh := hh) hM (xPre.blind _) hrc hrs hR.1 hR.2 (pay_in hts (xgoodW h.1)) List.mem_cons_self (fun a' U hW => word_at hW (Or.inl rfl) (hts _ h.2.1))
  intro T hT X
  obtain ⟨mk, methM, cM, hnamed, hmethM, -, -, -, -, -, -, hsigM⟩ := Cond.codeWith_spec (hts _ h.1)
  have hstatic : methM.isStatic = true := Cond.static_spec hnamed hmethM (hts _ hv)
  obtain ⟨kP, hkP, -⟩ := className_of_methodNamed hnamed
  have hinitP : kP.init = .initialized := Cond.initialized_spec (findClass_of_methodNamed hnamed) hkP (hts _ h.2.1)
  have hlenA : As.length = methM.sig.parameters.length := by
    have h9 := h.2.2.2.2
    rw [hsigM] at h9
    rw [hn]
    exact (Option.some.inj h9).symm
  obtain ⟨vm₁, X₁, hstep₁⟩ := X.invokestatic hx hown (hts _ hl) hnamed hmethM hstatic hkP hinitP ⟨h.2.2.1, h.2.2.2.1⟩ (g := F0 m pc ls st0) rfl (argsL := As) (rest := rest) hlenA hst (by rw [hb]; exact hdg)
  obtain ⟨v, ⟨U', l2, c2, s2⟩, X', ⟨g', mk', t, L, e1, e2, hq, h1, hL, h2, h3⟩, hsteps⟩ := hK m meth c ⟨T.setVm vm₁, locs, cells, slots⟩ (F0 m pc ls rest) (.invokestatic index) mk As.toArray X₁ rfl (by rw [hml]; exact hls.1) (by rw [hb]; exact hdg) (lv_room hW) (X₁.named hnamed)
    ⟨hf.1, hf.2, rfl, X0.1 (T.setVm vm₁) hT X₁.warmed⟩
  dsimp only [Pt.U, Pt.locs, Pt.cells, Pt.slots] at X' e1 e2 h1 h2 h3 hsteps
  subst h1; subst h2; subst h3
  exact ⟨v, (T.setVm vm₁).calling g' mk' As.toArray, t, U', L, hT, X', hL, e1, e2, hq, fun target ht => hstep₁ _ fun acts => by rw [doInvoke_state]; exact hsteps.trans ht⟩
end XW2
