section XCL
variable {p : Program} {l : Launch} {e : Env} {R : Room} {s : State} {m : MethodId} {args : Array Value} {below : List Frame} {meth : Method} {c : Code} {H : Heap} {locs : List Loc} {cells slots : Nat} {Q : State → Prop}
variable {own : String} {code : ByteArray} {nL : Nat} {ret : Option FieldType} {G : xG} {w : Bool} {A : Nat → Prop} {ws ws' : va_W} {pc a : Nat} {ls : Array Slot} {rest : List Value}
variable {y : MethodName} {b : ByteArray} {mL index n : Nat} {ret2 : Option FieldType} {rm : Room} {As : List Value} {b0 : Nat} {wc : va_W}
/-- a virtual call that throws, into a handler of the caller's -/
theorem xcallT {cls : String} {hpc : Nat} (C0 : xC p s m args meth c own code nL ret) (B : xW G true A s ws H locs) (isC : List Nat) (hnd : va_nd isC = true) (hC : isC.map (fun i => ws[i]?) = wc.map some)
    (hM : MetT l y (xws y b mL ret2) rm (va_Pc (.ref b0 :: As) (xPre G wc H.size)) cls) (h : xwB y b mL ret2 n) (hv : xwV y) (hl : Cond.methodLink own index y ∈ lw_w) {ci : Nat} {q : vw_C} {fs : List Value} (hq : vwCl[ci]? = some q) (hqc : q.1 = y.cls) (he : wc[0]? = some (b0, .inr (ci, fs)))
    (hrc : rm.cells = 1) (hrs : rm.slots = 6) (hR : rm.frames + 1 ≤ R.frames ∧ 8 + (mL + 11) + rm.locals ≤ R.locals) (hn : As.length = n) {lvs : List (Nat × Value)} (hls : lv_has ls nL lvs) {st0 : List Value} (hst : st0 = As.reverse ++ .ref b0 :: rest) (hW : (rest.map fun v => v.category).sum ≤ 8) (hdg : decode code pc = .ok (.invokevirtual index, 3)) (hf : cells + 1 ≤ R.cells ∧ slots + 6 ≤ R.slots)
    (htk : xTakes p l e R s m args below meth c cls (F0 m pc ls rest) hpc)
    (kk : ∀ (q : Nat) (H : Heap), xW G true A s ws H locs → W p l e R s m args below meth c H locs (cells + 1) (slots + 6) Q (F0 m hpc ls [.ref q])) :
    W p l e R s m args below meth c H locs cells slots Q (F0 m pc ls st0) := by
  have X0 := B.cut isC hnd hC
  obtain ⟨hx, hb, hr, hml, hown, hts, hlk⟩ := C0
  have hrv := va_recv X0.2.2 X0.2.1 hq he
  rw [hqc] at hrv
  obtain ⟨cellB, hcB, hoB, hclB⟩ := hrv
  intro T hT X
  obtain ⟨mk, methM, hnamed, hmethM, hstM, habM⟩ := Cond.instanceMethod_spec (hts _ hv.1)
  obtain ⟨methM', cM, hmethM', hcM, -, hlM, -, -, -, hsigM⟩ := Cond.code_spec hnamed (hts _ h.1)
  cases hmethM.symm.trans hmethM'
  obtain ⟨c2, r2, m2, q1, q2, q3, q4, kP, hkP, hkPi⟩ := Cond.selects_spec (hts _ hv.2)
  cases hclB.symm.trans q1
  cases (State.methodFound?_of_named hnamed ⟨h.2.2.1, h.2.2.2.1⟩).symm.trans q2
  cases hnamed.symm.trans q3
  have hselP : selectMethod e.platform s.vm cellB.cls mk = .method mk := by rw [Launch.admits_selectMethod X.admits]; exact q4
  have hlenA : As.length = methM.sig.parameters.length := by
    have h9 := h.2.2.2.2
    rw [hsigM] at h9
    rw [hn]
    exact (Option.some.inj h9).symm
  obtain ⟨vm₁, X₁, hstep₁⟩ := X.invokevirtual hx hown (hts _ hl) hnamed hmethM hstM hkP hkPi ⟨h.2.2.1, h.2.2.2.1⟩ (a := b0) (cell := cellB) (by rw [hT]; exact hcB)
    (fun z hz => by rw [hz] at hoB; cases hoB) hselP hmethM habM hkP hkPi (g := F0 m pc ls st0) rfl (argsL := As) (rest := rest) hlenA hst (by rw [hb]; exact hdg)
  generalize hU : T.setVm vm₁ = U at X₁ hstep₁
  have hUh : U.heap = H := by rw [← hU]; exact hT
  have hn1 : U.methodNamed? y = some mk := by
    have := X₁.named hnamed
    exact this
  have hws : ∀ w ∈ xws y b mL ret2, ∀ (a' : Array Value) (Z : State), s.WarmedH Z.vm → w.before a' Z = true := pay_in hts (xgood h.1)
  obtain ⟨methY, cY, hmY, hcY, -, hlY, -, -, -, -⟩ := Cond.code_spec hn1 (hws _ List.mem_cons_self #[] U X₁.warmed)
  obtain ⟨kY, hkY, -⟩ := className_of_methodNamed hn1
  have hini : (Cond.initialized y.cls).before #[] U = true := word_at X₁.warmed (Or.inl rfl) (hts _ h.2.1)
  have hinitY : kY.init = .initialized := Cond.initialized_spec (findClass_of_methodNamed hn1) hkY hini
  have hAt : At U (F0 m pc ls rest).method c below := X₁.here
  have hdg' : decode c.code (F0 m pc ls rest).pc = .ok (.invokevirtual index, 3) := by rw [hb]; exact hdg
  have happ : (headSpec (xws y b mL ret2) rm).appliesLoose y e.platform (U.calling (F0 m pc ls rest) mk (Value.ref b0 :: As).toArray) = true :=
    Spec.appliesLoose_calling (g := F0 m pc ls rest) hAt hdg' hn1 hkY hinitY
      (X₁.room_calling (g := F0 m pc ls rest) (R' := (headSpec (xws y b mL ret2) rm).room) (by rw [hml]; exact hls.1) hmY hcY (by exact hR.1) (by
        rw [hlY]
        have h9 := lv_room (m := m) (pc := pc) (ls := ls) (rest := rest) hW
        have h8 : 8 + (mL + 11) + (headSpec (xws y b mL ret2) rm).room.locals ≤ R.locals := hR.2
        have h7 : (F0 m pc ls rest).stack = rest := rfl
        rw [h7]
        omega) (by show cells + rm.cells ≤ R.cells; rw [hrc]; exact hf.1) (by show slots + rm.slots ≤ R.slots; rw [hrs]; exact hf.2)) (atoms_intro fun w hw => hws w hw _ _ X₁.warmed)
  obtain ⟨mid, hmid⟩ := hAt.above
  have hfr : (U.setTop (F0 m pc ls rest)).frames = (.java (F0 m pc ls rest) :: mid) ++ below := by rw [State.frames_setTop' _ hAt.top, hmid]; rfl
  have hPc : va_Pc (.ref b0 :: As) (xPre G wc H.size) (Value.ref b0 :: As).toArray (U.calling (F0 m pc ls rest) mk (Value.ref b0 :: As).toArray) :=
    xPre.blind _ _ _ _ _ ⟨rfl, X0.1 U hUh X₁.warmed⟩
  obtain ⟨o, s₂, hsteps, -, hend, hq2⟩ := Steps.callFree hM p X₁.admits X₁.cas X₁.clock (acts := []) hfr happ hPc trivial
  obtain ⟨qa, rfl, hW₂, hsame2, hqn, ce, hce, hcv, hcc⟩ := hq2
  have hW' : U.WarmedH s₂.vm := hW₂
  obtain ⟨e2, g2, g3, g4, g5, g6⟩ := hsame2
  have e3 : s₂ = ({ (U.calling (F0 m pc ls rest) mk (Value.ref b0 :: As).toArray).setFrames s₂.frames with heap := s₂.heap, slotsUsed := s₂.slotsUsed } : State).setVm s₂.vm := by
    have : s₂ = ({ s₂ with vm := (U.calling (F0 m pc ls rest) mk (Value.ref b0 :: As).toArray).vm } : State).setVm s₂.vm := rfl
    have e2' : ({ s₂ with vm := (U.calling (F0 m pc ls rest) mk (Value.ref b0 :: As).toArray).vm } : State) = ({ (U.calling (F0 m pc ls rest) mk (Value.ref b0 :: As).toArray).setFrames s₂.frames with heap := s₂.heap, slotsUsed := s₂.slotsUsed } : State) := e2
    rw [e2'] at this
    exact this
  obtain ⟨g₀, hg0⟩ := Option.isSome_iff_exists.mp hAt.top
  obtain ⟨r, hr0⟩ := State.topJava?_eq_some.mp hg0
  have hf₂ : s₂.frames = .throwing qa :: (U.setTop (F0 m pc ls rest)).frames := hend
  have hs₂ : s₂ = (((({ U with heap := s₂.heap, slotsUsed := s₂.slotsUsed } : State).setVm s₂.vm).setTop (F0 m pc ls rest)).pushFrame (.throwing qa)) := by
    have hr' : (({ U with heap := s₂.heap, slotsUsed := s₂.slotsUsed } : State).setVm s₂.vm).frames = .java g₀ :: r := hr0
    refine e3.trans ?_
    rw [hf₂, State.calling_eq hAt.top, State.setFrames_setFrames, State.pushFrame, State.frames_setTop _ hr', State.setTop_of_frames _ hr', State.setFrames_setFrames, State.frames_setTop _ hr0]
    rfl
  have hsame : U.sameButNew ({ U with heap := s₂.heap, slotsUsed := s₂.slotsUsed } : State) [] 1 6 := by
    refine ⟨?_, g2, g3, g4, g5, g6⟩
    obtain ⟨t, ht, -⟩ := State.frames_cons hr0
    show ({ U with heap := s₂.heap, slotsUsed := s₂.slotsUsed } : State) = { U.setFrames U.frames with heap := s₂.heap, slotsUsed := s₂.slotsUsed }
    rw [State.setFrames_self ht]
  have X₂ : Stand p l e R s m args below meth c (({ U with heap := s₂.heap, slotsUsed := s₂.slotsUsed } : State).setVm s₂.vm) (locs ++ []) (cells + 1) (slots + 6) :=
    ⟨X₁.admits, X₁.cas, X₁.clock, X₁.frames, X₁.room, X₁.hears, X₁.method, X₁.code, (X₁.here.setHeapUsed s₂.heap s₂.slotsUsed).setVm hW'.alike, X₁.tail, State.WarmedH.trans X₁.warmed hW', X₁.limits, X₁.bytes, X₁.same.trans (hsame.setVm s.vm)⟩
  rw [List.append_nil] at X₂
  have hcc' : s.vm.findClass cls = some ce.cls := by
    have h1 : U.vm.findClass cls = some ce.cls := hcc
    rw [X₁.warmed.alike.findClass] at h1
    exact h1
  obtain ⟨vm', X₃, hcat⟩ := htk _ _ _ _ qa ce X₂ hce hcv hcc'
  have hkeep : ∀ q : Nat, q < H.size → s₂.heap[q]? = H[q]? := fun q hq => by
    have hq' : q < U.heap.size := by rw [hUh]; exact hq
    obtain ⟨c', h1, h2, h3, h4⟩ := g6 q U.heap[q] (Array.getElem?_eq_getElem hq')
    have h5 : c'.slots = (U.heap[q]).slots := Array.ext_getElem? (fun i => h4 i List.not_mem_nil)
    have h6 : c' = U.heap[q] := by rw [h2, h5]
    have h7 : s₂.heap[q]? = some c' := h1
    rw [h7, h6, ← hUh, Array.getElem?_eq_getElem hq']
  obtain ⟨hP, hD, hw, hS, hK, hA, hZ0⟩ := B
  have hsz2 : H.size ≤ s₂.heap.size := by rw [← hUh]; exact g2
  obtain ⟨t2, a1, b1⟩ := kk qa s₂.heap ⟨fun k q h => (hP k q h).kept (hkeep _ (hP k q h).lt), hD, hw, ⟨Nat.le_trans hS.1 hsz2, fun q h1 h2 => by rw [hkeep q (Nat.lt_of_lt_of_le h1 hS.1)]; exact hS.2.1 q h1 h2, hS.2.2⟩, hK, hA, hZ0⟩ ((({ U with heap := s₂.heap, slotsUsed := s₂.slotsUsed } : State).setVm s₂.vm).setVm vm') rfl X₃
  refine ⟨t2, hstep₁ _ (fun acts => ?_), b1⟩
  rw [doInvoke_state]
  refine hsteps.trans ?_
  rw [hs₂]
  exact hcat _ a1
end XCL
