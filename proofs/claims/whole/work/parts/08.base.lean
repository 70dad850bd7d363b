/-! ===== what is the same all along: the class's constant tables, two statics of Throwable's, the String constants, two links between nest mates ===== -/
def tb_FIRST_COLUMN : Nat → Int32 := fun j => [0, 0, 4, 0, 2, 0, 1, 0].getD j 0
def tb_FIRST_ROW : Nat → Int32 := fun j => [0, 0, 0, 4, 0, 2, 0, 1].getD j 0
def tb_COLUMN_SHIFT : Nat → Int32 := fun j => [0, 3, 3, 2, 2, 1, 1, 0].getD j 0
def tb_ROW_SHIFT : Nat → Int32 := fun j => [0, 3, 3, 3, 2, 2, 1, 1].getD j 0
def xTab (n : String) (f : Nat → Int32) (A : Nat → Prop) (U : State) (H : Heap) : Prop := ∃ t : Nat, va_Z "FilterRows$Picture" n "[I" (.ref t) A U H ∧ va_T .int t 8 (fun j => .int (f j)) A U H
theorem xTab.moved {n : String} {f : Nat → Int32} {A : Nat → Prop} {u U : State} {H : Heap} (hvm : u.vm.Alike U.vm) (h : xTab n f A u H) : xTab n f A U H := by
  obtain ⟨t, h1, h2⟩ := h
  exact ⟨t, h1.moved hvm, h2.moved hvm⟩
theorem xTab.kept {n : String} {f : Nat → Int32} {A : Nat → Prop} {U : State} {H H1 : Heap} (h : xTab n f A U H) (hq : ∀ a : Nat, a < H.size → ¬ A a → H1[a]? = H[a]?) : xTab n f A U H1 := by
  obtain ⟨t, h1, h2⟩ := h
  exact ⟨t, h1.kept hq, h2.kept hq⟩
theorem xTab.narrow {n : String} {f : Nat → Int32} {A B : Nat → Prop} {U : State} {H : Heap} (h : xTab n f A U H) (hAB : ∀ q, B q → A q) : xTab n f B U H := by
  obtain ⟨t, h1, h2⟩ := h
  exact ⟨t, h1.narrow hAB, h2.narrow hAB⟩
abbrev xstrs : List (Nat × String) := [(64, "no such place or channel"), (74, "no such sample"), (93, "no such pass or what"), (104, "no such pass or kind"), (110, "no such line or byte"), (122, "no such pass, kind or way"), (124, "no such line"), (129, "no such way"), (154, "no such byte"), (159, "no such kind"), (161, "no byte"), (168, "too many bytes to be read"), (189, "no alpha channel"), (197, "no colour"), (200, "too many colours"), (204, "no such colour")]
/-- a word that rests on the tables and one cell outside of A -/
def xCl (w : Cond) (A : Nat → Prop) (U : State) (H : Heap) : Prop := ∃ (a : Nat) (cell : Cell), ¬ A a ∧ H[a]? = some cell ∧ ∀ (V : State) (args : Array Value), U.vm.Alike V.vm → V.heap[a]? = some cell → w.before args V = true
theorem xCl.moved {w : Cond} {A : Nat → Prop} {u U : State} {H : Heap} (hvm : u.vm.Alike U.vm) (h : xCl w A u H) : xCl w A U H := by
  obtain ⟨a, cell, h1, h2, h3⟩ := h
  exact ⟨a, cell, h1, h2, fun V args hV hc => h3 V args (hvm.trans hV) hc⟩
theorem xCl.kept {w : Cond} {A : Nat → Prop} {U : State} {H H1 : Heap} (h : xCl w A U H) (hq : ∀ a : Nat, a < H.size → ¬ A a → H1[a]? = H[a]?) : xCl w A U H1 := by
  obtain ⟨a, cell, h1, h2, h3⟩ := h
  exact ⟨a, cell, h1, by rw [hq a (Array.getElem?_eq_some_iff.mp h2).1 h1]; exact h2, h3⟩
theorem xCl.narrow {w : Cond} {A B : Nat → Prop} {U : State} {H : Heap} (h : xCl w A U H) (hAB : ∀ q, B q → A q) : xCl w B U H := by
  obtain ⟨a, cell, h1, h2, h3⟩ := h
  exact ⟨a, cell, fun z => h1 (hAB a z), h2, h3⟩
theorem xCl.use {w : Cond} {A : Nat → Prop} {U : State} (h : xCl w A U U.heap) (args : Array Value) : w.before args U = true := by
  obtain ⟨a, cell, h1, h2, h3⟩ := h
  exact h3 U args (Vm.Alike.refl _) h2
abbrev xdecl : List MethodName := [⟨"java/lang/RuntimeException", "<init>", "(Ljava/lang/String;)V"⟩, ⟨"java/lang/Exception", "<init>", "(Ljava/lang/String;)V"⟩, ⟨"java/lang/Throwable", "<init>", "(Ljava/lang/String;)V"⟩]
abbrev xcast : List String := ["java/lang/IndexOutOfBoundsException", "java/lang/IllegalArgumentException", "java/lang/UnsupportedOperationException", "java/lang/IllegalStateException"]
abbrev xncast : List (String × String) := [("java/lang/IllegalArgumentException", "java/lang/IndexOutOfBoundsException"), ("java/lang/IndexOutOfBoundsException", "java/lang/IllegalArgumentException"), ("java/lang/UnsupportedOperationException", "java/lang/IllegalArgumentException")]
abbrev xcls4 : List Cond := [.laysStatic "java/lang/Throwable" "UNASSIGNED_STACK" "[Ljava/lang/StackTraceElement;", .laysStatic "java/lang/Throwable" "SUPPRESSED_SENTINEL" "Ljava/util/List;", .isRef (.static "java/lang/Throwable" "UNASSIGNED_STACK" "[Ljava/lang/StackTraceElement;"), .isRef (.static "java/lang/Throwable" "SUPPRESSED_SENTINEL" "Ljava/util/List;")]
def xZt (U : State) : Prop := (∀ z ∈ xstrs, ∃ q : Nat, vk_R "FilterRows" z.1 z.2 q U) ∧ (∀ y ∈ xdecl, va_Nw (.declares y) U) ∧ (∀ X ∈ xcast, va_Nw (.castable X X) U) ∧ (∀ q ∈ xncast, va_Nc q.1 q.2 U)
def xZs (U : State) : Prop := xZt U ∧ va_Nw (.methodLinkNest "FilterRows$Picture" 71 ⟨"FilterRows", "isPass", "(I)Z"⟩ "FilterRows") U ∧ va_Nw (.methodLinkNest "FilterRows" 53 ⟨"FilterRows$Palette", "<init>", "()V"⟩ "FilterRows") U
def xZh (A : Nat → Prop) (U : State) (H : Heap) : Prop := xTab "FIRST_COLUMN" tb_FIRST_COLUMN A U H ∧ xTab "FIRST_ROW" tb_FIRST_ROW A U H ∧ xTab "COLUMN_SHIFT" tb_COLUMN_SHIFT A U H ∧ xTab "ROW_SHIFT" tb_ROW_SHIFT A U H ∧ ∀ w ∈ xcls4, xCl w A U H
def xZ (A : Nat → Prop) (U : State) (H : Heap) : Prop := xZs U ∧ xZh A U H
theorem xZh.moved {A : Nat → Prop} {u U : State} {H : Heap} (hvm : u.vm.Alike U.vm) (h : xZh A u H) : xZh A U H := ⟨h.1.moved hvm, h.2.1.moved hvm, h.2.2.1.moved hvm, h.2.2.2.1.moved hvm, fun w hw => (h.2.2.2.2 w hw).moved hvm⟩
theorem xZ.kept {A : Nat → Prop} {U : State} {H H1 : Heap} (h : xZ A U H) (hq : ∀ a : Nat, a < H.size → ¬ A a → H1[a]? = H[a]?) : xZ A U H1 := ⟨h.1, h.2.1.kept hq, h.2.2.1.kept hq, h.2.2.2.1.kept hq, h.2.2.2.2.1.kept hq, fun w hw => (h.2.2.2.2.2 w hw).kept hq⟩
theorem xZ.narrow {A B : Nat → Prop} {U : State} {H : Heap} (h : xZ A U H) (hAB : ∀ q, B q → A q) : xZ B U H := ⟨h.1, h.2.1.narrow hAB, h.2.2.1.narrow hAB, h.2.2.2.1.narrow hAB, h.2.2.2.2.1.narrow hAB, fun w hw => (h.2.2.2.2.2 w hw).narrow hAB⟩
theorem xZt.same {u U : State} (hv : u.vm = U.vm) (h : xZt u) : xZt U := by
  refine ⟨fun z hz => ?_, fun y hy => (h.2.1 y hy).same rfl hv, fun X hX => (h.2.2.1 X hX).same rfl hv, fun q hq => (h.2.2.2 q hq).moved (by rw [hv]; exact Vm.Alike.refl _)⟩
  obtain ⟨q, hq⟩ := h.1 z hz
  exact ⟨q, hq.same hv.symm⟩
theorem xZt.warm {u U : State} (hW : u.WarmedH U.vm) (h : xZt u) : xZt U := by
  refine ⟨fun z hz => ?_, fun y hy => (h.2.1 y hy).warmD hW, fun X hX => (h.2.2.1 X hX).warmC hW, fun q hq => (h.2.2.2 q hq).moved hW.alike⟩
  obtain ⟨q, hq⟩ := h.1 z hz
  exact ⟨q, hq.warm hW⟩
theorem xZ.same {A : Nat → Prop} {u U : State} {H : Heap} (hv : u.vm = U.vm) (h : xZ A u H) : xZ A U H := ⟨⟨h.1.1.same hv, h.1.2.1.same rfl hv, h.1.2.2.same rfl hv⟩, h.2.moved (by rw [hv]; exact Vm.Alike.refl _)⟩
theorem xZ.warm {A : Nat → Prop} {u U : State} {H : Heap} (hW : u.WarmedH U.vm) (h : xZ A u H) : xZ A U H := ⟨⟨h.1.1.warm hW, h.1.2.1.warmM hW, h.1.2.2.warmM hW⟩, h.2.moved hW.alike⟩
theorem xZ.FIRST_COLUMN {A : Nat → Prop} {U : State} {H : Heap} (h : xZ A U H) : xTab "FIRST_COLUMN" tb_FIRST_COLUMN A U H := h.2.1
theorem xZ.FIRST_ROW {A : Nat → Prop} {U : State} {H : Heap} (h : xZ A U H) : xTab "FIRST_ROW" tb_FIRST_ROW A U H := h.2.2.1
theorem xZ.COLUMN_SHIFT {A : Nat → Prop} {U : State} {H : Heap} (h : xZ A U H) : xTab "COLUMN_SHIFT" tb_COLUMN_SHIFT A U H := h.2.2.2.1
theorem xZ.ROW_SHIFT {A : Nat → Prop} {U : State} {H : Heap} (h : xZ A U H) : xTab "ROW_SHIFT" tb_ROW_SHIFT A U H := h.2.2.2.2.1

/-! ===== my own base: one form of contract, one form of world, rows over both ===== -/
abbrev xG : Type := va_G × ClassId × ClassId × ClassId
abbrev xT (G : xG) : List (ClassId × FieldType) := [(G.2.1, .int), (G.2.2.1, .boolean), (G.2.2.2, .long)]
/-- what a method is given: its cells, apart; the tables; the class's constant tables outside of what may change -/
def xPre (G : xG) (ws : va_W) (sz : Nat) : State → Prop := fun U => U.heap.size = sz ∧ va_P G.1 vwCl ws U.heap ∧ va_K G.1 vwCl (xT G) U ∧ va_D (fun _ => True) ws ∧ xZ (va_A ws sz) U U.heap
def xPost (G : xG) (ws : va_W) (A : Nat → Prop) (t : State) : Prop := va_P G.1 vwCl ws t.heap ∧ va_D A ws
def xQB (v0 : Option Value) (B : State → Prop) (A : Nat → Prop) : Array Value → State → Outcome → State → Prop := fun _ st oc t => oc = .returned v0 ∧ B t ∧ va_F A st t
def xQ (G : xG) (v0 : Option Value) (ws : va_W) (A : Nat → Prop) : Array Value → State → Outcome → State → Prop := xQB v0 (xPost G ws A) A
/-- of a method that writes nothing -/
def xQR (v0 : Option Value) (A : Nat → Prop) : Array Value → State → Outcome → State → Prop := xQB v0 (fun _ => True) A
/-- a method's own words: its code, then all of the tables' -/
abbrev xws (y : MethodName) (b : ByteArray) (mL : Nat) (ret : Option FieldType) : List Cond := Cond.code y b mL ret :: lw_w
theorem xgood {y : MethodName} {b : ByteArray} {mL : Nat} {ret : Option FieldType} (h : Cond.code y b mL ret ∈ lw_w) : GoodIn lw_w (xws y b mL ret) := fun w hw => by
  rcases List.mem_cons.mp hw with rfl | hw
  · exact ⟨h, good_of_word (lw_good _ h)⟩
  · exact ⟨hw, good_of_word (lw_good _ hw)⟩
/-- the method that is walked -/
def xC (p : Program) (s : State) (m : MethodId) (args : Array Value) (meth : Method) (c : Code) (own : String) (code : ByteArray) (nL : Nat) (ret : Option FieldType) : Prop :=
  p.tables.exec = Jvm.exec ∧ c.code = code ∧ meth.sig.returnType = ret ∧ c.maxLocals = nL ∧ s.vm.findClass own = some m.cls ∧ (∀ w ∈ lw_w, w.before args s = true) ∧ meth.locks = false
/-- the world of a walk at heap H since s; w: its cells may be written -/
def xW (G : xG) (w : Bool) (A : Nat → Prop) (s : State) (ws : va_W) (H : Heap) (locs : List Loc) : Prop :=
  va_P G.1 vwCl ws H ∧ va_D (fun _ => True) ws ∧ (w = true → ∀ (k : Nat) (q : Nat × va_E), ws[k]? = some q → A q.1) ∧ va_S A s.heap H locs ∧ va_K G.1 vwCl (xT G) s ∧ (∀ q, s.heap.size ≤ q → A q) ∧ xZ (fun q => A q ∨ va_A ws s.heap.size q) s s.heap
theorem xW.Z {G : xG} {w : Bool} {A : Nat → Prop} {s : State} {ws : va_W} {H : Heap} {locs : List Loc} (B : xW G w A s ws H locs) : xZ A s s.heap := xZ.narrow B.2.2.2.2.2.2 (fun _ h => Or.inl h)
theorem xfm {ws : va_W} : ∀ (l : List Nat) (w : va_W), l.map (fun i => ws[i]?) = w.map some → l.filterMap (fun i => ws[i]?) = w := by
  intro l
  induction l with
  | nil => intro w h; cases w with
    | nil => rfl
    | cons a b => simp at h
  | cons i l ih =>
    intro w h
    cases w with
    | nil => simp at h
    | cons a b =>
      simp only [List.map_cons, List.cons.injEq] at h
      rw [List.filterMap_cons, h.1]
      exact congrArg _ (ih b h.2)
theorem xW.D {G : xG} {A : Nat → Prop} {s : State} {ws : va_W} {H : Heap} {locs : List Loc} (B : xW G true A s ws H locs) : va_D A ws := ⟨B.2.1.1, B.2.2.1 rfl⟩
theorem xW.mk {G : xG} {w : Bool} {A : Nat → Prop} {s : State} {ws ws' : va_W} {H H' : Heap} {locs locs' : List Loc} (B : xW G w A s ws H locs) (hP : va_P G.1 vwCl ws' H') (hD : va_D A ws') (hS : va_S A s.heap H' locs') : xW G w A s ws' H' locs' :=
  ⟨hP, ⟨hD.1, fun _ _ _ => trivial⟩, fun _ => hD.2, hS, B.2.2.2.2.1, B.2.2.2.2.2.1, xZ.narrow B.2.2.2.2.2.2 (fun q h => Or.inl (by
    rcases h with h | ⟨k, e, h⟩ | h
    · exact h
    · exact hD.2 k _ h
    · exact B.2.2.2.2.2.1 q h))⟩
theorem xsub_in {ws ws' : va_W} {is : List Nat} (hs : is.map (fun i => ws[i]?) = ws'.map some) {k : Nat} {q : Nat × va_E} (h : ws'[k]? = some q) : ∃ j : Nat, ws[j]? = some q := by
  have h1 : (ws'.map some)[k]? = some (some q) := by rw [List.getElem?_map, h]; rfl
  rw [← hs, List.getElem?_map] at h1
  cases hi : is[k]? with
  | none => rw [hi] at h1; cases h1
  | some j => rw [hi] at h1; exact ⟨j, Option.some.inj h1⟩
theorem xW.sub {G : xG} {w : Bool} {A : Nat → Prop} {s : State} {ws ws' : va_W} {H : Heap} {locs : List Loc} (B : xW G w A s ws H locs) (is : List Nat) (hn : va_nd is = true) (hs : is.map (fun i => ws[i]?) = ws'.map some) : xW G w A s ws' H locs := by
  obtain ⟨hP, hD, hw, hS, hK, hA, hZ⟩ := B
  refine ⟨hP.sub is (xfm is ws' hs), hD.sub is hn hs, fun e => ?_, hS, hK, hA, xZ.narrow hZ (fun q h => ?_)⟩
  · exact ((show va_D A ws from ⟨hD.1, hw e⟩).sub is hn hs).2
  · rcases h with h | ⟨k, e, h⟩ | h
    · exact Or.inl h
    · obtain ⟨j, hj⟩ := xsub_in hs h
      exact Or.inr (Or.inl ⟨j, e, hj⟩)
    · exact Or.inr (Or.inr h)
theorem xPre.blind {G : xG} {ws : va_W} {sz : Nat} (av : List Value) : FrameBlind (va_Pc av (xPre G ws sz)) := fun a U g mk q => by
  obtain ⟨q0, q1, qP, qK, qD, qZ⟩ := q
  exact ⟨q0, q1, qP, va_K.moved (u := U) (U := U.calling g mk a) (Vm.Alike.refl U.vm) qK, qD, xZ.same (u := U) (U := U.calling g mk a) rfl qZ⟩
/-! ===== pure pieces of the printed functions ===== -/
def xin {α : Type} (i : Int32) (n : Nat) (k : Option α) : Option α := if i < 0 ∨ n ≤ i.toNatClampNeg then none else k
theorem xin_spec {α : Type} {i : Int32} {n : Nat} {k : Option α} {r : α} (h : xin i n k = some r) : vp_in i n ∧ k = some r := by
  unfold xin at h
  split at h
  · cases h
  · next hc => exact ⟨hc, h⟩
def xnz {α : Type} (y : Int32) (k : Option α) : Option α := if y = 0 then none else k
theorem xnz_spec {α : Type} {y : Int32} {k : Option α} {r : α} (h : xnz y k = some r) : (¬ y = 0) ∧ k = some r := by
  unfold xnz at h
  split at h
  · cases h
  · next hc => exact ⟨hc, h⟩
/-- an array of n elements, at most b, is made -/
def xnewn {α : Type} (n : Int32) (b : Nat) (k : Option α) : Option α := if n < 0 ∨ b < n.toNatClampNeg then none else k
theorem xnewn_spec {α : Type} {n : Int32} {b : Nat} {k : Option α} {r : α} (h : xnewn n b k = some r) : (¬ n < 0) ∧ n.toNatClampNeg ≤ b ∧ k = some r := by
  unfold xnewn at h
  split at h
  · cases h
  · next hc => exact ⟨fun q => hc (Or.inl q), Nat.le_of_not_lt (fun q => hc (Or.inr q)), h⟩
/-- what arraycopy asks -/
def xcp {α : Type} (sp dp n : Int32) (n0 n1 : Nat) (k : Option α) : Option α := if sp < 0 ∨ dp < 0 ∨ n < 0 ∨ n0 < sp.toNatClampNeg + n.toNatClampNeg ∨ n1 < dp.toNatClampNeg + n.toNatClampNeg then none else k
def xcpOk (sp dp n : Int32) (n0 n1 : Nat) : Prop := (¬ sp < 0) ∧ (¬ dp < 0) ∧ (¬ n < 0) ∧ sp.toNatClampNeg + n.toNatClampNeg ≤ n0 ∧ dp.toNatClampNeg + n.toNatClampNeg ≤ n1
theorem xcp_spec {α : Type} {sp dp n : Int32} {n0 n1 : Nat} {k : Option α} {r : α} (h : xcp sp dp n n0 n1 k = some r) : xcpOk sp dp n n0 n1 ∧ k = some r := by
  unfold xcp at h
  split at h
  · cases h
  · next hc =>
    refine ⟨⟨fun q => hc (Or.inl q), fun q => hc (Or.inr (Or.inl q)), fun q => hc (Or.inr (Or.inr (Or.inl q))), Nat.le_of_not_lt (fun q => hc (Or.inr (Or.inr (Or.inr (Or.inl q))))), Nat.le_of_not_lt (fun q => hc (Or.inr (Or.inr (Or.inr (Or.inr q)))))⟩, h⟩
def xb {α β : Type} (o : Option α) (k : α → Option β) : Option β := match o with
  | none => none
  | some x => k x
theorem xb_spec {α β : Type} {o : Option α} {k : α → Option β} {r : β} (h : xb o k = some r) : ∃ x, o = some x ∧ k x = some r := by
  cases o with
  | none => cases h
  | some x => exact ⟨x, rfl, h⟩
def xl {α β : Type} (x : α) (k : α → Option β) : Option β := k x
theorem xl_spec {α β : Type} {x y : α} {k : α → Option β} {r : β} (h : xl x k = some r) (e : y = x) : k y = some r := by rw [e]; exact h
/-- behind the last throw: what is left answers or has no answer -/
def xr {α : Type} (o : Option α) : Option (Nat ⊕ α) := o.map Sum.inr
theorem xr_spec {α : Type} {o : Option α} {r : α} (h : xr o = some (.inr r)) : o = some r := by
  cases o with
  | none => cases h
  | some x => cases h; rfl
theorem xr_ne {α : Type} {o : Option α} {k : Nat} (h : xr o = some (.inl k)) : False := by
  cases o with
  | none => cases h
  | some x => cases h
theorem oif_t {α : Type} {c : Prop} [Decidable c] {a b : Option α} {r : α} (h : (if c then a else b) = some r) (hc : c) : a = some r := by rw [if_pos hc] at h; exact h
theorem oif_f {α : Type} {c : Prop} [Decidable c] {a b : Option α} {r : α} (h : (if c then a else b) = some r) (hc : ¬ c) : b = some r := by rw [if_neg hc] at h; exact h

theorem xsw_0_8 {x : Int32} (h0 : ¬ x = (0 : Int32)) (h1 : ¬ x = (1 : Int32)) (h2 : ¬ x = (2 : Int32)) (h3 : ¬ x = (3 : Int32)) (h4 : ¬ x = (4 : Int32)) (h5 : ¬ x = (5 : Int32)) (h6 : ¬ x = (6 : Int32)) (h7 : ¬ x = (7 : Int32)) : x.toInt < 0 ∨ 7 < x.toInt := by
  rcases Int.lt_or_le x.toInt 0 with h | h
  · exact Or.inl h
  rcases Int.lt_or_le 7 x.toInt with hq | hq
  · exact Or.inr hq
  exfalso
  have e : x.toInt = 0 ∨ x.toInt = 1 ∨ x.toInt = 2 ∨ x.toInt = 3 ∨ x.toInt = 4 ∨ x.toInt = 5 ∨ x.toInt = 6 ∨ x.toInt = 7 := by omega
  rcases e with e | e | e | e | e | e | e | e
  · exact h0 (Int32.toInt_inj.mp (show x.toInt = (0 : Int32).toInt from e))
  · exact h1 (Int32.toInt_inj.mp (show x.toInt = (1 : Int32).toInt from e))
  · exact h2 (Int32.toInt_inj.mp (show x.toInt = (2 : Int32).toInt from e))
  · exact h3 (Int32.toInt_inj.mp (show x.toInt = (3 : Int32).toInt from e))
  · exact h4 (Int32.toInt_inj.mp (show x.toInt = (4 : Int32).toInt from e))
  · exact h5 (Int32.toInt_inj.mp (show x.toInt = (5 : Int32).toInt from e))
  · exact h6 (Int32.toInt_inj.mp (show x.toInt = (6 : Int32).toInt from e))
  · exact h7 (Int32.toInt_inj.mp (show x.toInt = (7 : Int32).toInt from e))
theorem xsw_1_4 {x : Int32} (h0 : ¬ x = (1 : Int32)) (h1 : ¬ x = (2 : Int32)) (h2 : ¬ x = (3 : Int32)) (h3 : ¬ x = (4 : Int32)) : x.toInt < 1 ∨ 4 < x.toInt := by
  rcases Int.lt_or_le x.toInt 1 with h | h
  · exact Or.inl h
  rcases Int.lt_or_le 4 x.toInt with hq | hq
  · exact Or.inr hq
  exfalso
  have e : x.toInt = 1 ∨ x.toInt = 2 ∨ x.toInt = 3 ∨ x.toInt = 4 := by omega
  rcases e with e | e | e | e
  · exact h0 (Int32.toInt_inj.mp (show x.toInt = (1 : Int32).toInt from e))
  · exact h1 (Int32.toInt_inj.mp (show x.toInt = (2 : Int32).toInt from e))
  · exact h2 (Int32.toInt_inj.mp (show x.toInt = (3 : Int32).toInt from e))
  · exact h3 (Int32.toInt_inj.mp (show x.toInt = (4 : Int32).toInt from e))
theorem xsw_0_4 {x : Int32} (h0 : ¬ x = (0 : Int32)) (h1 : ¬ x = (1 : Int32)) (h2 : ¬ x = (2 : Int32)) (h3 : ¬ x = (3 : Int32)) : x.toInt < 0 ∨ 3 < x.toInt := by
  rcases Int.lt_or_le x.toInt 0 with h | h
  · exact Or.inl h
  rcases Int.lt_or_le 3 x.toInt with hq | hq
  · exact Or.inr hq
  exfalso
  have e : x.toInt = 0 ∨ x.toInt = 1 ∨ x.toInt = 2 ∨ x.toInt = 3 := by omega
  rcases e with e | e | e | e
  · exact h0 (Int32.toInt_inj.mp (show x.toInt = (0 : Int32).toInt from e))
  · exact h1 (Int32.toInt_inj.mp (show x.toInt = (1 : Int32).toInt from e))
  · exact h2 (Int32.toInt_inj.mp (show x.toInt = (2 : Int32).toInt from e))
  · exact h3 (Int32.toInt_inj.mp (show x.toInt = (3 : Int32).toInt from e))
theorem xsw_0_17 {x : Int32} (h0 : ¬ x = (0 : Int32)) (h1 : ¬ x = (1 : Int32)) (h2 : ¬ x = (2 : Int32)) (h3 : ¬ x = (3 : Int32)) (h4 : ¬ x = (4 : Int32)) (h5 : ¬ x = (5 : Int32)) (h6 : ¬ x = (6 : Int32)) (h7 : ¬ x = (7 : Int32)) (h8 : ¬ x = (8 : Int32)) (h9 : ¬ x = (9 : Int32)) (h10 : ¬ x = (10 : Int32)) (h11 : ¬ x = (11 : Int32)) (h12 : ¬ x = (12 : Int32)) (h13 : ¬ x = (13 : Int32)) (h14 : ¬ x = (14 : Int32)) (h15 : ¬ x = (15 : Int32)) (h16 : ¬ x = (16 : Int32)) : x.toInt < 0 ∨ 16 < x.toInt := by
  rcases Int.lt_or_le x.toInt 0 with h | h
  · exact Or.inl h
  rcases Int.lt_or_le 16 x.toInt with hq | hq
  · exact Or.inr hq
  exfalso
  have e : x.toInt = 0 ∨ x.toInt = 1 ∨ x.toInt = 2 ∨ x.toInt = 3 ∨ x.toInt = 4 ∨ x.toInt = 5 ∨ x.toInt = 6 ∨ x.toInt = 7 ∨ x.toInt = 8 ∨ x.toInt = 9 ∨ x.toInt = 10 ∨ x.toInt = 11 ∨ x.toInt = 12 ∨ x.toInt = 13 ∨ x.toInt = 14 ∨ x.toInt = 15 ∨ x.toInt = 16 := by omega
  rcases e with e | e | e | e | e | e | e | e | e | e | e | e | e | e | e | e | e
  · exact h0 (Int32.toInt_inj.mp (show x.toInt = (0 : Int32).toInt from e))
  · exact h1 (Int32.toInt_inj.mp (show x.toInt = (1 : Int32).toInt from e))
  · exact h2 (Int32.toInt_inj.mp (show x.toInt = (2 : Int32).toInt from e))
  · exact h3 (Int32.toInt_inj.mp (show x.toInt = (3 : Int32).toInt from e))
  · exact h4 (Int32.toInt_inj.mp (show x.toInt = (4 : Int32).toInt from e))
  · exact h5 (Int32.toInt_inj.mp (show x.toInt = (5 : Int32).toInt from e))
  · exact h6 (Int32.toInt_inj.mp (show x.toInt = (6 : Int32).toInt from e))
  · exact h7 (Int32.toInt_inj.mp (show x.toInt = (7 : Int32).toInt from e))
  · exact h8 (Int32.toInt_inj.mp (show x.toInt = (8 : Int32).toInt from e))
  · exact h9 (Int32.toInt_inj.mp (show x.toInt = (9 : Int32).toInt from e))
  · exact h10 (Int32.toInt_inj.mp (show x.toInt = (10 : Int32).toInt from e))
  · exact h11 (Int32.toInt_inj.mp (show x.toInt = (11 : Int32).toInt from e))
  · exact h12 (Int32.toInt_inj.mp (show x.toInt = (12 : Int32).toInt from e))
  · exact h13 (Int32.toInt_inj.mp (show x.toInt = (13 : Int32).toInt from e))
  · exact h14 (Int32.toInt_inj.mp (show x.toInt = (14 : Int32).toInt from e))
  · exact h15 (Int32.toInt_inj.mp (show x.toInt = (15 : Int32).toInt from e))
  · exact h16 (Int32.toInt_inj.mp (show x.toInt = (16 : Int32).toInt from e))
section X
variable {p : Program} {l : Launch} {e : Env} {R : Room} {s : State} {m : MethodId} {args : Array Value} {below : List Frame} {meth : Method} {c : Code} {H : Heap} {locs : List Loc} {cells slots : Nat} {Q : State → Prop}
variable {own : String} {code : ByteArray} {nL : Nat} {ret : Option FieldType} {G : xG} {w : Bool} {A : Nat → Prop} {ws ws' : va_W} {pc a : Nat} {ls : Array Slot} {rest : List Value}
theorem xget (C0 : xC p s m args meth c own code nL ret) (B : xW G w A s ws H locs) {C : String} {T : u_T} {N ci index : Nat} (hin : ∀ w ∈ u_ws C T N, w ∈ lw_w) (q0 : Nat) {fs : List Value} (he : ws[q0]? = some (a, .inr (ci, fs))) (hc : vwCl[ci]? = some (C, T, N)) (k : Nat) (hk : k < N) (hlink : Cond.fieldLink own index (T k).1 (T k).2.1 (T k).2.2.1 ∈ lw_w) {v : Value} (hv : fs[k]? = some v) (hdg : decode code pc = .ok (.getfield index, 3))
    (kk : W p l e R s m args below meth c H locs cells slots Q (F0 m (pc + 3) ls (v :: rest))) : W p l e R s m args below meth c H locs cells slots Q (F0 m pc ls (.ref a :: rest)) := by
  obtain ⟨hx, hb, hr, hml, hown, hts, hlk⟩ := C0
  exact va_get hx hb hts hin hown B.2.2.2.2.1 B.1 q0 he hc k hk (hts _ hlink) (fun _ h => h) hv hdg kk
theorem xgetN (C0 : xC p s m args meth c own code nL ret) (B : xW G w A s ws H locs) {host : String} {C : String} {T : u_T} {N ci index : Nat} (hin : ∀ w ∈ u_ws C T N, w ∈ lw_w) (q0 : Nat) {fs : List Value} (he : ws[q0]? = some (a, .inr (ci, fs))) (hc : vwCl[ci]? = some (C, T, N)) (k : Nat) (hk : k < N) (hlink : Cond.fieldLinkNest own index (T k).1 (T k).2.1 (T k).2.2.1 host ∈ lw_w) {v : Value} (hv : fs[k]? = some v) (hdg : decode code pc = .ok (.getfield index, 3))
    (kk : W p l e R s m args below meth c H locs cells slots Q (F0 m (pc + 3) ls (v :: rest))) : W p l e R s m args below meth c H locs cells slots Q (F0 m pc ls (.ref a :: rest)) := by
  obtain ⟨hx, hb, hr, hml, hown, hts, hlk⟩ := C0
  exact va_getN hx hb hts hin hown B.2.2.2.2.1 B.1 q0 he hc k hk (hts _ hlink) (fun _ h => h) hv hdg kk
theorem xput (C0 : xC p s m args meth c own code nL ret) (B : xW G true A s ws H locs) {C : String} {T : u_T} {N ci index : Nat} (hin : ∀ w ∈ u_ws C T N, w ∈ lw_w) (ty0 : Nat → FieldType) (hty : ∀ k, k < N → parseFieldDescriptor (T k).2.2.1 = some (ty0 k)) (hnm : ∀ a, a < N → ∀ b, b < N → a ≠ b → (T a).2.1 ≠ (T b).2.1) (q0 : Nat) {fs : List Value} (he : ws[q0]? = some (a, .inr (ci, fs))) (hc : vwCl[ci]? = some (C, T, N)) (k : Nat) (hk : k < N) (hlink : Cond.fieldLink own index (T k).1 (T k).2.1 (T k).2.2.1 ∈ lw_w) (hfin : (T k).2.2.2 = false) {v : Value} (hn : narrow (ty0 k) v = v) (hfit : fits (ty0 k) v = true) (hl : k < fs.length) (hw : ws.set q0 (a, .inr (ci, fs.set k v)) = ws') (hdg : decode code pc = .ok (.putfield index, 3))
    (kk : ∀ (H : Heap) (locs : List Loc), xW G true A s ws' H locs → W p l e R s m args below meth c H locs cells slots Q (F0 m (pc + 3) ls rest)) : W p l e R s m args below meth c H locs cells slots Q (F0 m pc ls (v :: .ref a :: rest)) := by
  obtain ⟨hx, hb, hr, hml, hown, hts, hlk⟩ := C0
  subst hw
  exact va_put (ty := ty0 k) hx hb hts hin ty0 hty hnm hown B.2.2.2.2.1 B.1 B.D B.2.2.2.1 q0 he hc k hk (hts _ hlink) (fun _ h => h) hfin (hty k hk) hn hfit hl hdg (fun H1 locs1 hP hD hS => kk H1 locs1 (B.mk hP hD hS))
theorem xputF (C0 : xC p s m args meth c own code nL ret) (B : xW G true A s ws H locs) {C : String} {T : u_T} {N ci index : Nat} (hin : ∀ w ∈ u_ws C T N, w ∈ lw_w) (ty0 : Nat → FieldType) (hty : ∀ k, k < N → parseFieldDescriptor (T k).2.2.1 = some (ty0 k)) (hnm : ∀ a, a < N → ∀ b, b < N → a ≠ b → (T a).2.1 ≠ (T b).2.1) (q0 : Nat) {fs : List Value} (he : ws[q0]? = some (a, .inr (ci, fs))) (hc : vwCl[ci]? = some (C, T, N)) (k : Nat) (hk : k < N) (hlink : Cond.fieldLink own index (T k).1 (T k).2.1 (T k).2.2.1 ∈ lw_w) (hfin : (T k).2.2.2 = true) (hin2 : meth.name = "<init>") (hdecl : (T k).1 = own) {v : Value} (hn : narrow (ty0 k) v = v) (hfit : fits (ty0 k) v = true) (hl : k < fs.length) (hw : ws.set q0 (a, .inr (ci, fs.set k v)) = ws') (hdg : decode code pc = .ok (.putfield index, 3))
    (kk : ∀ (H : Heap) (locs : List Loc), xW G true A s ws' H locs → W p l e R s m args below meth c H locs cells slots Q (F0 m (pc + 3) ls rest)) : W p l e R s m args below meth c H locs cells slots Q (F0 m pc ls (v :: .ref a :: rest)) := by
  obtain ⟨hx, hb, hr, hml, hown, hts, hlk⟩ := C0
  subst hw
  exact va_putF (ty := ty0 k) hx hb hts hin ty0 hty hnm hown B.2.2.2.2.1 B.1 B.D B.2.2.2.1 q0 he hc k hk (hts _ hlink) (fun _ h => h) hfin hin2 hdecl (hty k hk) hn hfit hl hdg (fun H1 locs1 hP hD hS => kk H1 locs1 (B.mk hP hD hS))
theorem xiald (C0 : xC p s m args meth c own code nL ret) (B : xW G w A s ws H locs) (q0 : Nat) {n : Nat} {f : Nat → Int32} (ha : ws[q0]? = some (a, .inl (G.2.1, n, .inl f))) {i : Int32} (hin : vp_in i n) (hdg : decode code pc = .ok (.iaload, 1))
    (kk : W p l e R s m args below meth c H locs cells slots Q (F0 m (pc + 1) ls (.int (f i.toNatClampNeg) :: rest))) : W p l e R s m args below meth c H locs cells slots Q (F0 m pc ls (.int i :: .ref a :: rest)) := by
  obtain ⟨hx, hb, hr, hml, hown, hts, hlk⟩ := C0
  exact va_iald hx hb B.2.2.2.2.1 B.1 q0 0 ha rfl hin hdg kk
theorem xzald (C0 : xC p s m args meth c own code nL ret) (B : xW G w A s ws H locs) (q0 : Nat) {n : Nat} {f : Nat → Int32} (ha : ws[q0]? = some (a, .inl (G.2.2.1, n, .inl f))) {i : Int32} (hin : vp_in i n) (hdg : decode code pc = .ok (.baload, 1))
    (kk : W p l e R s m args below meth c H locs cells slots Q (F0 m (pc + 1) ls (.int (f i.toNatClampNeg) :: rest))) : W p l e R s m args below meth c H locs cells slots Q (F0 m pc ls (.int i :: .ref a :: rest)) := by
  obtain ⟨hx, hb, hr, hml, hown, hts, hlk⟩ := C0
  exact va_zald hx hb B.2.2.2.2.1 B.1 q0 1 ha rfl hin hdg kk
theorem xlald (C0 : xC p s m args meth c own code nL ret) (B : xW G w A s ws H locs) (q0 : Nat) {n : Nat} {f : Nat → Int64} (ha : ws[q0]? = some (a, .inl (G.2.2.2, n, .inr (.inl f)))) {i : Int32} (hin : vp_in i n) (hdg : decode code pc = .ok (.laload, 1))
    (kk : W p l e R s m args below meth c H locs cells slots Q (F0 m (pc + 1) ls (.long (f i.toNatClampNeg) :: rest))) : W p l e R s m args below meth c H locs cells slots Q (F0 m pc ls (.int i :: .ref a :: rest)) := by
  obtain ⟨hx, hb, hr, hml, hown, hts, hlk⟩ := C0
  exact va_lald hx hb B.2.2.2.2.1 B.1 q0 2 ha rfl hin hdg kk
theorem xiast (C0 : xC p s m args meth c own code nL ret) (B : xW G true A s ws H locs) (q0 : Nat) {n : Nat} {f : Nat → Int32} (ha : ws[q0]? = some (a, .inl (G.2.1, n, .inl f))) {i x : Int32} (hin : vp_in i n) (hw : ws.set q0 (a, .inl (G.2.1, n, .inl (upd f i.toNatClampNeg x))) = ws') (hdg : decode code pc = .ok (.iastore, 1))
    (kk : ∀ (H : Heap) (locs : List Loc), xW G true A s ws' H locs → W p l e R s m args below meth c H locs cells slots Q (F0 m (pc + 1) ls rest)) : W p l e R s m args below meth c H locs cells slots Q (F0 m pc ls (.int x :: .int i :: .ref a :: rest)) := by
  obtain ⟨hx, hb, hr, hml, hown, hts, hlk⟩ := C0
  subst hw
  exact va_iast hx hb B.2.2.2.2.1 B.1 B.D B.2.2.2.1 q0 0 ha rfl hin hdg (fun H1 locs1 hP hD hS => kk H1 locs1 (B.mk hP hD hS))
theorem xlast (C0 : xC p s m args meth c own code nL ret) (B : xW G true A s ws H locs) (q0 : Nat) {n : Nat} {f : Nat → Int64} (ha : ws[q0]? = some (a, .inl (G.2.2.2, n, .inr (.inl f)))) {i : Int32} {x : Int64} (hin : vp_in i n) (hw : ws.set q0 (a, .inl (G.2.2.2, n, .inr (.inl (vp_updL f i.toNatClampNeg x)))) = ws') (hdg : decode code pc = .ok (.lastore, 1))
    (kk : ∀ (H : Heap) (locs : List Loc), xW G true A s ws' H locs → W p l e R s m args below meth c H locs cells slots Q (F0 m (pc + 1) ls rest)) : W p l e R s m args below meth c H locs cells slots Q (F0 m pc ls (.long x :: .int i :: .ref a :: rest)) := by
  obtain ⟨hx, hb, hr, hml, hown, hts, hlk⟩ := C0
  subst hw
  exact va_last hx hb B.2.2.2.2.1 B.1 B.D B.2.2.2.1 q0 2 ha rfl hin hdg (fun H1 locs1 hP hD hS => kk H1 locs1 (B.mk hP hD hS))
theorem xzast (C0 : xC p s m args meth c own code nL ret) (B : xW G true A s ws H locs) (q0 : Nat) {n : Nat} {f : Nat → Int32} (ha : ws[q0]? = some (a, .inl (G.2.2.1, n, .inl f))) {i x : Int32} (hx1 : vp_nar .boolean x = x) (hin : vp_in i n) (hw : ws.set q0 (a, .inl (G.2.2.1, n, .inl (upd f i.toNatClampNeg x))) = ws') (hdg : decode code pc = .ok (.bastore, 1))
    (kk : ∀ (H : Heap) (locs : List Loc), xW G true A s ws' H locs → W p l e R s m args below meth c H locs cells slots Q (F0 m (pc + 1) ls rest)) : W p l e R s m args below meth c H locs cells slots Q (F0 m pc ls (.int x :: .int i :: .ref a :: rest)) := by
  obtain ⟨hx, hb, hr, hml, hown, hts, hlk⟩ := C0
  subst hw
  exact va_zast hx hb B.2.2.2.2.1 B.1 B.D B.2.2.2.1 q0 1 ha rfl hin hdg (fun H1 locs1 hP hD hS => kk H1 locs1 (by rw [hx1] at hP hD; exact B.mk hP hD hS))
theorem xalen (C0 : xC p s m args meth c own code nL ret) (B : xW G w A s ws H locs) (q0 t0 : Nat) {cA : ClassId} {x : vp_A} (ha : ws[q0]? = some (a, .inl (cA, x))) {ty : FieldType} (ht : (xT G)[t0]? = some (cA, ty)) (hdg : decode code pc = .ok (.arraylength, 1))
    (kk : W p l e R s m args below meth c H locs cells slots Q (F0 m (pc + 1) ls (.int (nI x.1) :: rest))) : W p l e R s m args below meth c H locs cells slots Q (F0 m pc ls (.ref a :: rest)) := by
  obtain ⟨hx, hb, hr, hml, hown, hts, hlk⟩ := C0
  exact va_alen hx hb B.2.2.2.2.1 B.1 q0 t0 ha ht rfl hdg kk
theorem xcopyi (C0 : xC p s m args meth c own code nL ret) (B : xW G true A s ws H locs) (hml9 : c.maxLocals = ls.size) {index : Nat} (w1 : Cond.methodLink own index arraycopyName ∈ lw_w) (w2 : Cond.native arraycopyName ∈ lw_w) (w3 : Cond.static arraycopyName ∈ lw_w) (w4 : Cond.initialized "java/lang/System" ∈ lw_w) (q0 q1 : Nat) {a0 : Nat} {n0 n1 : Nat} {f g : Nat → Int32} (ha0 : ws[q0]? = some (a0, .inl (G.2.1, n0, .inl f))) (ha1 : ws[q1]? = some (a, .inl (G.2.1, n1, .inl g))) {sp dp n : Int32} (hok : xcpOk sp dp n n0 n1) (hw : ws.set q1 (a, .inl (G.2.1, n1, .inl (va_cpy f g sp.toNatClampNeg dp.toNatClampNeg n.toNatClampNeg))) = ws')
    (hframes : 1 ≤ R.frames) (hlocals : (rest.map fun v => v.category).sum + (nativeFrameWords "java/lang/System" "arraycopy" 5 + 11) ≤ R.locals) (hdg : decode code pc = .ok (.invokestatic index, 3))
    (kk : ∀ (H : Heap) (locs : List Loc), xW G true A s ws' H locs → W p l e R s m args below meth c H locs cells slots Q (F0 m (pc + 3) ls rest)) : W p l e R s m args below meth c H locs cells slots Q (F0 m pc ls (.int n :: .int dp :: .ref a :: .int sp :: .ref a0 :: rest)) := by
  obtain ⟨hx, hb, hr, hml, hown, hts, hlk⟩ := C0
  subst hw
  obtain ⟨h1, h2, h3, h4, h5⟩ := hok
  exact va_copyi hx hb hml9 hown (hts _ w1) (hts _ w2) (hts _ w3) (hts _ w4) B.2.2.2.2.1 B.1 B.D B.2.2.2.1 q0 q1 0 0 ha0 ha1 rfl rfl rfl h1 h2 h3 h4 h5 (fun _ _ => rfl) hframes hlocals hdg (fun H1 locs1 hP hD hS => kk H1 locs1 (B.mk hP hD hS))
theorem xnew {ws' : Nat → va_W} (C0 : xC p s m args meth c own code nL ret) (B : xW G true A s ws H locs) {C : String} {T : u_T} {N ci index : Nat} (hin : ∀ w ∈ u_ws C T N, w ∈ lw_w) (ty : Nat → FieldType) (hty : ∀ k, k < N → parseFieldDescriptor (T k).2.2.1 = some (ty k)) (hcl : Cond.classLink own index C ∈ lw_w) (hinst : Cond.instantiable C N ∈ lw_w) (hini : Cond.initialized C ∈ lw_w) (hc : vwCl[ci]? = some (C, T, N)) {fs : List Value} (hfs : ∀ j, j < N → defaultValue (ty j) = vp_V fs j) (hcells : cells + 1 ≤ R.cells) (hslots : slots + N ≤ R.slots) (hw : ∀ q, ws ++ [(q, .inr (ci, fs))] = ws' q) (hdg : decode code pc = .ok (.new index, 3))
    (kk : ∀ (q : Nat) (H : Heap) (locs : List Loc), xW G true A s (ws' q) H locs → W p l e R s m args below meth c H locs (cells + 1) (slots + N) Q (F0 m (pc + 3) ls (.ref q :: rest))) : W p l e R s m args below meth c H locs cells slots Q (F0 m pc ls rest) := by
  obtain ⟨hx, hb, hr, hml, hown, hts, hlk⟩ := C0
  exact va_new hx hb hts hin ty hty hown (hts _ hcl) (hts _ hinst) (hts _ hini) B.2.2.2.2.1 B.1 B.D B.2.2.2.1 B.2.2.2.2.2.1 hc hfs hcells hslots hdg (fun q H1 hP hD hS => kk q H1 locs (by rw [← hw q]; exact B.mk hP hD hS))
theorem xnew_int {ws' : Nat → va_W} (C0 : xC p s m args meth c own code nL ret) (B : xW G true A s ws H locs) {n : Int32} {bnd : Nat} (hn : ¬ n < 0) (hb1 : n.toNatClampNeg ≤ bnd) (hwd : Cond.arrayClass .int ∈ lw_w) (hcells : cells + 1 ≤ R.cells) (hslots : slots + bnd ≤ R.slots) (hbb : bnd ≤ 1000000) (hw : ∀ q, ws ++ [(q, .inl (G.2.1, n.toNatClampNeg, .inl (fun _ => 0)))] = ws' q) (hdg : decode code pc = .ok (.newarray .int, 2))
    (kk : ∀ (q : Nat) (H : Heap) (locs : List Loc), xW G true A s (ws' q) H locs → W p l e R s m args below meth c H locs (cells + 1) (slots + bnd) Q (F0 m (pc + 2) ls (.ref q :: rest))) : W p l e R s m args below meth c H locs cells slots Q (F0 m pc ls (.int n :: rest)) := by
  obtain ⟨hx, hb, hr, hml, hown, hts, hlk⟩ := C0
  refine va_newa (atype := .int) (ty := .int) (N' := n.toNatClampNeg) (a0 := (n.toNatClampNeg, .inl (fun _ => 0))) hx hb (hts _ hwd) rfl B.2.2.2.2.1 B.1 B.D B.2.2.2.1 B.2.2.2.2.2.1 (fun cA => rfl) hn rfl (by show n.toNatClampNeg * 4 ≤ 536870912; omega) hcells (by omega) hdg (fun q cA H1 hK hP hD hS => ?_)
  have e1 : s.vm.findClass ("[" ++ (FieldType.int).toString) = some cA := (hK.2 3 (cA, .int) rfl).2
  have e2 : s.vm.findClass ("[" ++ (FieldType.int).toString) = some G.2.1 := (B.2.2.2.2.1.2 0 (G.2.1, .int) rfl).2
  cases Option.some.inj (e1.symm.trans e2)
  exact W.widen (Nat.le_refl _) (by omega) (kk q H1 locs (by rw [← hw q]; exact B.mk hP hD hS))
theorem xnew_boolean {ws' : Nat → va_W} (C0 : xC p s m args meth c own code nL ret) (B : xW G true A s ws H locs) {n : Int32} {bnd : Nat} (hn : ¬ n < 0) (hb1 : n.toNatClampNeg ≤ bnd) (hwd : Cond.arrayClass .boolean ∈ lw_w) (hcells : cells + 1 ≤ R.cells) (hslots : slots + bnd ≤ R.slots) (hbb : bnd ≤ 1000000) (hw : ∀ q, ws ++ [(q, .inl (G.2.2.1, n.toNatClampNeg, .inl (fun _ => 0)))] = ws' q) (hdg : decode code pc = .ok (.newarray .boolean, 2))
    (kk : ∀ (q : Nat) (H : Heap) (locs : List Loc), xW G true A s (ws' q) H locs → W p l e R s m args below meth c H locs (cells + 1) (slots + bnd) Q (F0 m (pc + 2) ls (.ref q :: rest))) : W p l e R s m args below meth c H locs cells slots Q (F0 m pc ls (.int n :: rest)) := by
  obtain ⟨hx, hb, hr, hml, hown, hts, hlk⟩ := C0
  refine va_newa (atype := .boolean) (ty := .boolean) (N' := n.toNatClampNeg) (a0 := (n.toNatClampNeg, .inl (fun _ => 0))) hx hb (hts _ hwd) rfl B.2.2.2.2.1 B.1 B.D B.2.2.2.1 B.2.2.2.2.2.1 (fun cA => rfl) hn rfl (by show n.toNatClampNeg * 1 ≤ 536870912; omega) hcells (by omega) hdg (fun q cA H1 hK hP hD hS => ?_)
  have e1 : s.vm.findClass ("[" ++ (FieldType.boolean).toString) = some cA := (hK.2 3 (cA, .boolean) rfl).2
  have e2 : s.vm.findClass ("[" ++ (FieldType.boolean).toString) = some G.2.2.1 := (B.2.2.2.2.1.2 1 (G.2.2.1, .boolean) rfl).2
  cases Option.some.inj (e1.symm.trans e2)
  exact W.widen (Nat.le_refl _) (by omega) (kk q H1 locs (by rw [← hw q]; exact B.mk hP hD hS))
theorem xnew_long {ws' : Nat → va_W} (C0 : xC p s m args meth c own code nL ret) (B : xW G true A s ws H locs) {n : Int32} {bnd : Nat} (hn : ¬ n < 0) (hb1 : n.toNatClampNeg ≤ bnd) (hwd : Cond.arrayClass .long ∈ lw_w) (hcells : cells + 1 ≤ R.cells) (hslots : slots + bnd ≤ R.slots) (hbb : bnd ≤ 1000000) (hw : ∀ q, ws ++ [(q, .inl (G.2.2.2, n.toNatClampNeg, .inr (.inl (fun _ => 0))))] = ws' q) (hdg : decode code pc = .ok (.newarray .long, 2))
    (kk : ∀ (q : Nat) (H : Heap) (locs : List Loc), xW G true A s (ws' q) H locs → W p l e R s m args below meth c H locs (cells + 1) (slots + bnd) Q (F0 m (pc + 2) ls (.ref q :: rest))) : W p l e R s m args below meth c H locs cells slots Q (F0 m pc ls (.int n :: rest)) := by
  obtain ⟨hx, hb, hr, hml, hown, hts, hlk⟩ := C0
  refine va_newa (atype := .long) (ty := .long) (N' := n.toNatClampNeg) (a0 := (n.toNatClampNeg, .inr (.inl (fun _ => 0)))) hx hb (hts _ hwd) rfl B.2.2.2.2.1 B.1 B.D B.2.2.2.1 B.2.2.2.2.2.1 (fun cA => rfl) hn rfl (by show n.toNatClampNeg * 8 ≤ 536870912; omega) hcells (by omega) hdg (fun q cA H1 hK hP hD hS => ?_)
  have e1 : s.vm.findClass ("[" ++ (FieldType.long).toString) = some cA := (hK.2 3 (cA, .long) rfl).2
  have e2 : s.vm.findClass ("[" ++ (FieldType.long).toString) = some G.2.2.2 := (B.2.2.2.2.1.2 2 (G.2.2.2, .long) rfl).2
  cases Option.some.inj (e1.symm.trans e2)
  exact W.widen (Nat.le_refl _) (by omega) (kk q H1 locs (by rw [← hw q]; exact B.mk hP hD hS))
theorem xreti (C0 : xC p s m args meth c own code nL (some .int)) (B : xW G true A s ws H locs) (is : List Nat) (hn : va_nd is = true) (hs : is.map (fun i => ws[i]?) = ws'.map some) {v : Int32} (hdg : decode code pc = .ok (.ireturn, 1)) :
    W p l e R s m args below meth c H locs cells slots (MQ below (xQ G (some (.int v)) ws' A) args s cells slots A) (F0 m pc ls [.int v]) := by
  obtain ⟨hx, hb, hr, hml, hown, hts, hlk⟩ := C0
  have B2 := B.sub is hn hs
  exact W.iret hx hb hr (fun t ht hW => ⟨rfl, ⟨by rw [ht]; exact B2.1, B2.D⟩, B.2.2.2.1.F ht⟩) B.2.2.2.1.2.2 hdg hlk
theorem xretiR (C0 : xC p s m args meth c own code nL (some .int)) (B : xW G w A s ws H locs) {v : Int32} (hdg : decode code pc = .ok (.ireturn, 1)) :
    W p l e R s m args below meth c H locs cells slots (MQ below (xQR (some (.int v)) A) args s cells slots A) (F0 m pc ls [.int v]) := by
  obtain ⟨hx, hb, hr, hml, hown, hts, hlk⟩ := C0
  exact W.iret hx hb hr (fun t ht hW => ⟨rfl, trivial, B.2.2.2.1.F ht⟩) B.2.2.2.1.2.2 hdg hlk
theorem xretz (C0 : xC p s m args meth c own code nL (some .boolean)) (B : xW G true A s ws H locs) (is : List Nat) (hn : va_nd is = true) (hs : is.map (fun i => ws[i]?) = ws'.map some) {v : Int32} (hv : narrow .boolean (.int v) = .int v) (hdg : decode code pc = .ok (.ireturn, 1)) :
    W p l e R s m args below meth c H locs cells slots (MQ below (xQ G (some (.int v)) ws' A) args s cells slots A) (F0 m pc ls [.int v]) := by
  obtain ⟨hx, hb, hr, hml, hown, hts, hlk⟩ := C0
  have B2 := B.sub is hn hs
  exact W.zret hx hb hr hv (fun t ht hW => ⟨rfl, ⟨by rw [ht]; exact B2.1, B2.D⟩, B.2.2.2.1.F ht⟩) B.2.2.2.1.2.2 hdg hlk
theorem xretzR (C0 : xC p s m args meth c own code nL (some .boolean)) (B : xW G w A s ws H locs) {v : Int32} (hv : narrow .boolean (.int v) = .int v) (hdg : decode code pc = .ok (.ireturn, 1)) :
    W p l e R s m args below meth c H locs cells slots (MQ below (xQR (some (.int v)) A) args s cells slots A) (F0 m pc ls [.int v]) := by
  obtain ⟨hx, hb, hr, hml, hown, hts, hlk⟩ := C0
  exact W.zret hx hb hr hv (fun t ht hW => ⟨rfl, trivial, B.2.2.2.1.F ht⟩) B.2.2.2.1.2.2 hdg hlk
theorem xretv (C0 : xC p s m args meth c own code nL none) (B : xW G true A s ws H locs) (is : List Nat) (hn : va_nd is = true) (hs : is.map (fun i => ws[i]?) = ws'.map some) (hdg : decode code pc = .ok (.return_, 1)) :
    W p l e R s m args below meth c H locs cells slots (MQ below (xQ G none ws' A) args s cells slots A) (F0 m pc ls []) := by
  obtain ⟨hx, hb, hr, hml, hown, hts, hlk⟩ := C0
  have B2 := B.sub is hn hs
  exact W.vret hx hb hr (fun t ht hW => ⟨rfl, ⟨by rw [ht]; exact B2.1, B2.D⟩, B.2.2.2.1.F ht⟩) B.2.2.2.1.2.2 hdg hlk
theorem xretvR (C0 : xC p s m args meth c own code nL none) (B : xW G w A s ws H locs) (hdg : decode code pc = .ok (.return_, 1)) :
    W p l e R s m args below meth c H locs cells slots (MQ below (xQR none A) args s cells slots A) (F0 m pc ls []) := by
  obtain ⟨hx, hb, hr, hml, hown, hts, hlk⟩ := C0
  exact W.vret hx hb hr (fun t ht hW => ⟨rfl, trivial, B.2.2.2.1.F ht⟩) B.2.2.2.1.2.2 hdg hlk
/-- the end of a constructor: B0 is what is said of its cells, the new ones with their addresses -/
theorem xretB {B0 : State → Prop} (C0 : xC p s m args meth c own code nL none) (B : xW G true A s ws H locs) (is : List Nat) (hn : va_nd is = true) (hs : is.map (fun i => ws[i]?) = ws'.map some) (hB : ∀ t, xPost G ws' A t → B0 t) (hdg : decode code pc = .ok (.return_, 1)) :
    W p l e R s m args below meth c H locs cells slots (MQ below (xQB none B0 A) args s cells slots A) (F0 m pc ls []) := by
  obtain ⟨hx, hb, hr, hml, hown, hts, hlk⟩ := C0
  have B2 := B.sub is hn hs
  exact W.vret hx hb hr (fun t ht hW => ⟨rfl, hB t ⟨by rw [ht]; exact B2.1, B2.D⟩, B.2.2.2.1.F ht⟩) B.2.2.2.1.2.2 hdg hlk
theorem xMetB {y : MethodName} {rm : Room} {av : List Value} {sz : Nat} {v0 : Option Value} {B0 : (Nat → Prop) → State → Prop} {mc ms : Nat} (hy : plainName y.cls = true) (hlen : (lg_sl av).length ≤ nL)
    (body : ∀ (p : Program) (e : Env) (s : State) (m : MethodId) (below : List Frame) (meth : Method) (c : Code) (ls : Array Slot) (A : Nat → Prop) (H : Heap) (locs : List Loc), xC p s m av.toArray meth c y.cls code nL ret → meth.name = y.name → xW G true A s ws H locs → lv_has ls nL (lv_args 0 av) →
      W p l e rm s m av.toArray below meth c H locs 0 0 (MQ below (xQB v0 (B0 A) A) av.toArray s mc ms A) (F0 m 0 ls [])) : Met l y (xws y code nL ret) rm (va_Pc av (xPre G ws sz)) (xQB v0 (B0 (va_A ws sz)) (va_A ws sz)) mc ms (va_A ws sz) := by
  refine Met.ofW (cc := code) (maxL := nL) (ret := ret) hy rfl ?_
  intro p e s m args below meth c s₁ B hml hv
  obtain ⟨rfl, hsz, hP, hK, hD, hZ⟩ := hv
  have hts := atoms_spec (ws := xws y code nL ret) B.pre
  rw [lg_entry_eq]
  exact body p e s m below meth c _ (va_A ws sz) s.heap [] ⟨B.exec, B.bytes, B.returns, hml, findClass_of_methodNamed B.named, fun w hw => hts w (List.mem_cons_of_mem _ hw), B.notSynchronized⟩ (name_of_methodNamed B.named B.method).1
    ⟨hP, hD, fun _ _ _ hk => va_A.in hk, va_S.rf, hK, fun q h => Or.inr (by rw [← hsz]; exact h), xZ.narrow hZ (fun q h => by
      rcases h with h | h
      · exact h
      · rw [hsz] at h; exact h)⟩ (lv_entry av hlen)
theorem xMetR {y : MethodName} {rm : Room} {av : List Value} {sz : Nat} {v0 : Option Value} {mc ms : Nat} (hy : plainName y.cls = true) (hlen : (lg_sl av).length ≤ nL)
    (body : ∀ (p : Program) (e : Env) (s : State) (m : MethodId) (below : List Frame) (meth : Method) (c : Code) (ls : Array Slot) (A : Nat → Prop) (H : Heap) (locs : List Loc), xC p s m av.toArray meth c y.cls code nL ret → meth.name = y.name → xW G false A s ws H locs → lv_has ls nL (lv_args 0 av) →
      W p l e rm s m av.toArray below meth c H locs 0 0 (MQ below (xQR v0 A) av.toArray s mc ms A) (F0 m 0 ls [])) : Met l y (xws y code nL ret) rm (va_Pc av (xPre G ws sz)) (xQR v0 (fun q => sz ≤ q)) mc ms (fun q => sz ≤ q) := by
  refine Met.ofW (cc := code) (maxL := nL) (ret := ret) hy rfl ?_
  intro p e s m args below meth c s₁ B hml hv
  obtain ⟨rfl, hsz, hP, hK, hD, hZ⟩ := hv
  have hts := atoms_spec (ws := xws y code nL ret) B.pre
  rw [lg_entry_eq]
  exact body p e s m below meth c _ (fun q => sz ≤ q) s.heap [] ⟨B.exec, B.bytes, B.returns, hml, findClass_of_methodNamed B.named, fun w hw => hts w (List.mem_cons_of_mem _ hw), B.notSynchronized⟩ (name_of_methodNamed B.named B.method).1
    ⟨hP, hD, (fun q => absurd q (by decide)), va_S.rf, hK, fun q h => by rw [← hsz]; exact h, xZ.narrow hZ (fun q h => by
      rcases h with h | h
      · exact Or.inr h
      · rw [hsz] at h; exact h)⟩ (lv_entry av hlen)
theorem xMetQ {y : MethodName} {rm : Room} {av : List Value} {sz : Nat} {v0 : Option Value} {mc ms : Nat} (hy : plainName y.cls = true) (hlen : (lg_sl av).length ≤ nL)
    (body : ∀ (p : Program) (e : Env) (s : State) (m : MethodId) (below : List Frame) (meth : Method) (c : Code) (ls : Array Slot) (A : Nat → Prop) (H : Heap) (locs : List Loc), xC p s m av.toArray meth c y.cls code nL ret → meth.name = y.name → xW G true A s ws H locs → lv_has ls nL (lv_args 0 av) →
      W p l e rm s m av.toArray below meth c H locs 0 0 (MQ below (xQ G v0 ws' A) av.toArray s mc ms A) (F0 m 0 ls [])) : Met l y (xws y code nL ret) rm (va_Pc av (xPre G ws sz)) (xQ G v0 ws' (va_A ws sz)) mc ms (va_A ws sz) :=
  xMetB (B0 := fun A => xPost G ws' A) hy hlen body
variable {y : MethodName} {b : ByteArray} {mL index n mc ms : Nat} {ret2 : Option FieldType} {rm : Room} {As : List Value} {b0 : Nat} {wc wr w1 : va_W} {Qc : Array Value → State → Outcome → State → Prop} {free : Addr → Prop}
/-- the words of a call -/
def xwB (y : MethodName) (b : ByteArray) (mL : Nat) (ret2 : Option FieldType) (n : Nat) : Prop := Cond.code y b mL ret2 ∈ lw_w ∧ Cond.initialized y.cls ∈ lw_w ∧ y.cls ≠ "java/lang/invoke/MethodHandle" ∧ y.cls ≠ "java/lang/invoke/VarHandle" ∧ (parseMethodDescriptor y.desc).map (fun d => d.parameters.length) = some n
def xwV (y : MethodName) : Prop := Cond.instanceMethod y ∈ lw_w ∧ Cond.selects y.cls y y ∈ lw_w
theorem xCallB (hts : ∀ w ∈ lw_w, w.before args s = true) (h : xwB y b mL ret2 n) (hl : Cond.methodLink own index y ∈ lw_w) (hrc : rm.cells = mc) (hrs : rm.slots = ms) (hR : rm.frames + 1 ≤ R.frames ∧ 8 + (mL + 11) + rm.locals ≤ R.locals) : CallB R s args own index y b mL ret2 (xws y b mL ret2) rm mc ms n :=
  callB_of n hts (xgood h.1) rfl hrc hrs (hts _ h.2.1) (hts _ hl) h.2.2 hR
theorem xCN (hts : ∀ w ∈ lw_w, w.before args s = true) (h : xwB y b mL ret2 n) {host : String} (hl : va_Nw (.methodLinkNest own index y host) s) (hrc : rm.cells = mc) (hrs : rm.slots = ms) (hR : rm.frames + 1 ≤ R.frames ∧ 8 + (mL + 11) + rm.locals ≤ R.locals) : va_CN R s args own index y host b mL ret2 (xws y b mL ret2) rm mc ms n :=
  va_cnB n hts (xgood h.1) rfl hrc hrs hl (hts _ h.2.1) h.2.2 hR
/-- what a call needs of the caller's world, cut to the callee's cells -/
def xCut (G : xG) (s : State) (wc : va_W) (H : Heap) : Prop := (∀ U : State, U.heap = H → s.WarmedH U.vm → xPre G wc H.size U) ∧ va_P G.1 vwCl wc H ∧ va_K G.1 vwCl (xT G) s
theorem xrunV (C0 : xC p s m args meth c own code nL ret) (hM : Met l y (xws y b mL ret2) rm (va_Pc (.ref b0 :: As) (xPre G wc H.size)) Qc mc ms free) (h : xwB y b mL ret2 n) (hv : xwV y) (hl : Cond.methodLink own index y ∈ lw_w) {ci : Nat} {q : vw_C} {fs : List Value} (hq : vwCl[ci]? = some q) (hqc : q.1 = y.cls) (he : wc[0]? = some (b0, .inr (ci, fs)))
    (hrc : rm.cells = mc) (hrs : rm.slots = ms) (hR : rm.frames + 1 ≤ R.frames ∧ 8 + (mL + 11) + rm.locals ≤ R.locals) (hn : As.length = n) {lvs : List (Nat × Value)} (hls : lv_has ls nL lvs) {st0 : List Value} (hst : st0 = As.reverse ++ .ref b0 :: rest) (hW : (rest.map fun v => v.category).sum ≤ 8) (hdg : decode code pc = .ok (.invokevirtual index, 3)) (hf : cells + mc ≤ R.cells ∧ slots + ms ≤ R.slots)
    (X : xCut G s wc H) : va_Run p l e R s m args below meth c H locs cells slots mc ms (F0 m pc ls st0) rest (Qc (.ref b0 :: As : List Value).toArray) free := by
  obtain ⟨hx, hb, hr, hml, hown, hts, hlk⟩ := C0
  have hrv := va_recv X.2.2 X.2.1 hq he
  rw [hqc] at hrv
  exact va_runV ⟨hx, hb, hml, hown, hts⟩ hM ⟨xCallB hts h hl hrc hrs hR, hts _ hv.1, hts _ hv.2⟩ ⟨xPre.blind _, hrv, fun U hU hW => ⟨rfl, X.1 U hU hW⟩⟩ rfl hn hls.1 hst (lv_room hW) hdg hf
theorem xrunVN (C0 : xC p s m args meth c own code nL ret) (hM : Met l y (xws y b mL ret2) rm (va_Pc (.ref b0 :: As) (xPre G wc H.size)) Qc mc ms free) (h : xwB y b mL ret2 n) (hv : xwV y) {host : String} (hl : va_Nw (.methodLinkNest own index y host) s) {ci : Nat} {q : vw_C} {fs : List Value} (hq : vwCl[ci]? = some q) (hqc : q.1 = y.cls) (he : wc[0]? = some (b0, .inr (ci, fs)))
    (hrc : rm.cells = mc) (hrs : rm.slots = ms) (hR : rm.frames + 1 ≤ R.frames ∧ 8 + (mL + 11) + rm.locals ≤ R.locals) (hn : As.length = n) {lvs : List (Nat × Value)} (hls : lv_has ls nL lvs) {st0 : List Value} (hst : st0 = As.reverse ++ .ref b0 :: rest) (hW : (rest.map fun v => v.category).sum ≤ 8) (hdg : decode code pc = .ok (.invokevirtual index, 3)) (hf : cells + mc ≤ R.cells ∧ slots + ms ≤ R.slots)
    (X : xCut G s wc H) : va_Run p l e R s m args below meth c H locs cells slots mc ms (F0 m pc ls st0) rest (Qc (.ref b0 :: As : List Value).toArray) free := by
  obtain ⟨hx, hb, hr, hml, hown, hts, hlk⟩ := C0
  have hrv := va_recv X.2.2 X.2.1 hq he
  rw [hqc] at hrv
  exact va_runVN ⟨hx, hb, hml, hown, hts⟩ hM ⟨xCN hts h hl hrc hrs hR, hts _ hv.1, hts _ hv.2⟩ ⟨xPre.blind _, hrv, fun U hU hW => ⟨rfl, X.1 U hU hW⟩⟩ rfl hn hls.1 hst (lv_room hW) hdg hf
theorem xrunS (C0 : xC p s m args meth c own code nL ret) (hM : Met l y (xws y b mL ret2) rm (va_Pc As (xPre G wc H.size)) Qc mc ms free) (h : xwB y b mL ret2 n) (hv : Cond.static y ∈ lw_w) (hl : Cond.methodLink own index y ∈ lw_w) (hrc : rm.cells = mc) (hrs : rm.slots = ms) (hR : rm.frames + 1 ≤ R.frames ∧ 8 + (mL + 11) + rm.locals ≤ R.locals) (hn : As.length = n) {lvs : List (Nat × Value)} (hls : lv_has ls nL lvs) {st0 : List Value} (hst : st0 = As.reverse ++ rest) (hW : (rest.map fun v => v.category).sum ≤ 8) (hdg : decode code pc = .ok (.invokestatic index, 3)) (hf : cells + mc ≤ R.cells ∧ slots + ms ≤ R.slots)
    (X : xCut G s wc H) : va_Run p l e R s m args below meth c H locs cells slots mc ms (F0 m pc ls st0) rest (Qc (As : List Value).toArray) free := by
  obtain ⟨hx, hb, hr, hml, hown, hts, hlk⟩ := C0
  exact va_runS ⟨hx, hb, hml, hown, hts⟩ hM ⟨xCallB hts h hl hrc hrs hR, hts _ hv⟩ ⟨xPre.blind _, fun U hU hW => ⟨rfl, X.1 U hU hW⟩⟩ rfl hn hls.1 hst (lv_room hW) hdg hf
theorem xrunSN (C0 : xC p s m args meth c own code nL ret) (hM : Met l y (xws y b mL ret2) rm (va_Pc As (xPre G wc H.size)) Qc mc ms free) (h : xwB y b mL ret2 n) (hv : Cond.static y ∈ lw_w) {host : String} (hl : va_Nw (.methodLinkNest own index y host) s) (hrc : rm.cells = mc) (hrs : rm.slots = ms) (hR : rm.frames + 1 ≤ R.frames ∧ 8 + (mL + 11) + rm.locals ≤ R.locals) (hn : As.length = n) {lvs : List (Nat × Value)} (hls : lv_has ls nL lvs) {st0 : List Value} (hst : st0 = As.reverse ++ rest) (hW : (rest.map fun v => v.category).sum ≤ 8) (hdg : decode code pc = .ok (.invokestatic index, 3)) (hf : cells + mc ≤ R.cells ∧ slots + ms ≤ R.slots)
    (X : xCut G s wc H) : va_Run p l e R s m args below meth c H locs cells slots mc ms (F0 m pc ls st0) rest (Qc (As : List Value).toArray) free := by
  obtain ⟨hx, hb, hr, hml, hown, hts, hlk⟩ := C0
  exact va_runSN ⟨hx, hb, hml, hown, hts⟩ hM ⟨xCN hts h hl hrc hrs hR, hts _ hv, trivial⟩ ⟨xPre.blind _, fun U hU hW => ⟨rfl, X.1 U hU hW⟩⟩ rfl hn hls.1 hst (lv_room hW) hdg hf
theorem xrunI (C0 : xC p s m args meth c own code nL ret) (hM : Met l y (xws y b mL none) rm (va_Pc (.ref b0 :: As) (xPre G wc H.size)) Qc mc ms free) (h : xwB y b mL none n) (hv : y.name = "<init>" ∧ Cond.instanceMethod y ∈ lw_w) (hl : Cond.methodLink own index y ∈ lw_w) (hrc : rm.cells = mc) (hrs : rm.slots = ms) (hR : rm.frames + 1 ≤ R.frames ∧ 8 + (mL + 11) + rm.locals ≤ R.locals) (hn : As.length = n) {lvs : List (Nat × Value)} (hls : lv_has ls nL lvs) {st0 : List Value} (hst : st0 = As.reverse ++ .ref b0 :: rest) (hW : (rest.map fun v => v.category).sum ≤ 8) (hdg : decode code pc = .ok (.invokespecial index, 3)) (hf : cells + mc ≤ R.cells ∧ slots + ms ≤ R.slots)
    (X : xCut G s wc H) : va_Run p l e R s m args below meth c H locs cells slots mc ms (F0 m pc ls st0) rest (Qc (.ref b0 :: As : List Value).toArray) free := by
  obtain ⟨hx, hb, hr, hml, hown, hts, hlk⟩ := C0
  exact va_runI ⟨hx, hb, hml, hown, hts⟩ hM ⟨xCallB hts h hl hrc hrs hR, hv.1, hts _ hv.2⟩ ⟨xPre.blind _, fun U hU hW => ⟨rfl, X.1 U hU hW⟩⟩ rfl hn hls.1 hst (lv_room hW) hdg hf
theorem xrunIN (C0 : xC p s m args meth c own code nL ret) (hM : Met l y (xws y b mL none) rm (va_Pc (.ref b0 :: As) (xPre G wc H.size)) Qc mc ms free) (h : xwB y b mL none n) (hv : y.name = "<init>" ∧ Cond.instanceMethod y ∈ lw_w) {host : String} (hl : va_Nw (.methodLinkNest own index y host) s) (hrc : rm.cells = mc) (hrs : rm.slots = ms) (hR : rm.frames + 1 ≤ R.frames ∧ 8 + (mL + 11) + rm.locals ≤ R.locals) (hn : As.length = n) {lvs : List (Nat × Value)} (hls : lv_has ls nL lvs) {st0 : List Value} (hst : st0 = As.reverse ++ .ref b0 :: rest) (hW : (rest.map fun v => v.category).sum ≤ 8) (hdg : decode code pc = .ok (.invokespecial index, 3)) (hf : cells + mc ≤ R.cells ∧ slots + ms ≤ R.slots)
    (X : xCut G s wc H) : va_Run p l e R s m args below meth c H locs cells slots mc ms (F0 m pc ls st0) rest (Qc (.ref b0 :: As : List Value).toArray) free := by
  obtain ⟨hx, hb, hr, hml, hown, hts, hlk⟩ := C0
  exact va_runIN ⟨hx, hb, hml, hown, hts⟩ hM ⟨xCN hts h hl hrc hrs hR, hv.1, hts _ hv.2⟩ ⟨xPre.blind _, fun U hU hW => ⟨rfl, X.1 U hU hW⟩⟩ rfl hn hls.1 hst (lv_room hW) hdg hf
theorem xW.cut (B : xW G w A s ws H locs) (isC : List Nat) (hn : va_nd isC = true) (hC : isC.map (fun i => ws[i]?) = wc.map some) : xCut G s wc H := by
  have Bc := B.sub isC hn hC
  have hZ : xZ (va_A wc H.size) s H := xZ.narrow (xZ.kept Bc.2.2.2.2.2.2 (fun q h1 h2 => B.2.2.2.1.2.1 q h1 (fun z => h2 (Or.inl z)))) (fun q h => by
    rcases h with h | h
    · exact Or.inr (Or.inl h)
    · exact Or.inr (Or.inr (Nat.le_trans B.2.2.2.1.1 h)))
  exact ⟨fun U hU hW => ⟨by rw [hU], by rw [hU]; exact Bc.1, va_K.moved hW.alike B.2.2.2.2.1, Bc.2.1, by rw [hU]; exact xZ.warm hW hZ⟩, Bc.1, B.2.2.2.2.1⟩
theorem xcallB {B0 : State → Prop} {v0 : Option Value} {av : Array Value} {st0 : List Value} (B : xW G true A s ws H locs) (isC : List Nat) (hn : va_nd isC = true) (hC : isC.map (fun i => ws[i]?) = wc.map some)
    (hrun : xCut G s wc H → va_Run p l e R s m args below meth c H locs cells slots mc ms (F0 m pc ls st0) rest (xQB v0 B0 (va_A wc H.size) av) (va_A wc H.size))
    (kk : ∀ (t : State) (H1 : Heap) (locs1 : List Loc), t.heap = H1 → s.vm.Alike t.vm → B0 t → (∀ q : Nat, q < H.size → ¬ va_A wc H.size q → H1[q]? = H[q]?) → (∀ q, va_A wc H.size q → A q) → va_S A s.heap H1 locs1 → W p l e R s m args below meth c H1 locs1 (cells + mc) (slots + ms) Q (F0 m (pc + 3) ls (v0.toList ++ rest))) :
    W p l e R s m args below meth c H locs cells slots Q (F0 m pc ls st0) := by
  have hS := B.2.2.2.1
  have hFc := va_free (wc := wc) B.D hS B.2.2.2.2.2.1 isC hC
  have hr := hrun (B.cut isC hn hC)
  intro T hT X9
  obtain ⟨v, st₀, t, T', L, h0, X', hL, e1, e2, ⟨hv, hb, hz, hk⟩, st⟩ := hr T hT X9
  cases hv
  rw [h0] at hz hk
  obtain ⟨t2, a1, b1⟩ := kk t T'.heap (locs ++ L) e1.symm (by rw [← e2]; exact X'.warmed.alike) hb (fun q h1 h2 => by rw [e1]; exact hk q h1 h2) hFc
    ⟨Nat.le_trans hS.1 (by rw [e1]; exact hz), fun q h1 h2 => by rw [e1, hk q (Nat.lt_of_lt_of_le h1 hS.1) (fun z => h2 (hFc q z))]; exact hS.2.1 q h1 h2, fun q hq => by
      rcases List.mem_append.mp hq with h | h
      · exact hS.2.2 q h
      · exact hFc _ (hL q h)⟩ T' rfl X'
  exact ⟨t2, st t2 a1, b1⟩
theorem xcall {v0 : Option Value} {av : Array Value} {st0 : List Value} (B : xW G true A s ws H locs) (isC isR is : List Nat) (hn : va_nd isC = true) (hC : isC.map (fun i => ws[i]?) = wc.map some) (hnR : va_nd isR = true) (hR : isR.map (fun i => ws[i]?) = wr.map some) (hdis : ∀ i ∈ isR, i ∉ isC) (hni : va_nd is = true) (hs : is.map (fun i => (wr ++ w1)[i]?) = ws'.map some)
    (hrun : xCut G s wc H → va_Run p l e R s m args below meth c H locs cells slots mc ms (F0 m pc ls st0) rest (xQ G v0 w1 (va_A wc H.size) av) (va_A wc H.size))
    (kk : ∀ (H : Heap) (locs : List Loc), xW G true A s ws' H locs → W p l e R s m args below meth c H locs (cells + mc) (slots + ms) Q (F0 m (pc + 3) ls (v0.toList ++ rest))) :
    W p l e R s m args below meth c H locs cells slots Q (F0 m pc ls st0) := by
  refine xcallB B isC hn hC hrun (fun t H1 locs1 ht hvm hB hk hFc hS1 => ?_)
  obtain ⟨hP1, hD1⟩ := hB
  rw [ht] at hP1
  obtain ⟨hP2, hD2⟩ := va_join (wr := wr) (w1 := w1) B.1 B.D isC isR hC hR hnR hdis hk hFc hP1 hD1
  exact kk H1 locs1 ((B.mk hP2 hD2 hS1).sub is hni hs)
theorem xcall0 {v0 : Option Value} {av : Array Value} {st0 : List Value} (B : xW G true A s ws H locs) (isC isR is : List Nat) (hn : va_nd isC = true) (hC : isC.map (fun i => ws[i]?) = wc.map some) (hnR : va_nd isR = true) (hR : isR.map (fun i => ws[i]?) = wr.map some) (hdis : ∀ i ∈ isR, i ∉ isC) (hni : va_nd is = true) (hs : is.map (fun i => (wr ++ w1)[i]?) = ws'.map some)
    (hrun : xCut G s wc H → va_Run p l e R s m args below meth c H locs cells slots 0 0 (F0 m pc ls st0) rest (xQ G v0 w1 (va_A wc H.size) av) (va_A wc H.size))
    (kk : ∀ (H : Heap) (locs : List Loc), xW G true A s ws' H locs → W p l e R s m args below meth c H locs cells slots Q (F0 m (pc + 3) ls (v0.toList ++ rest))) :
    W p l e R s m args below meth c H locs cells slots Q (F0 m pc ls st0) := xcall B isC isR is hn hC hnR hR hdis hni hs hrun kk
/-- a call that makes cells: their addresses come with the world -/
theorem xcallN {α : Type} {v0 : Option Value} {av : Array Value} {st0 : List Value} {w1 ws' : α → va_W} {B0 : State → Prop} (B : xW G true A s ws H locs) (isC isR is : List Nat) (hn : va_nd isC = true) (hC : isC.map (fun i => ws[i]?) = wc.map some) (hnR : va_nd isR = true) (hR : isR.map (fun i => ws[i]?) = wr.map some) (hdis : ∀ i ∈ isR, i ∉ isC) (hni : va_nd is = true) (hs : ∀ a9, is.map (fun i => (wr ++ w1 a9)[i]?) = (ws' a9).map some)
    (hB0 : ∀ t, B0 t → ∃ a9 : α, xPost G (w1 a9) (va_A wc H.size) t)
    (hrun : xCut G s wc H → va_Run p l e R s m args below meth c H locs cells slots mc ms (F0 m pc ls st0) rest (xQB v0 B0 (va_A wc H.size) av) (va_A wc H.size))
    (kk : ∀ (a9 : α) (H : Heap) (locs : List Loc), xW G true A s (ws' a9) H locs → W p l e R s m args below meth c H locs (cells + mc) (slots + ms) Q (F0 m (pc + 3) ls (v0.toList ++ rest))) :
    W p l e R s m args below meth c H locs cells slots Q (F0 m pc ls st0) := by
  refine xcallB B isC hn hC hrun (fun t H1 locs1 ht hvm hB hk hFc hS1 => ?_)
  obtain ⟨a9, hP1, hD1⟩ := hB0 t hB
  rw [ht] at hP1
  obtain ⟨hP2, hD2⟩ := va_join (wr := wr) (w1 := w1 a9) B.1 B.D isC isR hC hR hnR hdis hk hFc hP1 hD1
  exact kk a9 H1 locs1 ((B.mk hP2 hD2 hS1).sub is hni (hs a9))
/-- a call that writes nothing: the world stays, whatever it is -/
theorem xcallR {v0 : Option Value} {av : Array Value} {st0 : List Value} (B : xW G w A s ws H locs) (isC : List Nat) (hn : va_nd isC = true) (hC : isC.map (fun i => ws[i]?) = wc.map some)
    (hrun : xCut G s wc H → va_Run p l e R s m args below meth c H locs cells slots 0 0 (F0 m pc ls st0) rest (xQR v0 (fun q => H.size ≤ q) av) (fun q => H.size ≤ q))
    (kk : ∀ (H : Heap) (locs : List Loc), xW G w A s ws H locs → W p l e R s m args below meth c H locs cells slots Q (F0 m (pc + 3) ls (v0.toList ++ rest))) :
    W p l e R s m args below meth c H locs cells slots Q (F0 m pc ls st0) := by
  have hr := hrun (B.cut isC hn hC)
  intro T hT X9
  obtain ⟨v, st₀, t, T', L, h0, X', hL, e1, e2, ⟨hv, hb, hz, hk⟩, st⟩ := hr T hT X9
  cases hv
  rw [h0] at hz hk
  obtain ⟨hP, hD, hw, hS, hK, hA, hZ0⟩ := B
  have hsame : ∀ q : Nat, q < H.size → T'.heap[q]? = H[q]? := fun q h1 => by rw [e1]; exact hk q h1 (Nat.not_le.mpr h1)
  obtain ⟨t2, a1, b1⟩ := kk T'.heap (locs ++ L) ⟨fun k q h => (hP k q h).kept (hsame _ (hP k q h).lt), hD, hw, ⟨Nat.le_trans hS.1 (by rw [e1]; exact hz), fun q h1 h2 => by rw [hsame q (Nat.lt_of_lt_of_le h1 hS.1)]; exact hS.2.1 q h1 h2, fun q hq => by
      rcases List.mem_append.mp hq with h | h
      · exact hS.2.2 q h
      · exact hA _ (Nat.le_trans hS.1 (hL q h))⟩, hK, hA, hZ0⟩ T' rfl X'
  exact ⟨t2, st t2 a1, b1⟩
end X
