/-! ===== the start: the tables' classes, the array classes, what is the same all along ===== -/
theorem xarr {args : Array Value} {s : State} {ty : FieldType} (h : (Cond.arrayClass ty).before args s = true) : ∃ cA : ClassId, ArrOfT s cA ty ∧ s.vm.findClass ("[" ++ ty.toString) = some cA := by
  obtain ⟨cA, kA, comp, h1, h2, h3⟩ := Cond.arrayClass_spec h
  exact ⟨cA, fun n z => ⟨fun k h => (by cases h), kA, h2, comp, h3⟩, h1⟩
theorem xCl_lays {args : Array Value} {s : State} {C n d : String} {A : Nat → Prop} (h : (Cond.laysStatic C n d).before args s = true) (hA : ∀ a : Nat, a < s.heap.size → ¬ A a) : xCl (.laysStatic C n d) A s s.heap := by
  obtain ⟨c, k, i, f, a, cell, hc, hi, hst, ha, hcell, hs, hcls, hlt, hty⟩ := Cond.laysStatic_spec h
  refine ⟨a, cell, hA a (Array.getElem?_eq_some_iff.mp hcell).1, hcell, fun V args' hV hVc => ?_⟩
  obtain ⟨k', hi', hek⟩ := State.fieldFound?_setVm (s := s) hV hi
  exact Cond.laysStatic_of (s := V) (by rw [hV.findClass]; exact hc) (by simpa only [State.fieldFound?, State.vm_setVm] using hi') hst (by rw [hek]; exact ha) hVc hs hcls hlt (by rw [hek]; exact hty)
theorem xCl_ref {args : Array Value} {s : State} {C n d : String} {A : Nat → Prop} (h : (Cond.laysStatic C n d).before args s = true) (h2 : (Cond.isRef (.static C n d)).before args s = true) (hA : ∀ a : Nat, a < s.heap.size → ¬ A a) : xCl (.isRef (.static C n d)) A s s.heap := by
  obtain ⟨c, k, i, f, a, cell, hc, hi, hst, ha, hcell, hs, hcls, hlt, hty⟩ := Cond.laysStatic_spec h
  obtain ⟨v, hv⟩ : ∃ v, cell.slots[f.slot]? = some v := ⟨_, Array.getElem?_eq_getElem hlt⟩
  have hev : (Term.static C n d).eval args s none [] s = some v := by simp [Term.eval, State.fieldNamed?, hi, hst, ha, hcell, hs, hv]
  refine ⟨a, cell, hA a (Array.getElem?_eq_some_iff.mp hcell).1, hcell, fun V args' hV hVc => ?_⟩
  obtain ⟨k', hi', hek⟩ := State.fieldFound?_setVm (s := s) hV hi
  have hi2 : V.fieldFound? C n d = some (c, k', i, f) := by simpa only [State.fieldFound?, State.vm_setVm] using hi'
  have ha2 : k'.statics = some a := by rw [hek]; exact ha
  have hev2 : (Term.static C n d).eval args' V none [] V = some v := by simp [Term.eval, State.fieldNamed?, hi2, hst, ha2, hVc, hs, hv]
  simp only [Cond.before, Cond.holds, Cond.value, hev] at h2
  simp only [Cond.before, Cond.holds, Cond.value, hev2]
  exact h2
theorem xtab_FIRST_COLUMN {args : Array Value} {s : State} {A : Nat → Prop} (hts : ∀ w ∈ lw_tbl, w.before args s = true) (hs : ∀ c ∈ flatC (Jvm.Cond.and given_1 narrow_1), c.before args s = true) (hA : ∀ a : Nat, a < s.heap.size → ¬ A a) : xTab "FIRST_COLUMN" tb_FIRST_COLUMN A s s.heap := by
  obtain ⟨t, ht, hT⟩ := va_Tof (args := args) (s := s) (tm := (Term.static "FilterRows$Picture" "FIRST_COLUMN" "[I")) (ty := .int) (N := 8) (f := fun j => .int (tb_FIRST_COLUMN j)) (A := A) (by decide) (hs (.arrayOf (Term.static "FilterRows$Picture" "FIRST_COLUMN" "[I") .int) (by decide +kernel)) (va_eqt (hs (.eq (.length (Term.static "FilterRows$Picture" "FIRST_COLUMN" "[I")) (.int 8)) (by decide +kernel))) (fun j hj => by
    match j, hj with
    | 0, _ => exact va_eqt (hs (.eq (.elem (Term.static "FilterRows$Picture" "FIRST_COLUMN" "[I") (.int 0)) (.int 0)) (by decide +kernel))
    | 1, _ => exact va_eqt (hs (.eq (.elem (Term.static "FilterRows$Picture" "FIRST_COLUMN" "[I") (.int 1)) (.int 0)) (by decide +kernel))
    | 2, _ => exact va_eqt (hs (.eq (.elem (Term.static "FilterRows$Picture" "FIRST_COLUMN" "[I") (.int 2)) (.int 4)) (by decide +kernel))
    | 3, _ => exact va_eqt (hs (.eq (.elem (Term.static "FilterRows$Picture" "FIRST_COLUMN" "[I") (.int 3)) (.int 0)) (by decide +kernel))
    | 4, _ => exact va_eqt (hs (.eq (.elem (Term.static "FilterRows$Picture" "FIRST_COLUMN" "[I") (.int 4)) (.int 2)) (by decide +kernel))
    | 5, _ => exact va_eqt (hs (.eq (.elem (Term.static "FilterRows$Picture" "FIRST_COLUMN" "[I") (.int 5)) (.int 0)) (by decide +kernel))
    | 6, _ => exact va_eqt (hs (.eq (.elem (Term.static "FilterRows$Picture" "FIRST_COLUMN" "[I") (.int 6)) (.int 1)) (by decide +kernel))
    | 7, _ => exact va_eqt (hs (.eq (.elem (Term.static "FilterRows$Picture" "FIRST_COLUMN" "[I") (.int 7)) (.int 0)) (by decide +kernel))) hA
  exact ⟨t, va_Zof (hts (.laysStatic "FilterRows$Picture" "FIRST_COLUMN" "[I") (by decide +kernel)) (hts (.initialized "FilterRows$Picture") (by decide +kernel)) ht hA, hT⟩
theorem xtab_FIRST_ROW {args : Array Value} {s : State} {A : Nat → Prop} (hts : ∀ w ∈ lw_tbl, w.before args s = true) (hs : ∀ c ∈ flatC (Jvm.Cond.and given_1 narrow_1), c.before args s = true) (hA : ∀ a : Nat, a < s.heap.size → ¬ A a) : xTab "FIRST_ROW" tb_FIRST_ROW A s s.heap := by
  obtain ⟨t, ht, hT⟩ := va_Tof (args := args) (s := s) (tm := (Term.static "FilterRows$Picture" "FIRST_ROW" "[I")) (ty := .int) (N := 8) (f := fun j => .int (tb_FIRST_ROW j)) (A := A) (by decide) (hs (.arrayOf (Term.static "FilterRows$Picture" "FIRST_ROW" "[I") .int) (by decide +kernel)) (va_eqt (hs (.eq (.length (Term.static "FilterRows$Picture" "FIRST_ROW" "[I")) (.int 8)) (by decide +kernel))) (fun j hj => by
    match j, hj with
    | 0, _ => exact va_eqt (hs (.eq (.elem (Term.static "FilterRows$Picture" "FIRST_ROW" "[I") (.int 0)) (.int 0)) (by decide +kernel))
    | 1, _ => exact va_eqt (hs (.eq (.elem (Term.static "FilterRows$Picture" "FIRST_ROW" "[I") (.int 1)) (.int 0)) (by decide +kernel))
    | 2, _ => exact va_eqt (hs (.eq (.elem (Term.static "FilterRows$Picture" "FIRST_ROW" "[I") (.int 2)) (.int 0)) (by decide +kernel))
    | 3, _ => exact va_eqt (hs (.eq (.elem (Term.static "FilterRows$Picture" "FIRST_ROW" "[I") (.int 3)) (.int 4)) (by decide +kernel))
    | 4, _ => exact va_eqt (hs (.eq (.elem (Term.static "FilterRows$Picture" "FIRST_ROW" "[I") (.int 4)) (.int 0)) (by decide +kernel))
    | 5, _ => exact va_eqt (hs (.eq (.elem (Term.static "FilterRows$Picture" "FIRST_ROW" "[I") (.int 5)) (.int 2)) (by decide +kernel))
    | 6, _ => exact va_eqt (hs (.eq (.elem (Term.static "FilterRows$Picture" "FIRST_ROW" "[I") (.int 6)) (.int 0)) (by decide +kernel))
    | 7, _ => exact va_eqt (hs (.eq (.elem (Term.static "FilterRows$Picture" "FIRST_ROW" "[I") (.int 7)) (.int 1)) (by decide +kernel))) hA
  exact ⟨t, va_Zof (hts (.laysStatic "FilterRows$Picture" "FIRST_ROW" "[I") (by decide +kernel)) (hts (.initialized "FilterRows$Picture") (by decide +kernel)) ht hA, hT⟩
theorem xtab_COLUMN_SHIFT {args : Array Value} {s : State} {A : Nat → Prop} (hts : ∀ w ∈ lw_tbl, w.before args s = true) (hs : ∀ c ∈ flatC (Jvm.Cond.and given_1 narrow_1), c.before args s = true) (hA : ∀ a : Nat, a < s.heap.size → ¬ A a) : xTab "COLUMN_SHIFT" tb_COLUMN_SHIFT A s s.heap := by
  obtain ⟨t, ht, hT⟩ := va_Tof (args := args) (s := s) (tm := (Term.static "FilterRows$Picture" "COLUMN_SHIFT" "[I")) (ty := .int) (N := 8) (f := fun j => .int (tb_COLUMN_SHIFT j)) (A := A) (by decide) (hs (.arrayOf (Term.static "FilterRows$Picture" "COLUMN_SHIFT" "[I") .int) (by decide +kernel)) (va_eqt (hs (.eq (.length (Term.static "FilterRows$Picture" "COLUMN_SHIFT" "[I")) (.int 8)) (by decide +kernel))) (fun j hj => by
    match j, hj with
    | 0, _ => exact va_eqt (hs (.eq (.elem (Term.static "FilterRows$Picture" "COLUMN_SHIFT" "[I") (.int 0)) (.int 0)) (by decide +kernel))
    | 1, _ => exact va_eqt (hs (.eq (.elem (Term.static "FilterRows$Picture" "COLUMN_SHIFT" "[I") (.int 1)) (.int 3)) (by decide +kernel))
    | 2, _ => exact va_eqt (hs (.eq (.elem (Term.static "FilterRows$Picture" "COLUMN_SHIFT" "[I") (.int 2)) (.int 3)) (by decide +kernel))
    | 3, _ => exact va_eqt (hs (.eq (.elem (Term.static "FilterRows$Picture" "COLUMN_SHIFT" "[I") (.int 3)) (.int 2)) (by decide +kernel))
    | 4, _ => exact va_eqt (hs (.eq (.elem (Term.static "FilterRows$Picture" "COLUMN_SHIFT" "[I") (.int 4)) (.int 2)) (by decide +kernel))
    | 5, _ => exact va_eqt (hs (.eq (.elem (Term.static "FilterRows$Picture" "COLUMN_SHIFT" "[I") (.int 5)) (.int 1)) (by decide +kernel))
    | 6, _ => exact va_eqt (hs (.eq (.elem (Term.static "FilterRows$Picture" "COLUMN_SHIFT" "[I") (.int 6)) (.int 1)) (by decide +kernel))
    | 7, _ => exact va_eqt (hs (.eq (.elem (Term.static "FilterRows$Picture" "COLUMN_SHIFT" "[I") (.int 7)) (.int 0)) (by decide +kernel))) hA
  exact ⟨t, va_Zof (hts (.laysStatic "FilterRows$Picture" "COLUMN_SHIFT" "[I") (by decide +kernel)) (hts (.initialized "FilterRows$Picture") (by decide +kernel)) ht hA, hT⟩
theorem xtab_ROW_SHIFT {args : Array Value} {s : State} {A : Nat → Prop} (hts : ∀ w ∈ lw_tbl, w.before args s = true) (hs : ∀ c ∈ flatC (Jvm.Cond.and given_1 narrow_1), c.before args s = true) (hA : ∀ a : Nat, a < s.heap.size → ¬ A a) : xTab "ROW_SHIFT" tb_ROW_SHIFT A s s.heap := by
  obtain ⟨t, ht, hT⟩ := va_Tof (args := args) (s := s) (tm := (Term.static "FilterRows$Picture" "ROW_SHIFT" "[I")) (ty := .int) (N := 8) (f := fun j => .int (tb_ROW_SHIFT j)) (A := A) (by decide) (hs (.arrayOf (Term.static "FilterRows$Picture" "ROW_SHIFT" "[I") .int) (by decide +kernel)) (va_eqt (hs (.eq (.length (Term.static "FilterRows$Picture" "ROW_SHIFT" "[I")) (.int 8)) (by decide +kernel))) (fun j hj => by
    match j, hj with
    | 0, _ => exact va_eqt (hs (.eq (.elem (Term.static "FilterRows$Picture" "ROW_SHIFT" "[I") (.int 0)) (.int 0)) (by decide +kernel))
    | 1, _ => exact va_eqt (hs (.eq (.elem (Term.static "FilterRows$Picture" "ROW_SHIFT" "[I") (.int 1)) (.int 3)) (by decide +kernel))
    | 2, _ => exact va_eqt (hs (.eq (.elem (Term.static "FilterRows$Picture" "ROW_SHIFT" "[I") (.int 2)) (.int 3)) (by decide +kernel))
    | 3, _ => exact va_eqt (hs (.eq (.elem (Term.static "FilterRows$Picture" "ROW_SHIFT" "[I") (.int 3)) (.int 3)) (by decide +kernel))
    | 4, _ => exact va_eqt (hs (.eq (.elem (Term.static "FilterRows$Picture" "ROW_SHIFT" "[I") (.int 4)) (.int 2)) (by decide +kernel))
    | 5, _ => exact va_eqt (hs (.eq (.elem (Term.static "FilterRows$Picture" "ROW_SHIFT" "[I") (.int 5)) (.int 2)) (by decide +kernel))
    | 6, _ => exact va_eqt (hs (.eq (.elem (Term.static "FilterRows$Picture" "ROW_SHIFT" "[I") (.int 6)) (.int 1)) (by decide +kernel))
    | 7, _ => exact va_eqt (hs (.eq (.elem (Term.static "FilterRows$Picture" "ROW_SHIFT" "[I") (.int 7)) (.int 1)) (by decide +kernel))) hA
  exact ⟨t, va_Zof (hts (.laysStatic "FilterRows$Picture" "ROW_SHIFT" "[I") (by decide +kernel)) (hts (.initialized "FilterRows$Picture") (by decide +kernel)) ht hA, hT⟩
set_option maxHeartbeats 4000000 in
theorem xZ_start {args : Array Value} {s : State} {A : Nat → Prop} (hts : ∀ w ∈ lw_tbl, w.before args s = true) (hgv : (Jvm.Cond.and given_1 narrow_1).before args s = true) (hA : ∀ a : Nat, a < s.heap.size → ¬ A a) : xZ A s s.heap := by
  have hs := flat_of_before _ hgv
  refine ⟨⟨⟨fun z hz => ?_, fun y hy => ?_, fun X hX => ?_, fun q hq => ?_⟩, va_Nw.of rfl (hts _ (by decide +kernel)), va_Nw.of rfl (hts _ (by decide +kernel))⟩, xtab_FIRST_COLUMN hts hs hA, xtab_FIRST_ROW hts hs hA, xtab_COLUMN_SHIFT hts hs hA, xtab_ROW_SHIFT hts hs hA, fun w hw => ?_⟩
  · have hm : ∀ z ∈ xstrs, Cond.stringRef "FilterRows" z.1 z.2 ∈ lw_tbl := by decide +kernel
    have h1 := hts _ (hm z hz)
    obtain ⟨c, k, hfc, -⟩ := Cond.instantiable_spec (hts (.instantiable "FilterRows" 6) (by decide +kernel))
    obtain ⟨k1, cf, i, a, -, -, -, -, -, h2⟩ := Cond.stringRef_spec hfc h1
    exact ⟨a, vk_R.of h1 h2⟩
  · have hm : ∀ y ∈ xdecl, Cond.declares y ∈ lw_tbl := by decide +kernel
    exact va_Nw.of rfl (hts _ (hm y hy))
  · have hm : ∀ X ∈ xcast, Cond.castable X X ∈ lw_tbl := by decide +kernel
    exact va_Nw.of rfl (hts _ (hm X hX))
  · have hm : ∀ q ∈ xncast, Cond.not (.castable q.1 q.2) ∈ flatC (Jvm.Cond.and given_1 narrow_1) := by decide +kernel
    exact va_Nc.of (hs _ (hm q hq))
  · simp only [xcls4, List.mem_cons, List.not_mem_nil, or_false] at hw
    rcases hw with rfl | rfl | rfl | rfl
    · exact xCl_lays (hts _ (by decide +kernel)) hA
    · exact xCl_lays (hts _ (by decide +kernel)) hA
    · exact xCl_ref (hts _ (by decide +kernel)) (hs _ (by decide +kernel)) hA
    · exact xCl_ref (hts _ (by decide +kernel)) (hs _ (by decide +kernel)) hA
set_option maxHeartbeats 8000000 in
set_option maxRecDepth 100000 in
/-- THE LAW, from its entry -/
theorem whole_start {p : Program} {e : Env} {s : State} {m : MethodId} {below : List Frame} {meth : Method} {c : Code} (l : Launch) (hfl : l.flags = flags0) {b L : Nat} {xs : Nat → Int32} (hL : L ≤ 2564) (C0 : lw_At p s m meth c b L xs) : W p l e room_1 s m #[Value.ref b] below meth c s.heap [] 0 0 (lw_Z below #[Value.ref b] s) (entryFrame m ([Value.ref b] : List Value).toArray 7) := by
  obtain ⟨hx, hb, hr, hml, hown, hts, hX, hbl, hlocks, hgv⟩ := C0
  have hww : ∀ w ∈ lw_w, w.before #[Value.ref b] s = true := fun w hw => hts w (List.mem_filter.mp hw).1
  have hA0 : ∀ a : Nat, a < s.heap.size → ¬ (fun q : Nat => s.heap.size ≤ q) a := fun a h => Nat.not_le.mpr h
  obtain ⟨c0, iS0, hKn0⟩ := u_known (C := "FilterRows$ByteStore") (T := TX0) (N := 2) (n := 2) hww inX0 (hts (.instantiable "FilterRows$ByteStore" 2) (by decide +kernel))
  obtain ⟨c1, iS1, hKn1⟩ := u_known (C := "FilterRows$Palette") (T := TX1) (N := 5) (n := 5) hww inX1 (hts (.instantiable "FilterRows$Palette" 5) (by decide +kernel))
  obtain ⟨c2, iS2, hKn2⟩ := u_known (C := "FilterRows$Picture") (T := TX2) (N := 8) (n := 8) hww inX2 (hts (.instantiable "FilterRows$Picture" 8) (by decide +kernel))
  obtain ⟨c3, iS3, hKn3⟩ := u_known (C := "FilterRows$Rows") (T := TX3) (N := 7) (n := 7) hww inX3 (hts (.instantiable "FilterRows$Rows" 7) (by decide +kernel))
  obtain ⟨c4, iS4, hKn4⟩ := u_known (C := "FilterRows") (T := TX4) (N := 6) (n := 6) hww inX4 (hts (.instantiable "FilterRows" 6) (by decide +kernel))
  obtain ⟨c5, iS5, hKn5⟩ := u_known (C := "FilterRowsModel") (T := TX5) (N := 23) (n := 23) hww inX5 (hts (.instantiable "FilterRowsModel" 23) (by decide +kernel))
  obtain ⟨dC, dI, hKc⟩ : ∃ (dC : Nat → ClassId) (dI : Nat → Nat → Nat), ∀ (k : Nat) (q : vw_C), vwCl[k]? = some q → u_Kn s q.1 q.2.1 q.2.2 (dC k) (dI k) := by
    refine ⟨fun k => match k with | 0 => c0 | 1 => c1 | 2 => c2 | 3 => c3 | 4 => c4 | _ => c5, fun k => match k with | 0 => iS0 | 1 => iS1 | 2 => iS2 | 3 => iS3 | 4 => iS4 | _ => iS5, ?_⟩
    intro k q hq
    match k, hq with
    | 0, hq => cases hq; exact hKn0
    | 1, hq => cases hq; exact hKn1
    | 2, hq => cases hq; exact hKn2
    | 3, hq => cases hq; exact hKn3
    | 4, hq => cases hq; exact hKn4
    | 5, hq => cases hq; exact hKn5
    | k + 6, hq => simp [vwCl] at hq
  obtain ⟨cI, hI1, hI2⟩ := xarr (hts (.arrayClass .int) (by decide +kernel))
  obtain ⟨cZ, hZ1, hZ2⟩ := xarr (hts (.arrayClass .boolean) (by decide +kernel))
  obtain ⟨cL, hL1, hL2⟩ := xarr (hts (.arrayClass .long) (by decide +kernel))
  have hK : va_K (dC, dI) vwCl (xT ((dC, dI), cI, cZ, cL)) s := by
    refine ⟨hKc, fun k q hq => ?_⟩
    match k, hq with
    | 0, hq => cases hq; exact ⟨hI1, hI2⟩
    | 1, hq => cases hq; exact ⟨hZ1, hZ2⟩
    | 2, hq => cases hq; exact ⟨hL1, hL2⟩
    | k + 3, hq => simp at hq
  have hZ : xZ (fun q => (fun q : Nat => s.heap.size ≤ q) q ∨ va_A [] s.heap.size q) s s.heap := xZ_start hts hgv (fun a h hq => by
    rcases hq with hq | ⟨k, e9, hq⟩ | hq
    · exact absurd hq (Nat.not_le.mpr h)
    · simp at hq
    · exact absurd hq (Nat.not_le.mpr h))
  have B : xW ((dC, dI), cI, cZ, cL) true (fun q : Nat => s.heap.size ≤ q) s [] s.heap [] := ⟨fun k q h => by simp at h, ⟨fun i j p q h => by simp at h, fun k q h => by simp at h⟩, fun _ k q h => by simp at h, va_S.rf, hK, fun _ h => h, hZ⟩
  rw [lg_entry_eq]
  have hl := lv_entry ([.ref b]) (n := 7) (Nat.le_of_ble_eq_true rfl)
  obtain ⟨n, z_o_picture_width, z_o_picture_height, z_o_picture_bits, z_o_picture_channels, z_o_picture_step, z_o_picture_mostSample, z_o_picture_samplesN, z_o_picture_samplesF, z_o_picture_draftN, z_o_picture_draftF, z_o_rows_step, z_o_rows_seenN, z_o_rows_seenF, z_o_rows_counts, z_o_rows_restsN, z_o_rows_restsF, z_o_rows_currentN, z_o_rows_currentF, z_o_rows_aboveN, z_o_rows_aboveF, z_o_rows_length, z_o_encoded_heldN, z_o_encoded_heldF, z_o_encoded_count, z_o_unread_heldN, z_o_unread_heldF, z_o_unread_count, z_o_linesByKindN, z_o_linesByKindF, z_o_palette_coloursN, z_o_palette_coloursF, z_o_palette_numbersN, z_o_palette_numbersF, z_o_palette_placedN, z_o_palette_placedF, z_o_palette_count, z_o_palette_arranged, z_m_width, z_m_height, z_m_bits, z_m_channels, z_m_step, z_m_firstColumnsN, z_m_firstColumnsF, z_m_columnStepsN, z_m_columnStepsF, z_m_firstRowsN, z_m_firstRowsF, z_m_rowStepsN, z_m_rowStepsF, z_m_samplesN, z_m_samplesF, z_m_draftN, z_m_draftF, z_m_lineN, z_m_lineF, z_m_aboveN, z_m_aboveF, z_m_restN, z_m_restF, z_m_seenN, z_m_seenF, z_m_encodedN, z_m_encodedF, z_m_encodedSize, z_m_chosenN, z_m_chosenF, z_m_feedN, z_m_feedF, z_m_feedSize, z_m_coloursN, z_m_coloursF, z_m_colourCount, z_oLF, hn, hF, hloop⟩ := pure_law L xs hL
  exact law_start hfl hX hbl (hA0 b hbl) (fun _ h => h) ⟨hx, hb, hr, hml, hown, hww, hlocks⟩ n hn z_o_picture_width z_o_picture_height z_o_picture_bits z_o_picture_channels z_o_picture_step z_o_picture_mostSample z_o_picture_samplesN z_o_picture_samplesF z_o_picture_draftN z_o_picture_draftF z_o_rows_step z_o_rows_seenN z_o_rows_seenF z_o_rows_counts z_o_rows_restsN z_o_rows_restsF z_o_rows_currentN z_o_rows_currentF z_o_rows_aboveN z_o_rows_aboveF z_o_rows_length z_o_encoded_heldN z_o_encoded_heldF z_o_encoded_count z_o_unread_heldN z_o_unread_heldF z_o_unread_count z_o_linesByKindN z_o_linesByKindF z_o_palette_coloursN z_o_palette_coloursF z_o_palette_numbersN z_o_palette_numbersF z_o_palette_placedN z_o_palette_placedF z_o_palette_count z_o_palette_arranged z_m_width z_m_height z_m_bits z_m_channels z_m_step z_m_firstColumnsN z_m_firstColumnsF z_m_columnStepsN z_m_columnStepsF z_m_firstRowsN z_m_firstRowsF z_m_rowStepsN z_m_rowStepsF z_m_samplesN z_m_samplesF z_m_draftN z_m_draftF z_m_lineN z_m_lineF z_m_aboveN z_m_aboveF z_m_restN z_m_restF z_m_seenN z_m_seenF z_m_encodedN z_m_encodedF z_m_encodedSize z_m_chosenN z_m_chosenF z_m_feedN z_m_feedF z_m_feedSize z_m_coloursN z_m_coloursF z_m_colourCount z_oLF hF hloop _ _ _ B hl
