set_option maxRecDepth 100000 in
theorem wd_L_cell : Cond.code yL_cell cL_cell 2 (some .int) ∈ lw_w := lw_in 345 (rfl) (by decide +kernel)
theorem wd_L_ini : Cond.initialized "FilterRowsLaw" ∈ lw_w := lw_in 32 (by decide +kernel) (by decide +kernel)
theorem wd_L_cells : Cond.static yL_cell ∈ lw_w := lw_in 344 (by decide +kernel) (by decide +kernel)
/-! ===== the law's reader of the script ===== -/
def f_L_cell (L : Nat) (xs : Nat → Int32) (k : Int32) : Option Int32 := if nI L ≤ k then some 0 else xin k L (some (xs k.toNatClampNeg))
abbrev rm_L_cell : Room := { frames := 0, cells := 0, slots := 0, locals := 0 }
def xPcell (b L : Nat) (xs : Nat → Int32) (sz : Nat) : State → Prop := fun U => U.heap.size = sz ∧ va_X b L xs U U.heap ∧ b < sz
set_option maxHeartbeats 4000000 in
theorem c_L_cell (l : Launch) (b L : Nat) (xs : Nat → Int32) (k r : Int32) (hF : f_L_cell L xs k = some r) (sz : Nat) : Met l yL_cell (xws yL_cell cL_cell 2 (some .int)) rm_L_cell (va_Pc [.ref b, .int k] (xPcell b L xs sz)) (xQR (some (.int r)) (fun q => sz ≤ q)) 0 0 (fun q => sz ≤ q) := by
  refine Met.ofW (cc := cL_cell) (maxL := 2) (ret := some .int) (by decide) rfl ?_
  intro p e s m args below meth c s₁ B hml hv
  obtain ⟨rfl, hsz, hX, hbl⟩ := hv
  have hx := B.exec
  have hb := B.bytes
  have hr := B.returns
  have hlk := B.notSynchronized
  have h := hF
  unfold f_L_cell at h
  have hbl' : b < s.heap.size := by rw [hsz]; exact hbl
  have hbA : ¬ (fun q : Nat => sz ≤ q) b := Nat.not_le.mpr hbl
  have hS : va_S (fun q : Nat => sz ≤ q) s.heap s.heap [] := va_S.rf
  have hl := lv_entry ([.ref b, .int k]) (n := 2) (Nat.le_of_ble_eq_true rfl)
  rw [lg_entry_eq]
  generalize (lg_sl ([.ref b, .int k]) ++ List.replicate (2 - (lg_sl ([.ref b, .int k])).length) Slot.unset).toArray = ls at hl ⊢
  have hl : lv_has ls 2 [(0, .ref b), (1, .int k)] := hl
  refine lv_iload_n hx hb dL_cell_0 rfl (lv_at hl 1 rfl) ?_
  refine lv_aload_n hx hb dL_cell_1 rfl (lv_at hl 0 rfl) ?_
  refine va_slen hx hb hX hbl' hbA hS dL_cell_2 ?_
  refine lv_icmp_ge (tgt := 12) hx hb dL_cell_3 (by decide) (fun c_1 => ?_) (fun c_1 => ?_)
  · have h := oif_t h c_1
    refine lv_iconst (v := 0) hx hb dL_cell_12 (by decide) ?_
    obtain rfl := Option.some.inj h
    exact W.iret hx hb hr (fun t ht hW => ⟨rfl, trivial, hS.F ht⟩) hS.2.2 dL_cell_13 hlk
  · have h := oif_f h c_1
    refine lv_aload_n hx hb dL_cell_6 rfl (lv_at hl 0 rfl) ?_
    refine lv_iload_n hx hb dL_cell_7 rfl (lv_at hl 1 rfl) ?_
    obtain ⟨b_1, h⟩ := xin_spec h
    refine va_sld hx hb hX hbl' hbA hS b_1 dL_cell_8 ?_
    refine lv_goto (tgt := 13) hx hb dL_cell_9 (by decide) ?_
    obtain rfl := Option.some.inj h
    exact W.iret hx hb hr (fun t ht hW => ⟨rfl, trivial, hS.F ht⟩) hS.2.2 dL_cell_13 hlk
section XCE
variable {p : Program} {l : Launch} {e : Env} {R : Room} {s : State} {m : MethodId} {args : Array Value} {below : List Frame} {meth : Method} {c : Code} {H : Heap} {locs : List Loc} {cells slots : Nat} {Q : State → Prop}
variable {code : ByteArray} {nL : Nat} {ret : Option FieldType} {G : xG} {w : Bool} {A : Nat → Prop} {ws : va_W} {pc : Nat} {ls : Array Slot} {rest : List Value}
theorem xcell {b L index : Nat} {xs : Nat → Int32} {k r : Int32} (C0 : xC p s m args meth c "FilterRowsLaw" code nL ret) (hX : va_X b L xs s s.heap) (hbl : b < s.heap.size) (hbA : ¬ A b) (B : xW G w A s ws H locs) (hF : f_L_cell L xs k = some r) (hl : Cond.methodLink "FilterRowsLaw" index yL_cell ∈ lw_w) {lvs : List (Nat × Value)} (hls : lv_has ls nL lvs) (h1 : 1 ≤ R.frames) (h2 : 21 ≤ R.locals) (hW : (rest.map fun v => v.category).sum ≤ 8) (hf : cells + 0 ≤ R.cells ∧ slots + 0 ≤ R.slots) (hdg : decode code pc = .ok (.invokestatic index, 3))
    (kk : ∀ (H : Heap) (locs : List Loc), xW G w A s ws H locs → W p l e R s m args below meth c H locs cells slots Q (F0 m (pc + 3) ls (.int r :: rest))) : W p l e R s m args below meth c H locs cells slots Q (F0 m pc ls (.int k :: .ref b :: rest)) := by
  have hS := B.2.2.2.1
  have hbH : H[b]? = s.heap[b]? := hS.2.1 b hbl hbA
  have hXH : va_X b L xs s H := by
    obtain ⟨scr, k1, k2⟩ := hX
    exact ⟨scr, by rw [hbH]; exact k1, k2⟩
  have hts := C0.2.2.2.2.2.1
  obtain ⟨hx, hb, hr, hml, hown, hts, hlk⟩ := C0
  refine xcallR (wc := []) (v0 := some (.int r)) B [] rfl rfl (fun _ => va_runS (As := [.ref b, .int k]) (n := 2) (y := yL_cell) (bytes := cL_cell) (maxL := 2) (ret := some .int) (ws := xws yL_cell cL_cell 2 (some .int)) (rm := rm_L_cell) ⟨hx, hb, hml, hown, hts⟩ (c_L_cell l b L xs k r hF H.size) ⟨callB_of 2 hts (xgood wd_L_cell) rfl rfl rfl (hts _ wd_L_ini) (hts _ hl) (by decide +kernel) ⟨h1, h2⟩, hts _ wd_L_cells⟩ ⟨fun a U g mk q => ?_, fun U hU hW => ⟨rfl, by rw [hU], ?_, ?_⟩⟩ rfl rfl hls.1 rfl (lv_room hW) hdg hf) kk
  · obtain ⟨q0, q1, q2, q3⟩ := q
    exact ⟨q0, q1, va_X.moved (u := U) (U := U.calling g mk a) (Vm.Alike.refl U.vm) q2, q3⟩
  · rw [hU]
    exact va_X.moved hW.alike hXH
  · exact Nat.lt_of_lt_of_le hbl hS.1
end XCE
