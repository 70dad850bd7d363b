/-! FilterRows$ByteStore.<init>(I)V -/
abbrev rm_X0_init : Room := { frames := 1, cells := 1, slots := 4000, locals := 21 }
def f_X0_init (n : Nat) (x1 : Int32) : Option (Nat × (Nat → Int32) × Int32) := xnewn (if (0 : Int32) < x1 then x1 else (0 : Int32)) 4000 (some (((if (0 : Int32) < x1 then x1 else (0 : Int32))).toNatClampNeg, (fun _ => 0), 0))
set_option maxHeartbeats 4000000 in
set_option maxRecDepth 100000 in
theorem c_X0_init (l : Launch) (G : xG) (o : Nat) (x1 : Int32) (n : Nat) (z_o_heldN : Nat) (z_o_heldF : Nat → Int32) (z_o_count : Int32) (hF : f_X0_init n x1 = some (z_o_heldN, z_o_heldF, z_o_count)) (sz : Nat) : Met l yX0_init (xws yX0_init cX0_init 2 none) rm_X0_init (va_Pc [.ref o, .int x1] (xPre G [(o, .inr (0, [.null, .int 0]))] sz)) (xQB none (fun t => ∃ (o_held : Nat), xPost G [(o, .inr (0, [.ref o_held, .int z_o_count])), (o_held, .inl (G.2.1, z_o_heldN, .inl z_o_heldF))] (va_A [(o, .inr (0, [.null, .int 0]))] sz) t) (va_A [(o, .inr (0, [.null, .int 0]))] sz)) 1 4000 (va_A [(o, .inr (0, [.null, .int 0]))] sz) := by
  refine xMetB (B0 := fun A t => ∃ (o_held : Nat), xPost G [(o, .inr (0, [.ref o_held, .int z_o_count])), (o_held, .inl (G.2.1, z_o_heldN, .inl z_o_heldF))] A t) (by decide) (Nat.le_of_ble_eq_true rfl) ?_
  intro p e s m below meth c ls A H locs C0 hnm B hl
  have hl : lv_has ls 2 [(0, .ref o), (1, .int x1)] := hl
  have h := hF
  unfold f_X0_init at h
  obtain ⟨hx, hb, hr, hml, hown, hts, hlk⟩ := id C0
  refine lv_aload_n hx hb dX0_init_0 rfl (lv_at hl 0 rfl) ?_
  refine W.objInit hx hb hown (hts _ wd_0) (hts _ wd_1) (hts _ wd_2) rfl (by rw [hml]; exact hl.1) rfl dX0_init_1 (Nat.le_of_ble_eq_true rfl) (Nat.le_of_ble_eq_true rfl) ?_
  refine W.eq (g2 := F0 m 4 ls []) rfl ?_
  refine lv_aload_n hx hb dX0_init_4 rfl (lv_at hl 0 rfl) ?_
  refine lv_iconst (v := 0) hx hb dX0_init_5 (by decide) ?_
  refine lv_iload_n hx hb dX0_init_6 rfl (lv_at hl 1 rfl) ?_
  refine va_mmax hx hb (hml.trans hl.1.symm) hown (hts _ wd_3) (hts _ wd_4) (hts _ wd_5) (hts _ wd_6) (Nat.le_of_ble_eq_true rfl) (Nat.le_of_ble_eq_true rfl) (Nat.le_of_ble_eq_true rfl) (Nat.le_of_ble_eq_true rfl) dX0_init_7 ?_
  obtain ⟨b_2, b_2s, h⟩ := xnewn_spec h
  refine xnew_int (bnd := 4000) (ws' := fun q_1 => [(o, .inr (0, [.null, .int 0])), (q_1, .inl (G.2.1, ((if (0 : Int32) < x1 then x1 else (0 : Int32))).toNatClampNeg, .inl (fun _ => 0)))]) C0 B b_2 b_2s wd_7 (Nat.le_of_ble_eq_true rfl) (Nat.le_of_ble_eq_true rfl) (Nat.le_of_ble_eq_true rfl) (fun _ => rfl) dX0_init_10 (fun q_1 H locs B => ?_)
  refine W.widen (k := 1) (n := 4000) (Nat.le_of_ble_eq_true rfl) (Nat.le_of_ble_eq_true rfl) ?_
  refine xputF (ws' := [(o, .inr (0, [.ref q_1, .int 0])), (q_1, .inl (G.2.1, ((if (0 : Int32) < x1 then x1 else (0 : Int32))).toNatClampNeg, .inl (fun _ => 0)))]) C0 B inX0 tyX0 tyX0_ok nmX0 0 rfl rfl 0 (by decide) wd_8 rfl hnm rfl rfl rfl (Nat.le_of_ble_eq_true rfl) rfl dX0_init_12 (fun H locs B => ?_)
  obtain ⟨g1, k1⟩ := Prod.mk.inj (Option.some.inj h)
  obtain ⟨g2, k2⟩ := Prod.mk.inj k1
  subst g1 g2 k2
  refine W.widen (k := 1) (n := 4000) (Nat.le_of_ble_eq_true rfl) (Nat.le_of_ble_eq_true rfl) ?_
  exact xretB C0 B [0, 1] rfl rfl (fun t ht => ⟨q_1, ht⟩) dX0_init_15
/-! FilterRows$ByteStore.hasRoom(I)Z -/
abbrev rm_X0_hasRoom : Room := { frames := 0, cells := 0, slots := 0, locals := 0 }
def f_X0_hasRoom (n : Nat) (o_heldN : Nat) (o_count : Int32) (x1 : Int32) : Option Int32 := (if ((nI o_heldN) - o_count) < x1 then some (0 : Int32) else some (1 : Int32))
set_option maxHeartbeats 4000000 in
set_option maxRecDepth 100000 in
theorem c_X0_hasRoom (l : Launch) (G : xG) (o : Nat) (o_held : Nat) (o_heldN : Nat) (o_heldF : Nat → Int32) (o_count : Int32) (x1 : Int32) (n : Nat) (zr : Int32) (hF : f_X0_hasRoom n o_heldN o_count x1 = some zr) (sz : Nat) : Met l yX0_hasRoom (xws yX0_hasRoom cX0_hasRoom 2 (some .boolean)) rm_X0_hasRoom (va_Pc [.ref o, .int x1] (xPre G [(o, .inr (0, [.ref o_held, .int o_count])), (o_held, .inl (G.2.1, o_heldN, .inl o_heldF))] sz)) (xQR (some (.int zr)) (fun q => sz ≤ q)) 0 0 (fun q => sz ≤ q) := by
  refine xMetR (by decide) (Nat.le_of_ble_eq_true rfl) ?_
  intro p e s m below meth c ls A H locs C0 hnm B hl
  have hl : lv_has ls 2 [(0, .ref o), (1, .int x1)] := hl
  have h := hF
  unfold f_X0_hasRoom at h
  obtain ⟨hx, hb, hr, hml, hown, hts, hlk⟩ := id C0
  refine lv_iload_n hx hb dX0_hasRoom_0 rfl (lv_at hl 1 rfl) ?_
  refine lv_aload_n hx hb dX0_hasRoom_1 rfl (lv_at hl 0 rfl) ?_
  refine xget (v := .ref o_held) C0 B inX0 0 rfl rfl 0 (by decide) wd_8 rfl dX0_hasRoom_2 ?_
  refine xalen C0 B 1 0 rfl rfl dX0_hasRoom_5 ?_
  refine lv_aload_n hx hb dX0_hasRoom_6 rfl (lv_at hl 0 rfl) ?_
  refine xget (v := .int o_count) C0 B inX0 0 rfl rfl 1 (by decide) wd_12 rfl dX0_hasRoom_7 ?_
  refine lv_isub hx hb dX0_hasRoom_10 ?_
  refine lv_icmp_gt (tgt := 18) hx hb dX0_hasRoom_11 (by decide) (fun c_1 => ?_) (fun c_1 => ?_)
  · have h := oif_t h c_1
    refine lv_iconst (v := 0) hx hb dX0_hasRoom_18 (by decide) ?_
    obtain rfl := Option.some.inj h
    exact xretzR C0 B rfl dX0_hasRoom_19
  · have h := oif_f h c_1
    refine lv_iconst (v := 1) hx hb dX0_hasRoom_14 (by decide) ?_
    refine lv_goto (tgt := 19) hx hb dX0_hasRoom_15 (by decide) ?_
    obtain rfl := Option.some.inj h
    exact xretzR C0 B rfl dX0_hasRoom_19
/-! FilterRows$ByteStore.hasByte(I)Z -/
abbrev rm_X0_hasByte : Room := { frames := 0, cells := 0, slots := 0, locals := 0 }
def f_X0_hasByte (n : Nat) (o_count : Int32) (x1 : Int32) : Option Int32 := (if x1 < 0 then some (0 : Int32) else (if o_count ≤ x1 then some (0 : Int32) else some (1 : Int32)))
set_option maxHeartbeats 4000000 in
set_option maxRecDepth 100000 in
theorem c_X0_hasByte (l : Launch) (G : xG) (o : Nat) (o_held : Nat) (o_heldN : Nat) (o_heldF : Nat → Int32) (o_count : Int32) (x1 : Int32) (n : Nat) (zr : Int32) (hF : f_X0_hasByte n o_count x1 = some zr) (sz : Nat) : Met l yX0_hasByte (xws yX0_hasByte cX0_hasByte 2 (some .boolean)) rm_X0_hasByte (va_Pc [.ref o, .int x1] (xPre G [(o, .inr (0, [.ref o_held, .int o_count])), (o_held, .inl (G.2.1, o_heldN, .inl o_heldF))] sz)) (xQR (some (.int zr)) (fun q => sz ≤ q)) 0 0 (fun q => sz ≤ q) := by
  refine xMetR (by decide) (Nat.le_of_ble_eq_true rfl) ?_
  intro p e s m below meth c ls A H locs C0 hnm B hl
  have hl : lv_has ls 2 [(0, .ref o), (1, .int x1)] := hl
  have h := hF
  unfold f_X0_hasByte at h
  obtain ⟨hx, hb, hr, hml, hown, hts, hlk⟩ := id C0
  refine lv_iload_n hx hb dX0_hasByte_0 rfl (lv_at hl 1 rfl) ?_
  refine lv_if_lt (tgt := 16) hx hb dX0_hasByte_1 (by decide) (fun c_1 => ?_) (fun c_1 => ?_)
  · have h := oif_t h c_1
    refine lv_iconst (v := 0) hx hb dX0_hasByte_16 (by decide) ?_
    obtain rfl := Option.some.inj h
    exact xretzR C0 B rfl dX0_hasByte_17
  · have h := oif_f h c_1
    refine lv_iload_n hx hb dX0_hasByte_4 rfl (lv_at hl 1 rfl) ?_
    refine lv_aload_n hx hb dX0_hasByte_5 rfl (lv_at hl 0 rfl) ?_
    refine xget (v := .int o_count) C0 B inX0 0 rfl rfl 1 (by decide) wd_12 rfl dX0_hasByte_6 ?_
    refine lv_icmp_ge (tgt := 16) hx hb dX0_hasByte_9 (by decide) (fun c_2 => ?_) (fun c_2 => ?_)
    · have h := oif_t h c_2
      refine lv_iconst (v := 0) hx hb dX0_hasByte_16 (by decide) ?_
      obtain rfl := Option.some.inj h
      exact xretzR C0 B rfl dX0_hasByte_17
    · have h := oif_f h c_2
      refine lv_iconst (v := 1) hx hb dX0_hasByte_12 (by decide) ?_
      refine lv_goto (tgt := 17) hx hb dX0_hasByte_13 (by decide) ?_
      obtain rfl := Option.some.inj h
      exact xretzR C0 B rfl dX0_hasByte_17
/-! FilterRows$ByteStore.byteOf(I)I -/
abbrev rm_X0_byteOf : Room := { frames := 1, cells := 0, slots := 0, locals := 21 }
def f_X0_byteOf (n : Nat) (o_heldN : Nat) (o_heldF : Nat → Int32) (o_count : Int32) (x1 : Int32) : Option Int32 := xb (f_X0_hasByte n o_count x1) (fun r_1 => (if r_1 = 0 then some (0 : Int32) else xin x1 o_heldN (some (o_heldF (x1).toNatClampNeg))))
set_option maxHeartbeats 4000000 in
set_option maxRecDepth 100000 in
theorem c_X0_byteOf (l : Launch) (G : xG) (o : Nat) (o_held : Nat) (o_heldN : Nat) (o_heldF : Nat → Int32) (o_count : Int32) (x1 : Int32) (n : Nat) (zr : Int32) (hF : f_X0_byteOf n o_heldN o_heldF o_count x1 = some zr) (sz : Nat) : Met l yX0_byteOf (xws yX0_byteOf cX0_byteOf 2 (some .int)) rm_X0_byteOf (va_Pc [.ref o, .int x1] (xPre G [(o, .inr (0, [.ref o_held, .int o_count])), (o_held, .inl (G.2.1, o_heldN, .inl o_heldF))] sz)) (xQR (some (.int zr)) (fun q => sz ≤ q)) 0 0 (fun q => sz ≤ q) := by
  refine xMetR (by decide) (Nat.le_of_ble_eq_true rfl) ?_
  intro p e s m below meth c ls A H locs C0 hnm B hl
  have hl : lv_has ls 2 [(0, .ref o), (1, .int x1)] := hl
  have h := hF
  unfold f_X0_byteOf at h
  obtain ⟨hx, hb, hr, hml, hown, hts, hlk⟩ := id C0
  refine lv_aload_n hx hb dX0_byteOf_0 rfl (lv_at hl 0 rfl) ?_
  refine lv_iload_n hx hb dX0_byteOf_1 rfl (lv_at hl 1 rfl) ?_
  obtain ⟨r_1, e_2, h⟩ := xb_spec h
  refine xcallR (wc := [(o, .inr (0, [.ref o_held, .int o_count])), (o_held, .inl (G.2.1, o_heldN, .inl o_heldF))]) B [0, 1] rfl rfl (xrunV C0 (c_X0_hasByte l G o o_held o_heldN o_heldF o_count x1 n r_1 e_2 H.size) kb_X0_hasByte kv_X0_hasByte wd_19 (ci := 0) rfl rfl rfl rfl rfl ⟨Nat.le_of_ble_eq_true rfl, Nat.le_of_ble_eq_true rfl⟩ rfl hl rfl (Nat.le_of_ble_eq_true rfl) dX0_byteOf_2 ⟨Nat.le_of_ble_eq_true rfl, Nat.le_of_ble_eq_true rfl⟩) (fun H locs B => ?_)
  refine lv_if_eq (tgt := 17) hx hb dX0_byteOf_5 (by decide) (fun c_3 => ?_) (fun c_3 => ?_)
  · have h := oif_t h c_3
    refine lv_iconst (v := 0) hx hb dX0_byteOf_17 (by decide) ?_
    obtain rfl := Option.some.inj h
    exact xretiR C0 B dX0_byteOf_18
  · have h := oif_f h c_3
    refine lv_aload_n hx hb dX0_byteOf_8 rfl (lv_at hl 0 rfl) ?_
    refine xget (v := .ref o_held) C0 B inX0 0 rfl rfl 0 (by decide) wd_8 rfl dX0_byteOf_9 ?_
    refine lv_iload_n hx hb dX0_byteOf_12 rfl (lv_at hl 1 rfl) ?_
    obtain ⟨b_4, h⟩ := xin_spec h
    refine xiald C0 B 1 rfl b_4 dX0_byteOf_13 ?_
    refine lv_goto (tgt := 18) hx hb dX0_byteOf_14 (by decide) ?_
    obtain rfl := Option.some.inj h
    exact xretiR C0 B dX0_byteOf_18
/-! FilterRows$ByteStore.append(I)V -/
abbrev rm_X0_append : Room := { frames := 0, cells := 0, slots := 0, locals := 0 }
def f_X0_append (n : Nat) (o_heldN : Nat) (o_heldF : Nat → Int32) (o_count : Int32) (x1 : Int32) : Option ((Nat → Int32) × Int32) := (if (nI o_heldN) ≤ o_count then some (o_heldF, o_count) else xin o_count o_heldN (some ((upd o_heldF (o_count).toNatClampNeg x1), (o_count + (1 : Int32)))))
set_option maxHeartbeats 4000000 in
set_option maxRecDepth 100000 in
theorem c_X0_append (l : Launch) (G : xG) (o : Nat) (o_held : Nat) (o_heldN : Nat) (o_heldF : Nat → Int32) (o_count : Int32) (x1 : Int32) (n : Nat) (z_o_heldF : Nat → Int32) (z_o_count : Int32) (hF : f_X0_append n o_heldN o_heldF o_count x1 = some (z_o_heldF, z_o_count)) (sz : Nat) : Met l yX0_append (xws yX0_append cX0_append 2 none) rm_X0_append (va_Pc [.ref o, .int x1] (xPre G [(o, .inr (0, [.ref o_held, .int o_count])), (o_held, .inl (G.2.1, o_heldN, .inl o_heldF))] sz)) (xQ G none [(o, .inr (0, [.ref o_held, .int z_o_count])), (o_held, .inl (G.2.1, o_heldN, .inl z_o_heldF))] (va_A [(o, .inr (0, [.ref o_held, .int o_count])), (o_held, .inl (G.2.1, o_heldN, .inl o_heldF))] sz)) 0 0 (va_A [(o, .inr (0, [.ref o_held, .int o_count])), (o_held, .inl (G.2.1, o_heldN, .inl o_heldF))] sz) := by
  refine xMetQ (by decide) (Nat.le_of_ble_eq_true rfl) ?_
  intro p e s m below meth c ls A H locs C0 hnm B hl
  have hl : lv_has ls 2 [(0, .ref o), (1, .int x1)] := hl
  have h := hF
  unfold f_X0_append at h
  obtain ⟨hx, hb, hr, hml, hown, hts, hlk⟩ := id C0
  refine lv_aload_n hx hb dX0_append_0 rfl (lv_at hl 0 rfl) ?_
  refine xget (v := .int o_count) C0 B inX0 0 rfl rfl 1 (by decide) wd_12 rfl dX0_append_1 ?_
  refine lv_aload_n hx hb dX0_append_4 rfl (lv_at hl 0 rfl) ?_
  refine xget (v := .ref o_held) C0 B inX0 0 rfl rfl 0 (by decide) wd_8 rfl dX0_append_5 ?_
  refine xalen C0 B 1 0 rfl rfl dX0_append_8 ?_
  refine lv_icmp_ge (tgt := 32) hx hb dX0_append_9 (by decide) (fun c_1 => ?_) (fun c_1 => ?_)
  · have h := oif_t h c_1
    obtain ⟨g1, k1⟩ := Prod.mk.inj (Option.some.inj h)
    subst g1 k1
    exact xretv C0 B [0, 1] rfl rfl dX0_append_32
  · have h := oif_f h c_1
    refine lv_aload_n hx hb dX0_append_12 rfl (lv_at hl 0 rfl) ?_
    refine xget (v := .ref o_held) C0 B inX0 0 rfl rfl 0 (by decide) wd_8 rfl dX0_append_13 ?_
    refine lv_aload_n hx hb dX0_append_16 rfl (lv_at hl 0 rfl) ?_
    refine xget (v := .int o_count) C0 B inX0 0 rfl rfl 1 (by decide) wd_12 rfl dX0_append_17 ?_
    refine lv_iload_n hx hb dX0_append_20 rfl (lv_at hl 1 rfl) ?_
    obtain ⟨b_2, h⟩ := xin_spec h
    refine xiast (ws' := [(o, .inr (0, [.ref o_held, .int o_count])), (o_held, .inl (G.2.1, o_heldN, .inl (upd o_heldF (o_count).toNatClampNeg x1)))]) C0 B 1 rfl b_2 rfl dX0_append_21 (fun H locs B => ?_)
    refine lv_aload_n hx hb dX0_append_22 rfl (lv_at hl 0 rfl) ?_
    refine lv_dup hx hb dX0_append_23 rfl ?_
    refine xget (v := .int o_count) C0 B inX0 0 rfl rfl 1 (by decide) wd_12 rfl dX0_append_24 ?_
    refine lv_iconst (v := 1) hx hb dX0_append_27 (by decide) ?_
    refine lv_iadd hx hb dX0_append_28 ?_
    refine xput (ws' := [(o, .inr (0, [.ref o_held, .int (o_count + (1 : Int32))])), (o_held, .inl (G.2.1, o_heldN, .inl (upd o_heldF (o_count).toNatClampNeg x1)))]) C0 B inX0 tyX0 tyX0_ok nmX0 0 rfl rfl 1 (by decide) wd_12 rfl rfl rfl (Nat.le_of_ble_eq_true rfl) rfl dX0_append_29 (fun H locs B => ?_)
    obtain ⟨g1, k1⟩ := Prod.mk.inj (Option.some.inj h)
    subst g1 k1
    exact xretv C0 B [0, 1] rfl rfl dX0_append_32
/-! FilterRows$ByteStore.drop()V -/
abbrev rm_X0_drop : Room := { frames := 0, cells := 0, slots := 0, locals := 0 }
def f_X0_drop (n : Nat)   : Option Int32 := some (0 : Int32)
set_option maxHeartbeats 4000000 in
set_option maxRecDepth 100000 in
theorem c_X0_drop (l : Launch) (G : xG) (o : Nat) (o_held : Nat) (o_heldN : Nat) (o_heldF : Nat → Int32) (o_count : Int32)  (n : Nat) (z_o_count : Int32) (hF : f_X0_drop n  = some z_o_count) (sz : Nat) : Met l yX0_drop (xws yX0_drop cX0_drop 1 none) rm_X0_drop (va_Pc [.ref o] (xPre G [(o, .inr (0, [.ref o_held, .int o_count])), (o_held, .inl (G.2.1, o_heldN, .inl o_heldF))] sz)) (xQ G none [(o, .inr (0, [.ref o_held, .int z_o_count])), (o_held, .inl (G.2.1, o_heldN, .inl o_heldF))] (va_A [(o, .inr (0, [.ref o_held, .int o_count])), (o_held, .inl (G.2.1, o_heldN, .inl o_heldF))] sz)) 0 0 (va_A [(o, .inr (0, [.ref o_held, .int o_count])), (o_held, .inl (G.2.1, o_heldN, .inl o_heldF))] sz) := by
  refine xMetQ (by decide) (Nat.le_of_ble_eq_true rfl) ?_
  intro p e s m below meth c ls A H locs C0 hnm B hl
  have hl : lv_has ls 1 [(0, .ref o)] := hl
  have h := hF
  unfold f_X0_drop at h
  obtain ⟨hx, hb, hr, hml, hown, hts, hlk⟩ := id C0
  refine lv_aload_n hx hb dX0_drop_0 rfl (lv_at hl 0 rfl) ?_
  refine lv_iconst (v := 0) hx hb dX0_drop_1 (by decide) ?_
  refine xput (ws' := [(o, .inr (0, [.ref o_held, .int (0 : Int32)])), (o_held, .inl (G.2.1, o_heldN, .inl o_heldF))]) C0 B inX0 tyX0 tyX0_ok nmX0 0 rfl rfl 1 (by decide) wd_12 rfl rfl rfl (Nat.le_of_ble_eq_true rfl) rfl dX0_drop_2 (fun H locs B => ?_)
  obtain rfl := Option.some.inj h
  exact xretv C0 B [0, 1] rfl rfl dX0_drop_5
/-! FilterRows$Palette.<init>()V -/
abbrev rm_X1_init : Room := { frames := 1, cells := 3, slots := 192, locals := 20 }
def f_X1_init (n : Nat)  : Option (Nat × (Nat → Int32) × Nat × (Nat → Int32) × Nat × (Nat → Int32) × Int32 × Int32) := xnewn (64 : Int32) 64 (xnewn (64 : Int32) 64 (xnewn (64 : Int32) 64 (some (((64 : Int32)).toNatClampNeg, (fun _ => 0), ((64 : Int32)).toNatClampNeg, (fun _ => 0), ((64 : Int32)).toNatClampNeg, (fun _ => 0), 0, 0))))
set_option maxHeartbeats 4000000 in
set_option maxRecDepth 100000 in
theorem c_X1_init (l : Launch) (G : xG) (o : Nat)  (n : Nat) (z_o_coloursN : Nat) (z_o_coloursF : Nat → Int32) (z_o_numbersN : Nat) (z_o_numbersF : Nat → Int32) (z_o_placedN : Nat) (z_o_placedF : Nat → Int32) (z_o_count : Int32) (z_o_arranged : Int32) (hF : f_X1_init n  = some (z_o_coloursN, z_o_coloursF, z_o_numbersN, z_o_numbersF, z_o_placedN, z_o_placedF, z_o_count, z_o_arranged)) (sz : Nat) : Met l yX1_init (xws yX1_init cX1_init 1 none) rm_X1_init (va_Pc [.ref o] (xPre G [(o, .inr (1, [.null, .null, .null, .int 0, .int 0]))] sz)) (xQB none (fun t => ∃ (o_colours : Nat) (o_numbers : Nat) (o_placed : Nat), xPost G [(o, .inr (1, [.ref o_colours, .ref o_numbers, .ref o_placed, .int z_o_count, .int z_o_arranged])), (o_colours, .inl (G.2.1, z_o_coloursN, .inl z_o_coloursF)), (o_numbers, .inl (G.2.1, z_o_numbersN, .inl z_o_numbersF)), (o_placed, .inl (G.2.2.1, z_o_placedN, .inl z_o_placedF))] (va_A [(o, .inr (1, [.null, .null, .null, .int 0, .int 0]))] sz) t) (va_A [(o, .inr (1, [.null, .null, .null, .int 0, .int 0]))] sz)) 3 192 (va_A [(o, .inr (1, [.null, .null, .null, .int 0, .int 0]))] sz) := by
  refine xMetB (B0 := fun A t => ∃ (o_colours : Nat) (o_numbers : Nat) (o_placed : Nat), xPost G [(o, .inr (1, [.ref o_colours, .ref o_numbers, .ref o_placed, .int z_o_count, .int z_o_arranged])), (o_colours, .inl (G.2.1, z_o_coloursN, .inl z_o_coloursF)), (o_numbers, .inl (G.2.1, z_o_numbersN, .inl z_o_numbersF)), (o_placed, .inl (G.2.2.1, z_o_placedN, .inl z_o_placedF))] A t) (by decide) (Nat.le_of_ble_eq_true rfl) ?_
  intro p e s m below meth c ls A H locs C0 hnm B hl
  have hl : lv_has ls 1 [(0, .ref o)] := hl
  have h := hF
  unfold f_X1_init at h
  obtain ⟨hx, hb, hr, hml, hown, hts, hlk⟩ := id C0
  refine lv_aload_n hx hb dX1_init_0 rfl (lv_at hl 0 rfl) ?_
  refine W.objInit hx hb hown (hts _ wd_29) (hts _ wd_1) (hts _ wd_2) rfl (by rw [hml]; exact hl.1) rfl dX1_init_1 (Nat.le_of_ble_eq_true rfl) (Nat.le_of_ble_eq_true rfl) ?_
  refine W.eq (g2 := F0 m 4 ls []) rfl ?_
  refine lv_aload_n hx hb dX1_init_4 rfl (lv_at hl 0 rfl) ?_
  refine lv_bipush (v := 64) hx hb dX1_init_5 (by decide) ?_
  obtain ⟨b_2, b_2s, h⟩ := xnewn_spec h
  refine xnew_int (bnd := 64) (ws' := fun q_1 => [(o, .inr (1, [.null, .null, .null, .int 0, .int 0])), (q_1, .inl (G.2.1, ((64 : Int32)).toNatClampNeg, .inl (fun _ => 0)))]) C0 B b_2 b_2s wd_7 (Nat.le_of_ble_eq_true rfl) (Nat.le_of_ble_eq_true rfl) (Nat.le_of_ble_eq_true rfl) (fun _ => rfl) dX1_init_7 (fun q_1 H locs B => ?_)
  refine W.widen (k := 1) (n := 64) (Nat.le_of_ble_eq_true rfl) (Nat.le_of_ble_eq_true rfl) ?_
  refine xputF (ws' := [(o, .inr (1, [.ref q_1, .null, .null, .int 0, .int 0])), (q_1, .inl (G.2.1, ((64 : Int32)).toNatClampNeg, .inl (fun _ => 0)))]) C0 B inX1 tyX1 tyX1_ok nmX1 0 rfl rfl 0 (by decide) wd_30 rfl hnm rfl rfl rfl (Nat.le_of_ble_eq_true rfl) rfl dX1_init_9 (fun H locs B => ?_)
  refine lv_aload_n hx hb dX1_init_12 rfl (lv_at hl 0 rfl) ?_
  refine lv_bipush (v := 64) hx hb dX1_init_13 (by decide) ?_
  obtain ⟨b_4, b_4s, h⟩ := xnewn_spec h
  refine xnew_int (bnd := 64) (ws' := fun q_3 => [(o, .inr (1, [.ref q_1, .null, .null, .int 0, .int 0])), (q_1, .inl (G.2.1, ((64 : Int32)).toNatClampNeg, .inl (fun _ => 0))), (q_3, .inl (G.2.1, ((64 : Int32)).toNatClampNeg, .inl (fun _ => 0)))]) C0 B b_4 b_4s wd_7 (Nat.le_of_ble_eq_true rfl) (Nat.le_of_ble_eq_true rfl) (Nat.le_of_ble_eq_true rfl) (fun _ => rfl) dX1_init_15 (fun q_3 H locs B => ?_)
  refine W.widen (k := 2) (n := 128) (Nat.le_of_ble_eq_true rfl) (Nat.le_of_ble_eq_true rfl) ?_
  refine xputF (ws' := [(o, .inr (1, [.ref q_1, .ref q_3, .null, .int 0, .int 0])), (q_1, .inl (G.2.1, ((64 : Int32)).toNatClampNeg, .inl (fun _ => 0))), (q_3, .inl (G.2.1, ((64 : Int32)).toNatClampNeg, .inl (fun _ => 0)))]) C0 B inX1 tyX1 tyX1_ok nmX1 0 rfl rfl 1 (by decide) wd_31 rfl hnm rfl rfl rfl (Nat.le_of_ble_eq_true rfl) rfl dX1_init_17 (fun H locs B => ?_)
  refine lv_aload_n hx hb dX1_init_20 rfl (lv_at hl 0 rfl) ?_
  refine lv_bipush (v := 64) hx hb dX1_init_21 (by decide) ?_
  obtain ⟨b_6, b_6s, h⟩ := xnewn_spec h
  refine xnew_boolean (bnd := 64) (ws' := fun q_5 => [(o, .inr (1, [.ref q_1, .ref q_3, .null, .int 0, .int 0])), (q_1, .inl (G.2.1, ((64 : Int32)).toNatClampNeg, .inl (fun _ => 0))), (q_3, .inl (G.2.1, ((64 : Int32)).toNatClampNeg, .inl (fun _ => 0))), (q_5, .inl (G.2.2.1, ((64 : Int32)).toNatClampNeg, .inl (fun _ => 0)))]) C0 B b_6 b_6s wd_32 (Nat.le_of_ble_eq_true rfl) (Nat.le_of_ble_eq_true rfl) (Nat.le_of_ble_eq_true rfl) (fun _ => rfl) dX1_init_23 (fun q_5 H locs B => ?_)
  refine W.widen (k := 3) (n := 192) (Nat.le_of_ble_eq_true rfl) (Nat.le_of_ble_eq_true rfl) ?_
  refine xputF (ws' := [(o, .inr (1, [.ref q_1, .ref q_3, .ref q_5, .int 0, .int 0])), (q_1, .inl (G.2.1, ((64 : Int32)).toNatClampNeg, .inl (fun _ => 0))), (q_3, .inl (G.2.1, ((64 : Int32)).toNatClampNeg, .inl (fun _ => 0))), (q_5, .inl (G.2.2.1, ((64 : Int32)).toNatClampNeg, .inl (fun _ => 0)))]) C0 B inX1 tyX1 tyX1_ok nmX1 0 rfl rfl 2 (by decide) wd_33 rfl hnm rfl rfl rfl (Nat.le_of_ble_eq_true rfl) rfl dX1_init_25 (fun H locs B => ?_)
  obtain ⟨g1, k1⟩ := Prod.mk.inj (Option.some.inj h)
  obtain ⟨g2, k2⟩ := Prod.mk.inj k1
  obtain ⟨g3, k3⟩ := Prod.mk.inj k2
  obtain ⟨g4, k4⟩ := Prod.mk.inj k3
  obtain ⟨g5, k5⟩ := Prod.mk.inj k4
  obtain ⟨g6, k6⟩ := Prod.mk.inj k5
  obtain ⟨g7, k7⟩ := Prod.mk.inj k6
  subst g1 g2 g3 g4 g5 g6 g7 k7
  refine W.widen (k := 3) (n := 192) (Nat.le_of_ble_eq_true rfl) (Nat.le_of_ble_eq_true rfl) ?_
  exact xretB C0 B [0, 1, 2, 3] rfl rfl (fun t ht => ⟨q_1, q_3, q_5, ht⟩) dX1_init_28
/-! FilterRows$Palette.forgetOrder()V -/
abbrev rm_X1_forgetOrder : Room := { frames := 0, cells := 0, slots := 0, locals := 0 }
def fl_X1_forgetOrder_7 : Nat → Nat → (Nat → Int32) → Int32 → Option (Int32 × (Nat → Int32))
  | 0, _, _, _ => none
  | n + 1, o_placedN, o_placedF, y1 => (if (nI o_placedN) ≤ y1 then some (y1, o_placedF) else xin y1 o_placedN (fl_X1_forgetOrder_7 n o_placedN (upd o_placedF (y1).toNatClampNeg (0 : Int32)) (y1 + (1 : Int32))))
def f_X1_forgetOrder (n : Nat) (o_placedN : Nat) (o_placedF : Nat → Int32)  : Option ((Nat → Int32) × Int32) := xb (fl_X1_forgetOrder_7 n o_placedN o_placedF (0 : Int32)) (fun (v_1, w_2) => some (w_2, (0 : Int32)))
set_option maxHeartbeats 4000000 in
set_option maxRecDepth 100000 in
theorem lo_X1_forgetOrder_7 {p : Program} {l : Launch} {e : Env} {s : State} {m : MethodId} {args : Array Value} {below : List Frame} {meth : Method} {c : Code} {Q : State → Prop} {G : xG} {A : Nat → Prop} (C0 : xC p s m args meth c "FilterRows$Palette" cX1_forgetOrder 2 none) : ∀ (n : Nat) (o : Nat) (o_colours : Nat) (o_coloursN : Nat) (o_coloursF : Nat → Int32) (o_numbers : Nat) (o_numbersN : Nat) (o_numbersF : Nat → Int32) (o_placed : Nat) (o_placedN : Nat) (o_placedF : Nat → Int32) (o_count : Int32) (o_arranged : Int32) (y1 : Int32) (z1 : Int32) (z_o_placedF : Nat → Int32), fl_X1_forgetOrder_7 n o_placedN o_placedF y1 = some (z1, z_o_placedF) → ∀ (H : Heap) (locs : List Loc) (ls : Array Slot), xW G true A s [(o, .inr (1, [.ref o_colours, .ref o_numbers, .ref o_placed, .int o_count, .int o_arranged])), (o_colours, .inl (G.2.1, o_coloursN, .inl o_coloursF)), (o_numbers, .inl (G.2.1, o_numbersN, .inl o_numbersF)), (o_placed, .inl (G.2.2.1, o_placedN, .inl o_placedF))] H locs → lv_has ls 2 [(0, .ref o), (1, .int y1)] → (∀ (H : Heap) (locs : List Loc) (ls : Array Slot), xW G true A s [(o, .inr (1, [.ref o_colours, .ref o_numbers, .ref o_placed, .int o_count, .int o_arranged])), (o_colours, .inl (G.2.1, o_coloursN, .inl o_coloursF)), (o_numbers, .inl (G.2.1, o_numbersN, .inl o_numbersF)), (o_placed, .inl (G.2.2.1, o_placedN, .inl z_o_placedF))] H locs → lv_has ls 2 [(0, .ref o), (1, .int z1)] → W p l e rm_X1_forgetOrder s m args below meth c H locs 0 0 Q (F0 m 29 ls [])) → W p l e rm_X1_forgetOrder s m args below meth c H locs 0 0 Q (F0 m 7 ls []) := by
  obtain ⟨hx, hb, hr, hml, hown, hts, hlk⟩ := id C0
  intro n
  induction n with
  | zero =>
    intro o o_colours o_coloursN o_coloursF o_numbers o_numbersN o_numbersF o_placed o_placedN o_placedF o_count o_arranged y1 z1 z_o_placedF h
    rw [fl_X1_forgetOrder_7] at h
    cases h
  | succ n ih =>
    intro o o_colours o_coloursN o_coloursF o_numbers o_numbersN o_numbersF o_placed o_placedN o_placedF o_count o_arranged y1 z1 z_o_placedF h H locs ls B hl K
    rw [fl_X1_forgetOrder_7] at h
    refine lv_iload_n hx hb dX1_forgetOrder_7 rfl (lv_at hl 1 rfl) ?_
    refine lv_aload_n hx hb dX1_forgetOrder_8 rfl (lv_at hl 0 rfl) ?_
    refine xget (v := .ref o_placed) C0 B inX1 0 rfl rfl 2 (by decide) wd_33 rfl dX1_forgetOrder_9 ?_
    refine xalen C0 B 3 1 rfl rfl dX1_forgetOrder_12 ?_
    refine lv_icmp_ge (tgt := 29) hx hb dX1_forgetOrder_13 (by decide) (fun c_1 => ?_) (fun c_1 => ?_)
    · have h := oif_t h c_1
      obtain ⟨g1, k1⟩ := Prod.mk.inj (Option.some.inj h)
      subst g1 k1
      exact K H locs ls (B.sub [0, 1, 2, 3] rfl rfl) (lv_sub hl [0, 1] rfl)
    · have h := oif_f h c_1
      refine lv_aload_n hx hb dX1_forgetOrder_16 rfl (lv_at hl 0 rfl) ?_
      refine xget (v := .ref o_placed) C0 B inX1 0 rfl rfl 2 (by decide) wd_33 rfl dX1_forgetOrder_17 ?_
      refine lv_iload_n hx hb dX1_forgetOrder_20 rfl (lv_at hl 1 rfl) ?_
      refine lv_iconst (v := 0) hx hb dX1_forgetOrder_21 (by decide) ?_
      obtain ⟨b_2, h⟩ := xin_spec h
      refine xzast (ws' := [(o, .inr (1, [.ref o_colours, .ref o_numbers, .ref o_placed, .int o_count, .int o_arranged])), (o_colours, .inl (G.2.1, o_coloursN, .inl o_coloursF)), (o_numbers, .inl (G.2.1, o_numbersN, .inl o_numbersF)), (o_placed, .inl (G.2.2.1, o_placedN, .inl (upd o_placedF (y1).toNatClampNeg (0 : Int32))))]) C0 B 3 rfl rfl b_2 rfl dX1_forgetOrder_22 (fun H locs B => ?_)
      refine lv_iinc (v := (y1 + (1 : Int32))) (lv' := [(1, .int (y1 + (1 : Int32))), (0, .ref o)]) hx hb dX1_forgetOrder_23 hl (k := 1) rfl rfl (by decide) rfl (fun ls hl => ?_)
      refine lv_goto (tgt := 7) hx hb dX1_forgetOrder_26 (by decide) ?_
      exact ih o o_colours o_coloursN o_coloursF o_numbers o_numbersN o_numbersF o_placed o_placedN (upd o_placedF (y1).toNatClampNeg (0 : Int32)) o_count o_arranged (y1 + (1 : Int32)) _ _ h H locs ls (B.sub [0, 1, 2, 3] rfl rfl) (lv_sub hl [1, 0] rfl) K
set_option maxHeartbeats 4000000 in
set_option maxRecDepth 100000 in
theorem c_X1_forgetOrder (l : Launch) (G : xG) (o : Nat) (o_colours : Nat) (o_coloursN : Nat) (o_coloursF : Nat → Int32) (o_numbers : Nat) (o_numbersN : Nat) (o_numbersF : Nat → Int32) (o_placed : Nat) (o_placedN : Nat) (o_placedF : Nat → Int32) (o_count : Int32) (o_arranged : Int32)  (n : Nat) (z_o_placedF : Nat → Int32) (z_o_arranged : Int32) (hF : f_X1_forgetOrder n o_placedN o_placedF = some (z_o_placedF, z_o_arranged)) (sz : Nat) : Met l yX1_forgetOrder (xws yX1_forgetOrder cX1_forgetOrder 2 none) rm_X1_forgetOrder (va_Pc [.ref o] (xPre G [(o, .inr (1, [.ref o_colours, .ref o_numbers, .ref o_placed, .int o_count, .int o_arranged])), (o_colours, .inl (G.2.1, o_coloursN, .inl o_coloursF)), (o_numbers, .inl (G.2.1, o_numbersN, .inl o_numbersF)), (o_placed, .inl (G.2.2.1, o_placedN, .inl o_placedF))] sz)) (xQ G none [(o, .inr (1, [.ref o_colours, .ref o_numbers, .ref o_placed, .int o_count, .int z_o_arranged])), (o_colours, .inl (G.2.1, o_coloursN, .inl o_coloursF)), (o_numbers, .inl (G.2.1, o_numbersN, .inl o_numbersF)), (o_placed, .inl (G.2.2.1, o_placedN, .inl z_o_placedF))] (va_A [(o, .inr (1, [.ref o_colours, .ref o_numbers, .ref o_placed, .int o_count, .int o_arranged])), (o_colours, .inl (G.2.1, o_coloursN, .inl o_coloursF)), (o_numbers, .inl (G.2.1, o_numbersN, .inl o_numbersF)), (o_placed, .inl (G.2.2.1, o_placedN, .inl o_placedF))] sz)) 0 0 (va_A [(o, .inr (1, [.ref o_colours, .ref o_numbers, .ref o_placed, .int o_count, .int o_arranged])), (o_colours, .inl (G.2.1, o_coloursN, .inl o_coloursF)), (o_numbers, .inl (G.2.1, o_numbersN, .inl o_numbersF)), (o_placed, .inl (G.2.2.1, o_placedN, .inl o_placedF))] sz) := by
  refine xMetQ (by decide) (Nat.le_of_ble_eq_true rfl) ?_
  intro p e s m below meth c ls A H locs C0 hnm B hl
  have hl : lv_has ls 2 [(0, .ref o)] := hl
  have h := hF
  unfold f_X1_forgetOrder at h
  obtain ⟨hx, hb, hr, hml, hown, hts, hlk⟩ := id C0
  refine lv_aload_n hx hb dX1_forgetOrder_0 rfl (lv_at hl 0 rfl) ?_
  refine lv_iconst (v := 0) hx hb dX1_forgetOrder_1 (by decide) ?_
  refine xput (ws' := [(o, .inr (1, [.ref o_colours, .ref o_numbers, .ref o_placed, .int o_count, .int (0 : Int32)])), (o_colours, .inl (G.2.1, o_coloursN, .inl o_coloursF)), (o_numbers, .inl (G.2.1, o_numbersN, .inl o_numbersF)), (o_placed, .inl (G.2.2.1, o_placedN, .inl o_placedF))]) C0 B inX1 tyX1 tyX1_ok nmX1 0 rfl rfl 4 (by decide) wd_38 rfl rfl rfl (Nat.le_of_ble_eq_true rfl) rfl dX1_forgetOrder_2 (fun H locs B => ?_)
  refine lv_iconst (v := 0) hx hb dX1_forgetOrder_5 (by decide) ?_
  refine lv_istore_n (lv' := [(1, .int (0 : Int32)), (0, .ref o)]) hx hb dX1_forgetOrder_6 rfl hl (by decide) rfl (fun ls hl => ?_)
  obtain ⟨⟨v_1, w_2⟩, e_3, h⟩ := xb_spec h
  refine lo_X1_forgetOrder_7 C0 n o o_colours o_coloursN o_coloursF o_numbers o_numbersN o_numbersF o_placed o_placedN o_placedF o_count (0 : Int32) (0 : Int32) v_1 w_2 e_3 H locs ls (B.sub [0, 1, 2, 3] rfl rfl) (lv_sub hl [1, 0] rfl) (fun H locs ls B hl => ?_)
  obtain ⟨g1, k1⟩ := Prod.mk.inj (Option.some.inj h)
  subst g1 k1
  exact xretv C0 B [0, 1, 2, 3] rfl rfl dX1_forgetOrder_29
/-! FilterRows$Palette.append(I)I -/
abbrev rm_X1_append : Room := { frames := 1, cells := 0, slots := 0, locals := 21 }
def f_X1_append (n : Nat) (o_coloursN : Nat) (o_coloursF : Nat → Int32) (o_placedN : Nat) (o_placedF : Nat → Int32) (o_count : Int32) (x1 : Int32) : Option (Int32 × (Nat → Int32) × (Nat → Int32) × Int32 × Int32) := (if (nI o_coloursN) ≤ o_count then xb (f_X1_forgetOrder n o_placedN o_placedF) (fun (w_2, w_3) => some ((o_count - (1 : Int32)), o_coloursF, w_2, o_count, w_3)) else xin o_count o_coloursN (xb (f_X1_forgetOrder n o_placedN o_placedF) (fun (w_6, w_7) => some (((o_count + (1 : Int32)) - (1 : Int32)), (upd o_coloursF (o_count).toNatClampNeg x1), w_6, (o_count + (1 : Int32)), w_7))))
set_option maxHeartbeats 4000000 in
set_option maxRecDepth 100000 in
theorem c_X1_append (l : Launch) (G : xG) (o : Nat) (o_colours : Nat) (o_coloursN : Nat) (o_coloursF : Nat → Int32) (o_numbers : Nat) (o_numbersN : Nat) (o_numbersF : Nat → Int32) (o_placed : Nat) (o_placedN : Nat) (o_placedF : Nat → Int32) (o_count : Int32) (o_arranged : Int32) (x1 : Int32) (n : Nat) (zr : Int32) (z_o_coloursF : Nat → Int32) (z_o_placedF : Nat → Int32) (z_o_count : Int32) (z_o_arranged : Int32) (hF : f_X1_append n o_coloursN o_coloursF o_placedN o_placedF o_count x1 = some (zr, z_o_coloursF, z_o_placedF, z_o_count, z_o_arranged)) (sz : Nat) : Met l yX1_append (xws yX1_append cX1_append 2 (some .int)) rm_X1_append (va_Pc [.ref o, .int x1] (xPre G [(o, .inr (1, [.ref o_colours, .ref o_numbers, .ref o_placed, .int o_count, .int o_arranged])), (o_colours, .inl (G.2.1, o_coloursN, .inl o_coloursF)), (o_numbers, .inl (G.2.1, o_numbersN, .inl o_numbersF)), (o_placed, .inl (G.2.2.1, o_placedN, .inl o_placedF))] sz)) (xQ G (some (.int zr)) [(o, .inr (1, [.ref o_colours, .ref o_numbers, .ref o_placed, .int z_o_count, .int z_o_arranged])), (o_colours, .inl (G.2.1, o_coloursN, .inl z_o_coloursF)), (o_numbers, .inl (G.2.1, o_numbersN, .inl o_numbersF)), (o_placed, .inl (G.2.2.1, o_placedN, .inl z_o_placedF))] (va_A [(o, .inr (1, [.ref o_colours, .ref o_numbers, .ref o_placed, .int o_count, .int o_arranged])), (o_colours, .inl (G.2.1, o_coloursN, .inl o_coloursF)), (o_numbers, .inl (G.2.1, o_numbersN, .inl o_numbersF)), (o_placed, .inl (G.2.2.1, o_placedN, .inl o_placedF))] sz)) 0 0 (va_A [(o, .inr (1, [.ref o_colours, .ref o_numbers, .ref o_placed, .int o_count, .int o_arranged])), (o_colours, .inl (G.2.1, o_coloursN, .inl o_coloursF)), (o_numbers, .inl (G.2.1, o_numbersN, .inl o_numbersF)), (o_placed, .inl (G.2.2.1, o_placedN, .inl o_placedF))] sz) := by
  refine xMetQ (by decide) (Nat.le_of_ble_eq_true rfl) ?_
  intro p e s m below meth c ls A H locs C0 hnm B hl
  have hl : lv_has ls 2 [(0, .ref o), (1, .int x1)] := hl
  have h := hF
  unfold f_X1_append at h
  obtain ⟨hx, hb, hr, hml, hown, hts, hlk⟩ := id C0
  refine lv_aload_n hx hb dX1_append_0 rfl (lv_at hl 0 rfl) ?_
  refine xget (v := .int o_count) C0 B inX1 0 rfl rfl 3 (by decide) wd_37 rfl dX1_append_1 ?_
  refine lv_aload_n hx hb dX1_append_4 rfl (lv_at hl 0 rfl) ?_
  refine xget (v := .ref o_colours) C0 B inX1 0 rfl rfl 0 (by decide) wd_30 rfl dX1_append_5 ?_
  refine xalen C0 B 1 0 rfl rfl dX1_append_8 ?_
  refine lv_icmp_ge (tgt := 32) hx hb dX1_append_9 (by decide) (fun c_1 => ?_) (fun c_1 => ?_)
  · have h := oif_t h c_1
    refine lv_aload_n hx hb dX1_append_32 rfl (lv_at hl 0 rfl) ?_
    obtain ⟨⟨w_2, w_3⟩, e_4, h⟩ := xb_spec h
    dsimp only at h
    refine xcall0 (wc := [(o, .inr (1, [.ref o_colours, .ref o_numbers, .ref o_placed, .int o_count, .int o_arranged])), (o_colours, .inl (G.2.1, o_coloursN, .inl o_coloursF)), (o_numbers, .inl (G.2.1, o_numbersN, .inl o_numbersF)), (o_placed, .inl (G.2.2.1, o_placedN, .inl o_placedF))]) (wr := []) (w1 := [(o, .inr (1, [.ref o_colours, .ref o_numbers, .ref o_placed, .int o_count, .int w_3])), (o_colours, .inl (G.2.1, o_coloursN, .inl o_coloursF)), (o_numbers, .inl (G.2.1, o_numbersN, .inl o_numbersF)), (o_placed, .inl (G.2.2.1, o_placedN, .inl w_2))]) (ws' := [(o, .inr (1, [.ref o_colours, .ref o_numbers, .ref o_placed, .int o_count, .int w_3])), (o_colours, .inl (G.2.1, o_coloursN, .inl o_coloursF)), (o_numbers, .inl (G.2.1, o_numbersN, .inl o_numbersF)), (o_placed, .inl (G.2.2.1, o_placedN, .inl w_2))]) B [0, 1, 2, 3] [] [0, 1, 2, 3] rfl rfl rfl rfl (by decide) rfl rfl (xrunV C0 (c_X1_forgetOrder l G o o_colours o_coloursN o_coloursF o_numbers o_numbersN o_numbersF o_placed o_placedN o_placedF o_count o_arranged  n w_2 w_3 e_4 H.size) kb_X1_forgetOrder kv_X1_forgetOrder wd_42 (ci := 1) rfl rfl rfl rfl rfl ⟨Nat.le_of_ble_eq_true rfl, Nat.le_of_ble_eq_true rfl⟩ rfl hl rfl (Nat.le_of_ble_eq_true rfl) dX1_append_33 ⟨Nat.le_of_ble_eq_true rfl, Nat.le_of_ble_eq_true rfl⟩) (fun H locs B => ?_)
    refine lv_aload_n hx hb dX1_append_36 rfl (lv_at hl 0 rfl) ?_
    refine xget (v := .int o_count) C0 B inX1 0 rfl rfl 3 (by decide) wd_37 rfl dX1_append_37 ?_
    refine lv_iconst (v := 1) hx hb dX1_append_40 (by decide) ?_
    refine lv_isub hx hb dX1_append_41 ?_
    obtain ⟨g1, k1⟩ := Prod.mk.inj (Option.some.inj h)
    obtain ⟨g2, k2⟩ := Prod.mk.inj k1
    obtain ⟨g3, k3⟩ := Prod.mk.inj k2
    obtain ⟨g4, k4⟩ := Prod.mk.inj k3
    subst g1 g2 g3 g4 k4
    exact xreti C0 B [0, 1, 2, 3] rfl rfl dX1_append_42
  · have h := oif_f h c_1
    refine lv_aload_n hx hb dX1_append_12 rfl (lv_at hl 0 rfl) ?_
    refine xget (v := .ref o_colours) C0 B inX1 0 rfl rfl 0 (by decide) wd_30 rfl dX1_append_13 ?_
    refine lv_aload_n hx hb dX1_append_16 rfl (lv_at hl 0 rfl) ?_
    refine xget (v := .int o_count) C0 B inX1 0 rfl rfl 3 (by decide) wd_37 rfl dX1_append_17 ?_
    refine lv_iload_n hx hb dX1_append_20 rfl (lv_at hl 1 rfl) ?_
    obtain ⟨b_5, h⟩ := xin_spec h
    refine xiast (ws' := [(o, .inr (1, [.ref o_colours, .ref o_numbers, .ref o_placed, .int o_count, .int o_arranged])), (o_colours, .inl (G.2.1, o_coloursN, .inl (upd o_coloursF (o_count).toNatClampNeg x1))), (o_numbers, .inl (G.2.1, o_numbersN, .inl o_numbersF)), (o_placed, .inl (G.2.2.1, o_placedN, .inl o_placedF))]) C0 B 1 rfl b_5 rfl dX1_append_21 (fun H locs B => ?_)
    refine lv_aload_n hx hb dX1_append_22 rfl (lv_at hl 0 rfl) ?_
    refine lv_dup hx hb dX1_append_23 rfl ?_
    refine xget (v := .int o_count) C0 B inX1 0 rfl rfl 3 (by decide) wd_37 rfl dX1_append_24 ?_
    refine lv_iconst (v := 1) hx hb dX1_append_27 (by decide) ?_
    refine lv_iadd hx hb dX1_append_28 ?_
    refine xput (ws' := [(o, .inr (1, [.ref o_colours, .ref o_numbers, .ref o_placed, .int (o_count + (1 : Int32)), .int o_arranged])), (o_colours, .inl (G.2.1, o_coloursN, .inl (upd o_coloursF (o_count).toNatClampNeg x1))), (o_numbers, .inl (G.2.1, o_numbersN, .inl o_numbersF)), (o_placed, .inl (G.2.2.1, o_placedN, .inl o_placedF))]) C0 B inX1 tyX1 tyX1_ok nmX1 0 rfl rfl 3 (by decide) wd_37 rfl rfl rfl (Nat.le_of_ble_eq_true rfl) rfl dX1_append_29 (fun H locs B => ?_)
    refine lv_aload_n hx hb dX1_append_32 rfl (lv_at hl 0 rfl) ?_
    obtain ⟨⟨w_6, w_7⟩, e_8, h⟩ := xb_spec h
    dsimp only at h
    refine xcall0 (wc := [(o, .inr (1, [.ref o_colours, .ref o_numbers, .ref o_placed, .int (o_count + (1 : Int32)), .int o_arranged])), (o_colours, .inl (G.2.1, o_coloursN, .inl (upd o_coloursF (o_count).toNatClampNeg x1))), (o_numbers, .inl (G.2.1, o_numbersN, .inl o_numbersF)), (o_placed, .inl (G.2.2.1, o_placedN, .inl o_placedF))]) (wr := []) (w1 := [(o, .inr (1, [.ref o_colours, .ref o_numbers, .ref o_placed, .int (o_count + (1 : Int32)), .int w_7])), (o_colours, .inl (G.2.1, o_coloursN, .inl (upd o_coloursF (o_count).toNatClampNeg x1))), (o_numbers, .inl (G.2.1, o_numbersN, .inl o_numbersF)), (o_placed, .inl (G.2.2.1, o_placedN, .inl w_6))]) (ws' := [(o, .inr (1, [.ref o_colours, .ref o_numbers, .ref o_placed, .int (o_count + (1 : Int32)), .int w_7])), (o_colours, .inl (G.2.1, o_coloursN, .inl (upd o_coloursF (o_count).toNatClampNeg x1))), (o_numbers, .inl (G.2.1, o_numbersN, .inl o_numbersF)), (o_placed, .inl (G.2.2.1, o_placedN, .inl w_6))]) B [0, 1, 2, 3] [] [0, 1, 2, 3] rfl rfl rfl rfl (by decide) rfl rfl (xrunV C0 (c_X1_forgetOrder l G o o_colours o_coloursN (upd o_coloursF (o_count).toNatClampNeg x1) o_numbers o_numbersN o_numbersF o_placed o_placedN o_placedF (o_count + (1 : Int32)) o_arranged  n w_6 w_7 e_8 H.size) kb_X1_forgetOrder kv_X1_forgetOrder wd_42 (ci := 1) rfl rfl rfl rfl rfl ⟨Nat.le_of_ble_eq_true rfl, Nat.le_of_ble_eq_true rfl⟩ rfl hl rfl (Nat.le_of_ble_eq_true rfl) dX1_append_33 ⟨Nat.le_of_ble_eq_true rfl, Nat.le_of_ble_eq_true rfl⟩) (fun H locs B => ?_)
    refine lv_aload_n hx hb dX1_append_36 rfl (lv_at hl 0 rfl) ?_
    refine xget (v := .int (o_count + (1 : Int32))) C0 B inX1 0 rfl rfl 3 (by decide) wd_37 rfl dX1_append_37 ?_
    refine lv_iconst (v := 1) hx hb dX1_append_40 (by decide) ?_
    refine lv_isub hx hb dX1_append_41 ?_
    obtain ⟨g1, k1⟩ := Prod.mk.inj (Option.some.inj h)
    obtain ⟨g2, k2⟩ := Prod.mk.inj k1
    obtain ⟨g3, k3⟩ := Prod.mk.inj k2
    obtain ⟨g4, k4⟩ := Prod.mk.inj k3
    subst g1 g2 g3 g4 k4
    exact xreti C0 B [0, 1, 2, 3] rfl rfl dX1_append_42
/-! FilterRows$Palette.drop()V -/
abbrev rm_X1_drop : Room := { frames := 1, cells := 0, slots := 0, locals := 21 }
def f_X1_drop (n : Nat) (o_placedN : Nat) (o_placedF : Nat → Int32)  : Option ((Nat → Int32) × Int32 × Int32) := xb (f_X1_forgetOrder n o_placedN o_placedF) (fun (w_1, w_2) => some (w_1, (0 : Int32), w_2))
set_option maxHeartbeats 4000000 in
set_option maxRecDepth 100000 in
theorem c_X1_drop (l : Launch) (G : xG) (o : Nat) (o_colours : Nat) (o_coloursN : Nat) (o_coloursF : Nat → Int32) (o_numbers : Nat) (o_numbersN : Nat) (o_numbersF : Nat → Int32) (o_placed : Nat) (o_placedN : Nat) (o_placedF : Nat → Int32) (o_count : Int32) (o_arranged : Int32)  (n : Nat) (z_o_placedF : Nat → Int32) (z_o_count : Int32) (z_o_arranged : Int32) (hF : f_X1_drop n o_placedN o_placedF = some (z_o_placedF, z_o_count, z_o_arranged)) (sz : Nat) : Met l yX1_drop (xws yX1_drop cX1_drop 1 none) rm_X1_drop (va_Pc [.ref o] (xPre G [(o, .inr (1, [.ref o_colours, .ref o_numbers, .ref o_placed, .int o_count, .int o_arranged])), (o_colours, .inl (G.2.1, o_coloursN, .inl o_coloursF)), (o_numbers, .inl (G.2.1, o_numbersN, .inl o_numbersF)), (o_placed, .inl (G.2.2.1, o_placedN, .inl o_placedF))] sz)) (xQ G none [(o, .inr (1, [.ref o_colours, .ref o_numbers, .ref o_placed, .int z_o_count, .int z_o_arranged])), (o_colours, .inl (G.2.1, o_coloursN, .inl o_coloursF)), (o_numbers, .inl (G.2.1, o_numbersN, .inl o_numbersF)), (o_placed, .inl (G.2.2.1, o_placedN, .inl z_o_placedF))] (va_A [(o, .inr (1, [.ref o_colours, .ref o_numbers, .ref o_placed, .int o_count, .int o_arranged])), (o_colours, .inl (G.2.1, o_coloursN, .inl o_coloursF)), (o_numbers, .inl (G.2.1, o_numbersN, .inl o_numbersF)), (o_placed, .inl (G.2.2.1, o_placedN, .inl o_placedF))] sz)) 0 0 (va_A [(o, .inr (1, [.ref o_colours, .ref o_numbers, .ref o_placed, .int o_count, .int o_arranged])), (o_colours, .inl (G.2.1, o_coloursN, .inl o_coloursF)), (o_numbers, .inl (G.2.1, o_numbersN, .inl o_numbersF)), (o_placed, .inl (G.2.2.1, o_placedN, .inl o_placedF))] sz) := by
  refine xMetQ (by decide) (Nat.le_of_ble_eq_true rfl) ?_
  intro p e s m below meth c ls A H locs C0 hnm B hl
  have hl : lv_has ls 1 [(0, .ref o)] := hl
  have h := hF
  unfold f_X1_drop at h
  obtain ⟨hx, hb, hr, hml, hown, hts, hlk⟩ := id C0
  refine lv_aload_n hx hb dX1_drop_0 rfl (lv_at hl 0 rfl) ?_
  refine lv_iconst (v := 0) hx hb dX1_drop_1 (by decide) ?_
  refine xput (ws' := [(o, .inr (1, [.ref o_colours, .ref o_numbers, .ref o_placed, .int (0 : Int32), .int o_arranged])), (o_colours, .inl (G.2.1, o_coloursN, .inl o_coloursF)), (o_numbers, .inl (G.2.1, o_numbersN, .inl o_numbersF)), (o_placed, .inl (G.2.2.1, o_placedN, .inl o_placedF))]) C0 B inX1 tyX1 tyX1_ok nmX1 0 rfl rfl 3 (by decide) wd_37 rfl rfl rfl (Nat.le_of_ble_eq_true rfl) rfl dX1_drop_2 (fun H locs B => ?_)
  refine lv_aload_n hx hb dX1_drop_5 rfl (lv_at hl 0 rfl) ?_
  obtain ⟨⟨w_1, w_2⟩, e_3, h⟩ := xb_spec h
  dsimp only at h
  refine xcall0 (wc := [(o, .inr (1, [.ref o_colours, .ref o_numbers, .ref o_placed, .int (0 : Int32), .int o_arranged])), (o_colours, .inl (G.2.1, o_coloursN, .inl o_coloursF)), (o_numbers, .inl (G.2.1, o_numbersN, .inl o_numbersF)), (o_placed, .inl (G.2.2.1, o_placedN, .inl o_placedF))]) (wr := []) (w1 := [(o, .inr (1, [.ref o_colours, .ref o_numbers, .ref o_placed, .int (0 : Int32), .int w_2])), (o_colours, .inl (G.2.1, o_coloursN, .inl o_coloursF)), (o_numbers, .inl (G.2.1, o_numbersN, .inl o_numbersF)), (o_placed, .inl (G.2.2.1, o_placedN, .inl w_1))]) (ws' := [(o, .inr (1, [.ref o_colours, .ref o_numbers, .ref o_placed, .int (0 : Int32), .int w_2])), (o_colours, .inl (G.2.1, o_coloursN, .inl o_coloursF)), (o_numbers, .inl (G.2.1, o_numbersN, .inl o_numbersF)), (o_placed, .inl (G.2.2.1, o_placedN, .inl w_1))]) B [0, 1, 2, 3] [] [0, 1, 2, 3] rfl rfl rfl rfl (by decide) rfl rfl (xrunV C0 (c_X1_forgetOrder l G o o_colours o_coloursN o_coloursF o_numbers o_numbersN o_numbersF o_placed o_placedN o_placedF (0 : Int32) o_arranged  n w_1 w_2 e_3 H.size) kb_X1_forgetOrder kv_X1_forgetOrder wd_42 (ci := 1) rfl rfl rfl rfl rfl ⟨Nat.le_of_ble_eq_true rfl, Nat.le_of_ble_eq_true rfl⟩ rfl hl rfl (Nat.le_of_ble_eq_true rfl) dX1_drop_6 ⟨Nat.le_of_ble_eq_true rfl, Nat.le_of_ble_eq_true rfl⟩) (fun H locs B => ?_)
  obtain ⟨g1, k1⟩ := Prod.mk.inj (Option.some.inj h)
  obtain ⟨g2, k2⟩ := Prod.mk.inj k1
  subst g1 g2 k2
  exact xretv C0 B [0, 1, 2, 3] rfl rfl dX1_drop_9
/-! FilterRows$Palette.distance(II)I -/
abbrev rm_X1_distance : Room := { frames := 0, cells := 0, slots := 0, locals := 0 }
def f_X1_distance (n : Nat)  (x0 : Int32) (x1 : Int32) : Option Int32 := xl ((x0 >>> ((16 : Int32) &&& 31)) - (x1 >>> ((16 : Int32) &&& 31))) (fun s_1 => xl (((x0 >>> ((8 : Int32) &&& 31)) &&& (255 : Int32)) - ((x1 >>> ((8 : Int32) &&& 31)) &&& (255 : Int32))) (fun s_2 => xl ((x0 &&& (255 : Int32)) - (x1 &&& (255 : Int32))) (fun s_3 => some (((s_1 * s_1) + (s_2 * s_2)) + (s_3 * s_3)))))
set_option maxHeartbeats 4000000 in
set_option maxRecDepth 100000 in
theorem c_X1_distance (l : Launch) (G : xG)  (x0 : Int32) (x1 : Int32) (n : Nat) (zr : Int32) (hF : f_X1_distance n x0 x1 = some zr) (sz : Nat) : Met l yX1_distance (xws yX1_distance cX1_distance 5 (some .int)) rm_X1_distance (va_Pc [.int x0, .int x1] (xPre G [] sz)) (xQR (some (.int zr)) (fun q => sz ≤ q)) 0 0 (fun q => sz ≤ q) := by
  refine xMetR (by decide) (Nat.le_of_ble_eq_true rfl) ?_
  intro p e s m below meth c ls A H locs C0 hnm B hl
  have hl : lv_has ls 5 [(0, .int x0), (1, .int x1)] := hl
  have h := hF
  unfold f_X1_distance at h
  obtain ⟨hx, hb, hr, hml, hown, hts, hlk⟩ := id C0
  refine lv_iload_n hx hb dX1_distance_0 rfl (lv_at hl 0 rfl) ?_
  refine lv_bipush (v := 16) hx hb dX1_distance_1 (by decide) ?_
  refine lv_ishr hx hb dX1_distance_3 ?_
  refine lv_iload_n hx hb dX1_distance_4 rfl (lv_at hl 1 rfl) ?_
  refine lv_bipush (v := 16) hx hb dX1_distance_5 (by decide) ?_
  refine lv_ishr hx hb dX1_distance_7 ?_
  refine lv_isub hx hb dX1_distance_8 ?_
  refine lv_topi (fun s_1 es_1 => ?_)
  have h := xl_spec h es_1
  refine lv_istore_n (lv' := [(2, .int s_1), (0, .int x0), (1, .int x1)]) hx hb dX1_distance_9 rfl hl (by decide) rfl (fun ls hl => ?_)
  refine lv_iload_n hx hb dX1_distance_10 rfl (lv_at hl 1 rfl) ?_
  refine lv_bipush (v := 8) hx hb dX1_distance_11 (by decide) ?_
  refine lv_ishr hx hb dX1_distance_13 ?_
  refine lv_sipush (v := 255) hx hb dX1_distance_14 (by decide) ?_
  refine lv_iand hx hb dX1_distance_17 ?_
  refine lv_iload_n hx hb dX1_distance_18 rfl (lv_at hl 2 rfl) ?_
  refine lv_bipush (v := 8) hx hb dX1_distance_19 (by decide) ?_
  refine lv_ishr hx hb dX1_distance_21 ?_
  refine lv_sipush (v := 255) hx hb dX1_distance_22 (by decide) ?_
  refine lv_iand hx hb dX1_distance_25 ?_
  refine lv_isub hx hb dX1_distance_26 ?_
  refine lv_topi (fun s_2 es_2 => ?_)
  have h := xl_spec h es_2
  refine lv_istore_n (lv' := [(3, .int s_2), (2, .int s_1), (0, .int x0), (1, .int x1)]) hx hb dX1_distance_27 rfl hl (by decide) rfl (fun ls hl => ?_)
  refine lv_iload_n hx hb dX1_distance_28 rfl (lv_at hl 2 rfl) ?_
  refine lv_sipush (v := 255) hx hb dX1_distance_29 (by decide) ?_
  refine lv_iand hx hb dX1_distance_32 ?_
  refine lv_iload_n hx hb dX1_distance_33 rfl (lv_at hl 3 rfl) ?_
  refine lv_sipush (v := 255) hx hb dX1_distance_34 (by decide) ?_
  refine lv_iand hx hb dX1_distance_37 ?_
  refine lv_isub hx hb dX1_distance_38 ?_
  refine lv_topi (fun s_3 es_3 => ?_)
  have h := xl_spec h es_3
  refine lv_istore (lv' := [(4, .int s_3), (3, .int s_2), (2, .int s_1), (0, .int x0), (1, .int x1)]) hx hb dX1_distance_39 hl (by decide) rfl (fun ls hl => ?_)
  refine lv_iload_n hx hb dX1_distance_41 rfl (lv_at hl 2 rfl) ?_
  refine lv_iload_n hx hb dX1_distance_42 rfl (lv_at hl 2 rfl) ?_
  refine lv_imul hx hb dX1_distance_43 ?_
  refine lv_iload_n hx hb dX1_distance_44 rfl (lv_at hl 1 rfl) ?_
  refine lv_iload_n hx hb dX1_distance_45 rfl (lv_at hl 1 rfl) ?_
  refine lv_imul hx hb dX1_distance_46 ?_
  refine lv_iadd hx hb dX1_distance_47 ?_
  refine lv_iload hx hb dX1_distance_48 (lv_at hl 0 rfl) ?_
  refine lv_iload hx hb dX1_distance_50 (lv_at hl 0 rfl) ?_
  refine lv_imul hx hb dX1_distance_52 ?_
  refine lv_iadd hx hb dX1_distance_53 ?_
  obtain rfl := Option.some.inj h
  exact xretiR C0 B dX1_distance_54
/-! FilterRows$Palette.sumOfParts(I)I -/
abbrev rm_X1_sumOfParts : Room := { frames := 0, cells := 0, slots := 0, locals := 0 }
def f_X1_sumOfParts (n : Nat)  (x0 : Int32) : Option Int32 := some (((x0 >>> ((16 : Int32) &&& 31)) + ((x0 >>> ((8 : Int32) &&& 31)) &&& (255 : Int32))) + (x0 &&& (255 : Int32)))
set_option maxHeartbeats 4000000 in
set_option maxRecDepth 100000 in
theorem c_X1_sumOfParts (l : Launch) (G : xG)  (x0 : Int32) (n : Nat) (zr : Int32) (hF : f_X1_sumOfParts n x0 = some zr) (sz : Nat) : Met l yX1_sumOfParts (xws yX1_sumOfParts cX1_sumOfParts 1 (some .int)) rm_X1_sumOfParts (va_Pc [.int x0] (xPre G [] sz)) (xQR (some (.int zr)) (fun q => sz ≤ q)) 0 0 (fun q => sz ≤ q) := by
  refine xMetR (by decide) (Nat.le_of_ble_eq_true rfl) ?_
  intro p e s m below meth c ls A H locs C0 hnm B hl
  have hl : lv_has ls 1 [(0, .int x0)] := hl
  have h := hF
  unfold f_X1_sumOfParts at h
  obtain ⟨hx, hb, hr, hml, hown, hts, hlk⟩ := id C0
  refine lv_iload_n hx hb dX1_sumOfParts_0 rfl (lv_at hl 0 rfl) ?_
  refine lv_bipush (v := 16) hx hb dX1_sumOfParts_1 (by decide) ?_
  refine lv_ishr hx hb dX1_sumOfParts_3 ?_
  refine lv_iload_n hx hb dX1_sumOfParts_4 rfl (lv_at hl 0 rfl) ?_
  refine lv_bipush (v := 8) hx hb dX1_sumOfParts_5 (by decide) ?_
  refine lv_ishr hx hb dX1_sumOfParts_7 ?_
  refine lv_sipush (v := 255) hx hb dX1_sumOfParts_8 (by decide) ?_
  refine lv_iand hx hb dX1_sumOfParts_11 ?_
  refine lv_iadd hx hb dX1_sumOfParts_12 ?_
  refine lv_iload_n hx hb dX1_sumOfParts_13 rfl (lv_at hl 0 rfl) ?_
  refine lv_sipush (v := 255) hx hb dX1_sumOfParts_14 (by decide) ?_
  refine lv_iand hx hb dX1_sumOfParts_17 ?_
  refine lv_iadd hx hb dX1_sumOfParts_18 ?_
  obtain rfl := Option.some.inj h
  exact xretiR C0 B dX1_sumOfParts_19
/-! FilterRows$Palette.farness(II)I -/
abbrev rm_X1_farness : Room := { frames := 1, cells := 0, slots := 0, locals := 24 }
def f_X1_farness (n : Nat) (o_coloursN : Nat) (o_coloursF : Nat → Int32) (o_numbersN : Nat) (o_numbersF : Nat → Int32) (x1 : Int32) (x2 : Int32) : Option Int32 := (if x2 = 0 then xin x1 o_coloursN (xb (f_X1_sumOfParts n (o_coloursF (x1).toNatClampNeg)) (fun r_8 => some r_8)) else xin x1 o_coloursN (xin (x2 - (1 : Int32)) o_numbersN (xin (o_numbersF ((x2 - (1 : Int32))).toNatClampNeg) o_coloursN (xb (f_X1_distance n (o_coloursF (x1).toNatClampNeg) (o_coloursF ((o_numbersF ((x2 - (1 : Int32))).toNatClampNeg)).toNatClampNeg)) (fun r_5 => some r_5)))))
set_option maxHeartbeats 4000000 in
set_option maxRecDepth 100000 in
theorem c_X1_farness (l : Launch) (G : xG) (o : Nat) (o_colours : Nat) (o_coloursN : Nat) (o_coloursF : Nat → Int32) (o_numbers : Nat) (o_numbersN : Nat) (o_numbersF : Nat → Int32) (o_placed : Nat) (o_placedN : Nat) (o_placedF : Nat → Int32) (o_count : Int32) (o_arranged : Int32) (x1 : Int32) (x2 : Int32) (n : Nat) (zr : Int32) (hF : f_X1_farness n o_coloursN o_coloursF o_numbersN o_numbersF x1 x2 = some zr) (sz : Nat) : Met l yX1_farness (xws yX1_farness cX1_farness 3 (some .int)) rm_X1_farness (va_Pc [.ref o, .int x1, .int x2] (xPre G [(o, .inr (1, [.ref o_colours, .ref o_numbers, .ref o_placed, .int o_count, .int o_arranged])), (o_colours, .inl (G.2.1, o_coloursN, .inl o_coloursF)), (o_numbers, .inl (G.2.1, o_numbersN, .inl o_numbersF)), (o_placed, .inl (G.2.2.1, o_placedN, .inl o_placedF))] sz)) (xQR (some (.int zr)) (fun q => sz ≤ q)) 0 0 (fun q => sz ≤ q) := by
  refine xMetR (by decide) (Nat.le_of_ble_eq_true rfl) ?_
  intro p e s m below meth c ls A H locs C0 hnm B hl
  have hl : lv_has ls 3 [(0, .ref o), (1, .int x1), (2, .int x2)] := hl
  have h := hF
  unfold f_X1_farness at h
  obtain ⟨hx, hb, hr, hml, hown, hts, hlk⟩ := id C0
  refine lv_iload_n hx hb dX1_farness_0 rfl (lv_at hl 2 rfl) ?_
  refine lv_if_ne (tgt := 14) hx hb dX1_farness_1 (by decide) (fun c_1 => ?_) (fun c_1 => ?_)
  · have h := oif_f h c_1
    refine lv_aload_n hx hb dX1_farness_14 rfl (lv_at hl 0 rfl) ?_
    refine xget (v := .ref o_colours) C0 B inX1 0 rfl rfl 0 (by decide) wd_30 rfl dX1_farness_15 ?_
    refine lv_iload_n hx hb dX1_farness_18 rfl (lv_at hl 1 rfl) ?_
    obtain ⟨b_2, h⟩ := xin_spec h
    refine xiald C0 B 1 rfl b_2 dX1_farness_19 ?_
    refine lv_aload_n hx hb dX1_farness_20 rfl (lv_at hl 0 rfl) ?_
    refine xget (v := .ref o_colours) C0 B inX1 0 rfl rfl 0 (by decide) wd_30 rfl dX1_farness_21 ?_
    refine lv_aload_n hx hb dX1_farness_24 rfl (lv_at hl 0 rfl) ?_
    refine xget (v := .ref o_numbers) C0 B inX1 0 rfl rfl 1 (by decide) wd_31 rfl dX1_farness_25 ?_
    refine lv_iload_n hx hb dX1_farness_28 rfl (lv_at hl 2 rfl) ?_
    refine lv_iconst (v := 1) hx hb dX1_farness_29 (by decide) ?_
    refine lv_isub hx hb dX1_farness_30 ?_
    obtain ⟨b_3, h⟩ := xin_spec h
    refine xiald C0 B 2 rfl b_3 dX1_farness_31 ?_
    obtain ⟨b_4, h⟩ := xin_spec h
    refine xiald C0 B 1 rfl b_4 dX1_farness_32 ?_
    obtain ⟨r_5, e_6, h⟩ := xb_spec h
    refine xcallR (wc := []) B [] rfl rfl (xrunS C0 (c_X1_distance l G  (o_coloursF (x1).toNatClampNeg) (o_coloursF ((o_numbersF ((x2 - (1 : Int32))).toNatClampNeg)).toNatClampNeg) n r_5 e_6 H.size) kb_X1_distance kv_X1_distance wd_52 rfl rfl ⟨Nat.le_of_ble_eq_true rfl, Nat.le_of_ble_eq_true rfl⟩ rfl hl rfl (Nat.le_of_ble_eq_true rfl) dX1_farness_33 ⟨Nat.le_of_ble_eq_true rfl, Nat.le_of_ble_eq_true rfl⟩) (fun H locs B => ?_)
    obtain rfl := Option.some.inj h
    exact xretiR C0 B dX1_farness_36
  · have h := oif_t h c_1
    refine lv_aload_n hx hb dX1_farness_4 rfl (lv_at hl 0 rfl) ?_
    refine xget (v := .ref o_colours) C0 B inX1 0 rfl rfl 0 (by decide) wd_30 rfl dX1_farness_5 ?_
    refine lv_iload_n hx hb dX1_farness_8 rfl (lv_at hl 1 rfl) ?_
    obtain ⟨b_7, h⟩ := xin_spec h
    refine xiald C0 B 1 rfl b_7 dX1_farness_9 ?_
    obtain ⟨r_8, e_9, h⟩ := xb_spec h
    refine xcallR (wc := []) B [] rfl rfl (xrunS C0 (c_X1_sumOfParts l G  (o_coloursF (x1).toNatClampNeg) n r_8 e_9 H.size) kb_X1_sumOfParts kv_X1_sumOfParts wd_55 rfl rfl ⟨Nat.le_of_ble_eq_true rfl, Nat.le_of_ble_eq_true rfl⟩ rfl hl rfl (Nat.le_of_ble_eq_true rfl) dX1_farness_10 ⟨Nat.le_of_ble_eq_true rfl, Nat.le_of_ble_eq_true rfl⟩) (fun H locs B => ?_)
    obtain rfl := Option.some.inj h
    exact xretiR C0 B dX1_farness_13
/-! FilterRows$Palette.nextNumber(I)I -/
abbrev rm_X1_nextNumber : Room := { frames := 2, cells := 0, slots := 0, locals := 46 }
def fl_X1_nextNumber_8 : Nat → Nat → (Nat → Int32) → Nat → (Nat → Int32) → Nat → (Nat → Int32) → Int32 → Int32 → Int32 → Int32 → Int32 → Option (Int32 × Int32 × Int32)
  | 0, _, _, _, _, _, _, _, _, _, _, _ => none
  | n + 1, o_coloursN, o_coloursF, o_numbersN, o_numbersF, o_placedN, o_placedF, o_count, y1, y2, y3, y4 => (if o_count ≤ y4 then some (y2, y3, y4) else xin y4 o_placedN ((if (o_placedF (y4).toNatClampNeg) = 0 then xb (f_X1_farness n o_coloursN o_coloursF o_numbersN o_numbersF y4 y1) (fun r_4 => (if y3 ≤ r_4 then fl_X1_nextNumber_8 n o_coloursN o_coloursF o_numbersN o_numbersF o_placedN o_placedF o_count y1 y2 y3 (y4 + (1 : Int32)) else fl_X1_nextNumber_8 n o_coloursN o_coloursF o_numbersN o_numbersF o_placedN o_placedF o_count y1 y4 r_4 (y4 + (1 : Int32)))) else (if y3 ≤ (195076 : Int32) then fl_X1_nextNumber_8 n o_coloursN o_coloursF o_numbersN o_numbersF o_placedN o_placedF o_count y1 y2 y3 (y4 + (1 : Int32)) else fl_X1_nextNumber_8 n o_coloursN o_coloursF o_numbersN o_numbersF o_placedN o_placedF o_count y1 y4 (195076 : Int32) (y4 + (1 : Int32))))))
def f_X1_nextNumber (n : Nat) (o_coloursN : Nat) (o_coloursF : Nat → Int32) (o_numbersN : Nat) (o_numbersF : Nat → Int32) (o_placedN : Nat) (o_placedF : Nat → Int32) (o_count : Int32) (x1 : Int32) : Option Int32 := xb (fl_X1_nextNumber_8 n o_coloursN o_coloursF o_numbersN o_numbersF o_placedN o_placedF o_count x1 (0 : Int32) (195076 : Int32) (0 : Int32)) (fun (v_1, v_2, v_3) => some v_1)
set_option maxHeartbeats 4000000 in
set_option maxRecDepth 100000 in
theorem lo_X1_nextNumber_8 {p : Program} {l : Launch} {e : Env} {s : State} {m : MethodId} {args : Array Value} {below : List Frame} {meth : Method} {c : Code} {Q : State → Prop} {G : xG} {A : Nat → Prop} (C0 : xC p s m args meth c "FilterRows$Palette" cX1_nextNumber 6 (some .int)) : ∀ (n : Nat) (o : Nat) (o_colours : Nat) (o_coloursN : Nat) (o_coloursF : Nat → Int32) (o_numbers : Nat) (o_numbersN : Nat) (o_numbersF : Nat → Int32) (o_placed : Nat) (o_placedN : Nat) (o_placedF : Nat → Int32) (o_count : Int32) (o_arranged : Int32) (y1 : Int32) (y2 : Int32) (y3 : Int32) (y4 : Int32) (z2 : Int32) (z3 : Int32) (z4 : Int32), fl_X1_nextNumber_8 n o_coloursN o_coloursF o_numbersN o_numbersF o_placedN o_placedF o_count y1 y2 y3 y4 = some (z2, z3, z4) → ∀ (H : Heap) (locs : List Loc) (ls : Array Slot), xW G false A s [(o, .inr (1, [.ref o_colours, .ref o_numbers, .ref o_placed, .int o_count, .int o_arranged])), (o_colours, .inl (G.2.1, o_coloursN, .inl o_coloursF)), (o_numbers, .inl (G.2.1, o_numbersN, .inl o_numbersF)), (o_placed, .inl (G.2.2.1, o_placedN, .inl o_placedF))] H locs → lv_has ls 6 [(0, .ref o), (1, .int y1), (2, .int y2), (3, .int y3), (4, .int y4)] → (∀ (H : Heap) (locs : List Loc) (ls : Array Slot), xW G false A s [(o, .inr (1, [.ref o_colours, .ref o_numbers, .ref o_placed, .int o_count, .int o_arranged])), (o_colours, .inl (G.2.1, o_coloursN, .inl o_coloursF)), (o_numbers, .inl (G.2.1, o_numbersN, .inl o_numbersF)), (o_placed, .inl (G.2.2.1, o_placedN, .inl o_placedF))] H locs → lv_has ls 6 [(0, .ref o), (1, .int y1), (2, .int z2), (3, .int z3), (4, .int z4)] → W p l e rm_X1_nextNumber s m args below meth c H locs 0 0 Q (F0 m 59 ls [])) → W p l e rm_X1_nextNumber s m args below meth c H locs 0 0 Q (F0 m 8 ls []) := by
  obtain ⟨hx, hb, hr, hml, hown, hts, hlk⟩ := id C0
  intro n
  induction n with
  | zero =>
    intro o o_colours o_coloursN o_coloursF o_numbers o_numbersN o_numbersF o_placed o_placedN o_placedF o_count o_arranged y1 y2 y3 y4 z2 z3 z4 h
    rw [fl_X1_nextNumber_8] at h
    cases h
  | succ n ih =>
    intro o o_colours o_coloursN o_coloursF o_numbers o_numbersN o_numbersF o_placed o_placedN o_placedF o_count o_arranged y1 y2 y3 y4 z2 z3 z4 h H locs ls B hl K
    rw [fl_X1_nextNumber_8] at h
    refine lv_iload hx hb dX1_nextNumber_8 (lv_at hl 4 rfl) ?_
    refine lv_aload_n hx hb dX1_nextNumber_10 rfl (lv_at hl 0 rfl) ?_
    refine xget (v := .int o_count) C0 B inX1 0 rfl rfl 3 (by decide) wd_37 rfl dX1_nextNumber_11 ?_
    refine lv_icmp_ge (tgt := 59) hx hb dX1_nextNumber_14 (by decide) (fun c_1 => ?_) (fun c_1 => ?_)
    · have h := oif_t h c_1
      obtain ⟨g1, k1⟩ := Prod.mk.inj (Option.some.inj h)
      obtain ⟨g2, k2⟩ := Prod.mk.inj k1
      subst g1 g2 k2
      exact K H locs ls (B.sub [0, 1, 2, 3] rfl rfl) (lv_sub hl [0, 1, 2, 3, 4] rfl)
    · have h := oif_f h c_1
      refine lv_aload_n hx hb dX1_nextNumber_17 rfl (lv_at hl 0 rfl) ?_
      refine xget (v := .ref o_placed) C0 B inX1 0 rfl rfl 2 (by decide) wd_33 rfl dX1_nextNumber_18 ?_
      refine lv_iload hx hb dX1_nextNumber_21 (lv_at hl 4 rfl) ?_
      obtain ⟨b_2, h⟩ := xin_spec h
      refine xzald C0 B 3 rfl b_2 dX1_nextNumber_23 ?_
      refine lv_if_eq (tgt := 32) hx hb dX1_nextNumber_24 (by decide) (fun c_3 => ?_) (fun c_3 => ?_)
      · have h := oif_t h c_3
        refine lv_aload_n hx hb dX1_nextNumber_32 rfl (lv_at hl 0 rfl) ?_
        refine lv_iload hx hb dX1_nextNumber_33 (lv_at hl 4 rfl) ?_
        refine lv_iload_n hx hb dX1_nextNumber_35 rfl (lv_at hl 1 rfl) ?_
        obtain ⟨r_4, e_5, h⟩ := xb_spec h
        refine xcallR (wc := [(o, .inr (1, [.ref o_colours, .ref o_numbers, .ref o_placed, .int o_count, .int o_arranged])), (o_colours, .inl (G.2.1, o_coloursN, .inl o_coloursF)), (o_numbers, .inl (G.2.1, o_numbersN, .inl o_numbersF)), (o_placed, .inl (G.2.2.1, o_placedN, .inl o_placedF))]) B [0, 1, 2, 3] rfl rfl (xrunV C0 (c_X1_farness l G o o_colours o_coloursN o_coloursF o_numbers o_numbersN o_numbersF o_placed o_placedN o_placedF o_count o_arranged y4 y1 n r_4 e_5 H.size) kb_X1_farness kv_X1_farness wd_59 (ci := 1) rfl rfl rfl rfl rfl ⟨Nat.le_of_ble_eq_true rfl, Nat.le_of_ble_eq_true rfl⟩ rfl hl rfl (Nat.le_of_ble_eq_true rfl) dX1_nextNumber_36 ⟨Nat.le_of_ble_eq_true rfl, Nat.le_of_ble_eq_true rfl⟩) (fun H locs B => ?_)
        refine lv_istore (lv' := [(5, .int r_4), (0, .ref o), (1, .int y1), (2, .int y2), (3, .int y3), (4, .int y4)]) hx hb dX1_nextNumber_39 hl (by decide) rfl (fun ls hl => ?_)
        refine lv_iload hx hb dX1_nextNumber_41 (lv_at hl 0 rfl) ?_
        refine lv_iload_n hx hb dX1_nextNumber_43 rfl (lv_at hl 4 rfl) ?_
        refine lv_icmp_ge (tgt := 53) hx hb dX1_nextNumber_44 (by decide) (fun c_6 => ?_) (fun c_6 => ?_)
        · have h := oif_t h c_6
          refine lv_iinc (v := (y4 + (1 : Int32))) (lv' := [(4, .int (y4 + (1 : Int32))), (5, .int r_4), (0, .ref o), (1, .int y1), (2, .int y2), (3, .int y3)]) hx hb dX1_nextNumber_53 hl (k := 5) rfl rfl (by decide) rfl (fun ls hl => ?_)
          refine lv_goto (tgt := 8) hx hb dX1_nextNumber_56 (by decide) ?_
          exact ih o o_colours o_coloursN o_coloursF o_numbers o_numbersN o_numbersF o_placed o_placedN o_placedF o_count o_arranged y1 y2 y3 (y4 + (1 : Int32)) _ _ _ h H locs ls (B.sub [0, 1, 2, 3] rfl rfl) (lv_sub hl [2, 3, 4, 5, 0] rfl) K
        · have h := oif_f h c_6
          refine lv_iload hx hb dX1_nextNumber_47 (lv_at hl 0 rfl) ?_
          refine lv_istore_n (lv' := [(3, .int r_4), (5, .int r_4), (0, .ref o), (1, .int y1), (2, .int y2), (4, .int y4)]) hx hb dX1_nextNumber_49 rfl hl (by decide) rfl (fun ls hl => ?_)
          refine lv_iload hx hb dX1_nextNumber_50 (lv_at hl 5 rfl) ?_
          refine lv_istore_n (lv' := [(2, .int y4), (3, .int r_4), (5, .int r_4), (0, .ref o), (1, .int y1), (4, .int y4)]) hx hb dX1_nextNumber_52 rfl hl (by decide) rfl (fun ls hl => ?_)
          refine lv_iinc (v := (y4 + (1 : Int32))) (lv' := [(4, .int (y4 + (1 : Int32))), (2, .int y4), (3, .int r_4), (5, .int r_4), (0, .ref o), (1, .int y1)]) hx hb dX1_nextNumber_53 hl (k := 5) rfl rfl (by decide) rfl (fun ls hl => ?_)
          refine lv_goto (tgt := 8) hx hb dX1_nextNumber_56 (by decide) ?_
          exact ih o o_colours o_coloursN o_coloursF o_numbers o_numbersN o_numbersF o_placed o_placedN o_placedF o_count o_arranged y1 y4 r_4 (y4 + (1 : Int32)) _ _ _ h H locs ls (B.sub [0, 1, 2, 3] rfl rfl) (lv_sub hl [4, 5, 1, 2, 0] rfl) K
      · have h := oif_f h c_3
        refine lv_ldc hx hb hown (hts _ wd_49) dX1_nextNumber_27 ?_
        refine lv_goto (tgt := 39) hx hb dX1_nextNumber_29 (by decide) ?_
        refine lv_istore (lv' := [(5, .int (195076 : Int32)), (0, .ref o), (1, .int y1), (2, .int y2), (3, .int y3), (4, .int y4)]) hx hb dX1_nextNumber_39 hl (by decide) rfl (fun ls hl => ?_)
        refine lv_iload hx hb dX1_nextNumber_41 (lv_at hl 0 rfl) ?_
        refine lv_iload_n hx hb dX1_nextNumber_43 rfl (lv_at hl 4 rfl) ?_
        refine lv_icmp_ge (tgt := 53) hx hb dX1_nextNumber_44 (by decide) (fun c_7 => ?_) (fun c_7 => ?_)
        · have h := oif_t h c_7
          refine lv_iinc (v := (y4 + (1 : Int32))) (lv' := [(4, .int (y4 + (1 : Int32))), (5, .int (195076 : Int32)), (0, .ref o), (1, .int y1), (2, .int y2), (3, .int y3)]) hx hb dX1_nextNumber_53 hl (k := 5) rfl rfl (by decide) rfl (fun ls hl => ?_)
          refine lv_goto (tgt := 8) hx hb dX1_nextNumber_56 (by decide) ?_
          exact ih o o_colours o_coloursN o_coloursF o_numbers o_numbersN o_numbersF o_placed o_placedN o_placedF o_count o_arranged y1 y2 y3 (y4 + (1 : Int32)) _ _ _ h H locs ls (B.sub [0, 1, 2, 3] rfl rfl) (lv_sub hl [2, 3, 4, 5, 0] rfl) K
        · have h := oif_f h c_7
          refine lv_iload hx hb dX1_nextNumber_47 (lv_at hl 0 rfl) ?_
          refine lv_istore_n (lv' := [(3, .int (195076 : Int32)), (5, .int (195076 : Int32)), (0, .ref o), (1, .int y1), (2, .int y2), (4, .int y4)]) hx hb dX1_nextNumber_49 rfl hl (by decide) rfl (fun ls hl => ?_)
          refine lv_iload hx hb dX1_nextNumber_50 (lv_at hl 5 rfl) ?_
          refine lv_istore_n (lv' := [(2, .int y4), (3, .int (195076 : Int32)), (5, .int (195076 : Int32)), (0, .ref o), (1, .int y1), (4, .int y4)]) hx hb dX1_nextNumber_52 rfl hl (by decide) rfl (fun ls hl => ?_)
          refine lv_iinc (v := (y4 + (1 : Int32))) (lv' := [(4, .int (y4 + (1 : Int32))), (2, .int y4), (3, .int (195076 : Int32)), (5, .int (195076 : Int32)), (0, .ref o), (1, .int y1)]) hx hb dX1_nextNumber_53 hl (k := 5) rfl rfl (by decide) rfl (fun ls hl => ?_)
          refine lv_goto (tgt := 8) hx hb dX1_nextNumber_56 (by decide) ?_
          exact ih o o_colours o_coloursN o_coloursF o_numbers o_numbersN o_numbersF o_placed o_placedN o_placedF o_count o_arranged y1 y4 (195076 : Int32) (y4 + (1 : Int32)) _ _ _ h H locs ls (B.sub [0, 1, 2, 3] rfl rfl) (lv_sub hl [4, 5, 1, 2, 0] rfl) K
set_option maxHeartbeats 4000000 in
set_option maxRecDepth 100000 in
theorem c_X1_nextNumber (l : Launch) (G : xG) (o : Nat) (o_colours : Nat) (o_coloursN : Nat) (o_coloursF : Nat → Int32) (o_numbers : Nat) (o_numbersN : Nat) (o_numbersF : Nat → Int32) (o_placed : Nat) (o_placedN : Nat) (o_placedF : Nat → Int32) (o_count : Int32) (o_arranged : Int32) (x1 : Int32) (n : Nat) (zr : Int32) (hF : f_X1_nextNumber n o_coloursN o_coloursF o_numbersN o_numbersF o_placedN o_placedF o_count x1 = some zr) (sz : Nat) : Met l yX1_nextNumber (xws yX1_nextNumber cX1_nextNumber 6 (some .int)) rm_X1_nextNumber (va_Pc [.ref o, .int x1] (xPre G [(o, .inr (1, [.ref o_colours, .ref o_numbers, .ref o_placed, .int o_count, .int o_arranged])), (o_colours, .inl (G.2.1, o_coloursN, .inl o_coloursF)), (o_numbers, .inl (G.2.1, o_numbersN, .inl o_numbersF)), (o_placed, .inl (G.2.2.1, o_placedN, .inl o_placedF))] sz)) (xQR (some (.int zr)) (fun q => sz ≤ q)) 0 0 (fun q => sz ≤ q) := by
  refine xMetR (by decide) (Nat.le_of_ble_eq_true rfl) ?_
  intro p e s m below meth c ls A H locs C0 hnm B hl
  have hl : lv_has ls 6 [(0, .ref o), (1, .int x1)] := hl
  have h := hF
  unfold f_X1_nextNumber at h
  obtain ⟨hx, hb, hr, hml, hown, hts, hlk⟩ := id C0
  refine lv_iconst (v := 0) hx hb dX1_nextNumber_0 (by decide) ?_
  refine lv_istore_n (lv' := [(2, .int (0 : Int32)), (0, .ref o), (1, .int x1)]) hx hb dX1_nextNumber_1 rfl hl (by decide) rfl (fun ls hl => ?_)
  refine lv_ldc hx hb hown (hts _ wd_49) dX1_nextNumber_2 ?_
  refine lv_istore_n (lv' := [(3, .int (195076 : Int32)), (2, .int (0 : Int32)), (0, .ref o), (1, .int x1)]) hx hb dX1_nextNumber_4 rfl hl (by decide) rfl (fun ls hl => ?_)
  refine lv_iconst (v := 0) hx hb dX1_nextNumber_5 (by decide) ?_
  refine lv_istore (lv' := [(4, .int (0 : Int32)), (3, .int (195076 : Int32)), (2, .int (0 : Int32)), (0, .ref o), (1, .int x1)]) hx hb dX1_nextNumber_6 hl (by decide) rfl (fun ls hl => ?_)
  obtain ⟨⟨v_1, v_2, v_3⟩, e_4, h⟩ := xb_spec h
  refine lo_X1_nextNumber_8 C0 n o o_colours o_coloursN o_coloursF o_numbers o_numbersN o_numbersF o_placed o_placedN o_placedF o_count o_arranged x1 (0 : Int32) (195076 : Int32) (0 : Int32) v_1 v_2 v_3 e_4 H locs ls (B.sub [0, 1, 2, 3] rfl rfl) (lv_sub hl [3, 4, 2, 1, 0] rfl) (fun H locs ls B hl => ?_)
  refine lv_iload_n hx hb dX1_nextNumber_59 rfl (lv_at hl 2 rfl) ?_
  obtain rfl := Option.some.inj h
  exact xretiR C0 B dX1_nextNumber_60
/-! FilterRows$Palette.numberAt(I)I -/
abbrev rm_X1_numberAt : Room := { frames := 3, cells := 0, slots := 0, locals := 71 }
def fl_X1_numberAt_19 : Nat → Nat → (Nat → Int32) → Nat → (Nat → Int32) → Nat → (Nat → Int32) → Int32 → Int32 → Int32 → Int32 → Option (Int32 × (Nat → Int32) × (Nat → Int32) × Int32)
  | 0, _, _, _, _, _, _, _, _, _, _ => none
  | n + 1, o_coloursN, o_coloursF, o_numbersN, o_numbersF, o_placedN, o_placedF, o_count, o_arranged, y1, y2 => (if y1 < y2 then some (y2, o_numbersF, o_placedF, o_arranged) else xb (f_X1_nextNumber n o_coloursN o_coloursF o_numbersN o_numbersF o_placedN o_placedF o_count y2) (fun r_2 => xin y2 o_numbersN (xin r_2 o_placedN (fl_X1_numberAt_19 n o_coloursN o_coloursF o_numbersN (upd o_numbersF (y2).toNatClampNeg r_2) o_placedN (upd o_placedF (r_2).toNatClampNeg (1 : Int32)) o_count (y2 + (1 : Int32)) y1 (y2 + (1 : Int32))))))
def f_X1_numberAt (n : Nat) (o_coloursN : Nat) (o_coloursF : Nat → Int32) (o_numbersN : Nat) (o_numbersF : Nat → Int32) (o_placedN : Nat) (o_placedF : Nat → Int32) (o_count : Int32) (o_arranged : Int32) (x1 : Int32) : Option (Int32 × (Nat → Int32) × (Nat → Int32) × Int32) := (if x1 < 0 then some ((-1 : Int32), o_numbersF, o_placedF, o_arranged) else (if x1 < o_count then xb (fl_X1_numberAt_19 n o_coloursN o_coloursF o_numbersN o_numbersF o_placedN o_placedF o_count o_arranged x1 o_arranged) (fun (v_3, w_4, w_5, w_6) => xin x1 o_numbersN (some ((w_4 (x1).toNatClampNeg), w_4, w_5, w_6))) else some ((-1 : Int32), o_numbersF, o_placedF, o_arranged)))
set_option maxHeartbeats 4000000 in
set_option maxRecDepth 100000 in
theorem lo_X1_numberAt_19 {p : Program} {l : Launch} {e : Env} {s : State} {m : MethodId} {args : Array Value} {below : List Frame} {meth : Method} {c : Code} {Q : State → Prop} {G : xG} {A : Nat → Prop} (C0 : xC p s m args meth c "FilterRows$Palette" cX1_numberAt 4 (some .int)) : ∀ (n : Nat) (o : Nat) (o_colours : Nat) (o_coloursN : Nat) (o_coloursF : Nat → Int32) (o_numbers : Nat) (o_numbersN : Nat) (o_numbersF : Nat → Int32) (o_placed : Nat) (o_placedN : Nat) (o_placedF : Nat → Int32) (o_count : Int32) (o_arranged : Int32) (y1 : Int32) (y2 : Int32) (z2 : Int32) (z_o_numbersF : Nat → Int32) (z_o_placedF : Nat → Int32) (z_o_arranged : Int32), fl_X1_numberAt_19 n o_coloursN o_coloursF o_numbersN o_numbersF o_placedN o_placedF o_count o_arranged y1 y2 = some (z2, z_o_numbersF, z_o_placedF, z_o_arranged) → ∀ (H : Heap) (locs : List Loc) (ls : Array Slot), xW G true A s [(o, .inr (1, [.ref o_colours, .ref o_numbers, .ref o_placed, .int o_count, .int o_arranged])), (o_colours, .inl (G.2.1, o_coloursN, .inl o_coloursF)), (o_numbers, .inl (G.2.1, o_numbersN, .inl o_numbersF)), (o_placed, .inl (G.2.2.1, o_placedN, .inl o_placedF))] H locs → lv_has ls 4 [(0, .ref o), (1, .int y1), (2, .int y2)] → (∀ (H : Heap) (locs : List Loc) (ls : Array Slot), xW G true A s [(o, .inr (1, [.ref o_colours, .ref o_numbers, .ref o_placed, .int o_count, .int z_o_arranged])), (o_colours, .inl (G.2.1, o_coloursN, .inl o_coloursF)), (o_numbers, .inl (G.2.1, o_numbersN, .inl z_o_numbersF)), (o_placed, .inl (G.2.2.1, o_placedN, .inl z_o_placedF))] H locs → lv_has ls 4 [(0, .ref o), (1, .int y1), (2, .int z2)] → W p l e rm_X1_numberAt s m args below meth c H locs 0 0 Q (F0 m 57 ls [])) → W p l e rm_X1_numberAt s m args below meth c H locs 0 0 Q (F0 m 19 ls []) := by
  obtain ⟨hx, hb, hr, hml, hown, hts, hlk⟩ := id C0
  intro n
  induction n with
  | zero =>
    intro o o_colours o_coloursN o_coloursF o_numbers o_numbersN o_numbersF o_placed o_placedN o_placedF o_count o_arranged y1 y2 z2 z_o_numbersF z_o_placedF z_o_arranged h
    rw [fl_X1_numberAt_19] at h
    cases h
  | succ n ih =>
    intro o o_colours o_coloursN o_coloursF o_numbers o_numbersN o_numbersF o_placed o_placedN o_placedF o_count o_arranged y1 y2 z2 z_o_numbersF z_o_placedF z_o_arranged h H locs ls B hl K
    rw [fl_X1_numberAt_19] at h
    refine lv_iload_n hx hb dX1_numberAt_19 rfl (lv_at hl 2 rfl) ?_
    refine lv_iload_n hx hb dX1_numberAt_20 rfl (lv_at hl 1 rfl) ?_
    refine lv_icmp_gt (tgt := 57) hx hb dX1_numberAt_21 (by decide) (fun c_1 => ?_) (fun c_1 => ?_)
    · have h := oif_t h c_1
      obtain ⟨g1, k1⟩ := Prod.mk.inj (Option.some.inj h)
      obtain ⟨g2, k2⟩ := Prod.mk.inj k1
      obtain ⟨g3, k3⟩ := Prod.mk.inj k2
      subst g1 g2 g3 k3
      exact K H locs ls (B.sub [0, 1, 2, 3] rfl rfl) (lv_sub hl [0, 1, 2] rfl)
    · have h := oif_f h c_1
      refine lv_aload_n hx hb dX1_numberAt_24 rfl (lv_at hl 0 rfl) ?_
      refine lv_iload_n hx hb dX1_numberAt_25 rfl (lv_at hl 2 rfl) ?_
      obtain ⟨r_2, e_3, h⟩ := xb_spec h
      refine xcallR (wc := [(o, .inr (1, [.ref o_colours, .ref o_numbers, .ref o_placed, .int o_count, .int o_arranged])), (o_colours, .inl (G.2.1, o_coloursN, .inl o_coloursF)), (o_numbers, .inl (G.2.1, o_numbersN, .inl o_numbersF)), (o_placed, .inl (G.2.2.1, o_placedN, .inl o_placedF))]) B [0, 1, 2, 3] rfl rfl (xrunV C0 (c_X1_nextNumber l G o o_colours o_coloursN o_coloursF o_numbers o_numbersN o_numbersF o_placed o_placedN o_placedF o_count o_arranged y2 n r_2 e_3 H.size) kb_X1_nextNumber kv_X1_nextNumber wd_63 (ci := 1) rfl rfl rfl rfl rfl ⟨Nat.le_of_ble_eq_true rfl, Nat.le_of_ble_eq_true rfl⟩ rfl hl rfl (Nat.le_of_ble_eq_true rfl) dX1_numberAt_26 ⟨Nat.le_of_ble_eq_true rfl, Nat.le_of_ble_eq_true rfl⟩) (fun H locs B => ?_)
      refine lv_istore_n (lv' := [(3, .int r_2), (0, .ref o), (1, .int y1), (2, .int y2)]) hx hb dX1_numberAt_29 rfl hl (by decide) rfl (fun ls hl => ?_)
      refine lv_aload_n hx hb dX1_numberAt_30 rfl (lv_at hl 1 rfl) ?_
      refine xget (v := .ref o_numbers) C0 B inX1 0 rfl rfl 1 (by decide) wd_31 rfl dX1_numberAt_31 ?_
      refine lv_iload_n hx hb dX1_numberAt_34 rfl (lv_at hl 3 rfl) ?_
      refine lv_iload_n hx hb dX1_numberAt_35 rfl (lv_at hl 0 rfl) ?_
      obtain ⟨b_4, h⟩ := xin_spec h
      refine xiast (ws' := [(o, .inr (1, [.ref o_colours, .ref o_numbers, .ref o_placed, .int o_count, .int o_arranged])), (o_colours, .inl (G.2.1, o_coloursN, .inl o_coloursF)), (o_numbers, .inl (G.2.1, o_numbersN, .inl (upd o_numbersF (y2).toNatClampNeg r_2))), (o_placed, .inl (G.2.2.1, o_placedN, .inl o_placedF))]) C0 B 2 rfl b_4 rfl dX1_numberAt_36 (fun H locs B => ?_)
      refine lv_aload_n hx hb dX1_numberAt_37 rfl (lv_at hl 1 rfl) ?_
      refine xget (v := .ref o_placed) C0 B inX1 0 rfl rfl 2 (by decide) wd_33 rfl dX1_numberAt_38 ?_
      refine lv_iload_n hx hb dX1_numberAt_41 rfl (lv_at hl 0 rfl) ?_
      refine lv_iconst (v := 1) hx hb dX1_numberAt_42 (by decide) ?_
      obtain ⟨b_5, h⟩ := xin_spec h
      refine xzast (ws' := [(o, .inr (1, [.ref o_colours, .ref o_numbers, .ref o_placed, .int o_count, .int o_arranged])), (o_colours, .inl (G.2.1, o_coloursN, .inl o_coloursF)), (o_numbers, .inl (G.2.1, o_numbersN, .inl (upd o_numbersF (y2).toNatClampNeg r_2))), (o_placed, .inl (G.2.2.1, o_placedN, .inl (upd o_placedF (r_2).toNatClampNeg (1 : Int32))))]) C0 B 3 rfl rfl b_5 rfl dX1_numberAt_43 (fun H locs B => ?_)
      refine lv_aload_n hx hb dX1_numberAt_44 rfl (lv_at hl 1 rfl) ?_
      refine lv_iload_n hx hb dX1_numberAt_45 rfl (lv_at hl 3 rfl) ?_
      refine lv_iconst (v := 1) hx hb dX1_numberAt_46 (by decide) ?_
      refine lv_iadd hx hb dX1_numberAt_47 ?_
      refine xput (ws' := [(o, .inr (1, [.ref o_colours, .ref o_numbers, .ref o_placed, .int o_count, .int (y2 + (1 : Int32))])), (o_colours, .inl (G.2.1, o_coloursN, .inl o_coloursF)), (o_numbers, .inl (G.2.1, o_numbersN, .inl (upd o_numbersF (y2).toNatClampNeg r_2))), (o_placed, .inl (G.2.2.1, o_placedN, .inl (upd o_placedF (r_2).toNatClampNeg (1 : Int32))))]) C0 B inX1 tyX1 tyX1_ok nmX1 0 rfl rfl 4 (by decide) wd_38 rfl rfl rfl (Nat.le_of_ble_eq_true rfl) rfl dX1_numberAt_48 (fun H locs B => ?_)
      refine lv_iinc (v := (y2 + (1 : Int32))) (lv' := [(2, .int (y2 + (1 : Int32))), (3, .int r_2), (0, .ref o), (1, .int y1)]) hx hb dX1_numberAt_51 hl (k := 3) rfl rfl (by decide) rfl (fun ls hl => ?_)
      refine lv_goto (tgt := 19) hx hb dX1_numberAt_54 (by decide) ?_
      exact ih o o_colours o_coloursN o_coloursF o_numbers o_numbersN (upd o_numbersF (y2).toNatClampNeg r_2) o_placed o_placedN (upd o_placedF (r_2).toNatClampNeg (1 : Int32)) o_count (y2 + (1 : Int32)) y1 (y2 + (1 : Int32)) _ _ _ _ h H locs ls (B.sub [0, 1, 2, 3] rfl rfl) (lv_sub hl [2, 3, 0] rfl) K
set_option maxHeartbeats 4000000 in
set_option maxRecDepth 100000 in
theorem c_X1_numberAt (l : Launch) (G : xG) (o : Nat) (o_colours : Nat) (o_coloursN : Nat) (o_coloursF : Nat → Int32) (o_numbers : Nat) (o_numbersN : Nat) (o_numbersF : Nat → Int32) (o_placed : Nat) (o_placedN : Nat) (o_placedF : Nat → Int32) (o_count : Int32) (o_arranged : Int32) (x1 : Int32) (n : Nat) (zr : Int32) (z_o_numbersF : Nat → Int32) (z_o_placedF : Nat → Int32) (z_o_arranged : Int32) (hF : f_X1_numberAt n o_coloursN o_coloursF o_numbersN o_numbersF o_placedN o_placedF o_count o_arranged x1 = some (zr, z_o_numbersF, z_o_placedF, z_o_arranged)) (sz : Nat) : Met l yX1_numberAt (xws yX1_numberAt cX1_numberAt 4 (some .int)) rm_X1_numberAt (va_Pc [.ref o, .int x1] (xPre G [(o, .inr (1, [.ref o_colours, .ref o_numbers, .ref o_placed, .int o_count, .int o_arranged])), (o_colours, .inl (G.2.1, o_coloursN, .inl o_coloursF)), (o_numbers, .inl (G.2.1, o_numbersN, .inl o_numbersF)), (o_placed, .inl (G.2.2.1, o_placedN, .inl o_placedF))] sz)) (xQ G (some (.int zr)) [(o, .inr (1, [.ref o_colours, .ref o_numbers, .ref o_placed, .int o_count, .int z_o_arranged])), (o_colours, .inl (G.2.1, o_coloursN, .inl o_coloursF)), (o_numbers, .inl (G.2.1, o_numbersN, .inl z_o_numbersF)), (o_placed, .inl (G.2.2.1, o_placedN, .inl z_o_placedF))] (va_A [(o, .inr (1, [.ref o_colours, .ref o_numbers, .ref o_placed, .int o_count, .int o_arranged])), (o_colours, .inl (G.2.1, o_coloursN, .inl o_coloursF)), (o_numbers, .inl (G.2.1, o_numbersN, .inl o_numbersF)), (o_placed, .inl (G.2.2.1, o_placedN, .inl o_placedF))] sz)) 0 0 (va_A [(o, .inr (1, [.ref o_colours, .ref o_numbers, .ref o_placed, .int o_count, .int o_arranged])), (o_colours, .inl (G.2.1, o_coloursN, .inl o_coloursF)), (o_numbers, .inl (G.2.1, o_numbersN, .inl o_numbersF)), (o_placed, .inl (G.2.2.1, o_placedN, .inl o_placedF))] sz) := by
  refine xMetQ (by decide) (Nat.le_of_ble_eq_true rfl) ?_
  intro p e s m below meth c ls A H locs C0 hnm B hl
  have hl : lv_has ls 4 [(0, .ref o), (1, .int x1)] := hl
  have h := hF
  unfold f_X1_numberAt at h
  obtain ⟨hx, hb, hr, hml, hown, hts, hlk⟩ := id C0
  refine lv_iload_n hx hb dX1_numberAt_0 rfl (lv_at hl 1 rfl) ?_
  refine lv_if_lt (tgt := 12) hx hb dX1_numberAt_1 (by decide) (fun c_1 => ?_) (fun c_1 => ?_)
  · have h := oif_t h c_1
    refine lv_iconst (v := -1) hx hb dX1_numberAt_12 (by decide) ?_
    obtain ⟨g1, k1⟩ := Prod.mk.inj (Option.some.inj h)
    obtain ⟨g2, k2⟩ := Prod.mk.inj k1
    obtain ⟨g3, k3⟩ := Prod.mk.inj k2
    subst g1 g2 g3 k3
    exact xreti C0 B [0, 1, 2, 3] rfl rfl dX1_numberAt_13
  · have h := oif_f h c_1
    refine lv_iload_n hx hb dX1_numberAt_4 rfl (lv_at hl 1 rfl) ?_
    refine lv_aload_n hx hb dX1_numberAt_5 rfl (lv_at hl 0 rfl) ?_
    refine xget (v := .int o_count) C0 B inX1 0 rfl rfl 3 (by decide) wd_37 rfl dX1_numberAt_6 ?_
    refine lv_icmp_lt (tgt := 14) hx hb dX1_numberAt_9 (by decide) (fun c_2 => ?_) (fun c_2 => ?_)
    · have h := oif_t h c_2
      refine lv_aload_n hx hb dX1_numberAt_14 rfl (lv_at hl 0 rfl) ?_
      refine xget (v := .int o_arranged) C0 B inX1 0 rfl rfl 4 (by decide) wd_38 rfl dX1_numberAt_15 ?_
      refine lv_istore_n (lv' := [(2, .int o_arranged), (0, .ref o), (1, .int x1)]) hx hb dX1_numberAt_18 rfl hl (by decide) rfl (fun ls hl => ?_)
      obtain ⟨⟨v_3, w_4, w_5, w_6⟩, e_8, h⟩ := xb_spec h
      refine lo_X1_numberAt_19 C0 n o o_colours o_coloursN o_coloursF o_numbers o_numbersN o_numbersF o_placed o_placedN o_placedF o_count o_arranged x1 o_arranged v_3 w_4 w_5 w_6 e_8 H locs ls (B.sub [0, 1, 2, 3] rfl rfl) (lv_sub hl [1, 2, 0] rfl) (fun H locs ls B hl => ?_)
      refine lv_aload_n hx hb dX1_numberAt_57 rfl (lv_at hl 0 rfl) ?_
      refine xget (v := .ref o_numbers) C0 B inX1 0 rfl rfl 1 (by decide) wd_31 rfl dX1_numberAt_58 ?_
      refine lv_iload_n hx hb dX1_numberAt_61 rfl (lv_at hl 1 rfl) ?_
      obtain ⟨b_7, h⟩ := xin_spec h
      refine xiald C0 B 2 rfl b_7 dX1_numberAt_62 ?_
      obtain ⟨g1, k1⟩ := Prod.mk.inj (Option.some.inj h)
      obtain ⟨g2, k2⟩ := Prod.mk.inj k1
      obtain ⟨g3, k3⟩ := Prod.mk.inj k2
      subst g1 g2 g3 k3
      exact xreti C0 B [0, 1, 2, 3] rfl rfl dX1_numberAt_63
    · have h := oif_f h c_2
      refine lv_iconst (v := -1) hx hb dX1_numberAt_12 (by decide) ?_
      obtain ⟨g1, k1⟩ := Prod.mk.inj (Option.some.inj h)
      obtain ⟨g2, k2⟩ := Prod.mk.inj k1
      obtain ⟨g3, k3⟩ := Prod.mk.inj k2
      subst g1 g2 g3 k3
      exact xreti C0 B [0, 1, 2, 3] rfl rfl dX1_numberAt_13
/-! FilterRows$Picture.within(III)I -/
abbrev rm_X2_within : Room := { frames := 1, cells := 0, slots := 0, locals := 21 }
def f_X2_within (n : Nat)  (x0 : Int32) (x1 : Int32) (x2 : Int32) : Option Int32 := some (if x1 < (if x0 < x2 then x0 else x2) then (if x0 < x2 then x0 else x2) else x1)
set_option maxHeartbeats 4000000 in
set_option maxRecDepth 100000 in
theorem c_X2_within (l : Launch) (G : xG)  (x0 : Int32) (x1 : Int32) (x2 : Int32) (n : Nat) (zr : Int32) (hF : f_X2_within n x0 x1 x2 = some zr) (sz : Nat) : Met l yX2_within (xws yX2_within cX2_within 3 (some .int)) rm_X2_within (va_Pc [.int x0, .int x1, .int x2] (xPre G [] sz)) (xQR (some (.int zr)) (fun q => sz ≤ q)) 0 0 (fun q => sz ≤ q) := by
  refine xMetR (by decide) (Nat.le_of_ble_eq_true rfl) ?_
  intro p e s m below meth c ls A H locs C0 hnm B hl
  have hl : lv_has ls 3 [(0, .int x0), (1, .int x1), (2, .int x2)] := hl
  have h := hF
  unfold f_X2_within at h
  obtain ⟨hx, hb, hr, hml, hown, hts, hlk⟩ := id C0
  refine lv_iload_n hx hb dX2_within_0 rfl (lv_at hl 1 rfl) ?_
  refine lv_iload_n hx hb dX2_within_1 rfl (lv_at hl 2 rfl) ?_
  refine lv_iload_n hx hb dX2_within_2 rfl (lv_at hl 0 rfl) ?_
  refine va_mmin hx hb (hml.trans hl.1.symm) hown (hts _ wd_68) (hts _ wd_69) (hts _ wd_5) (hts _ wd_70) (Nat.le_of_ble_eq_true rfl) (Nat.le_of_ble_eq_true rfl) (Nat.le_of_ble_eq_true rfl) (Nat.le_of_ble_eq_true rfl) dX2_within_3 ?_
  refine va_mmax hx hb (hml.trans hl.1.symm) hown (hts _ wd_71) (hts _ wd_4) (hts _ wd_5) (hts _ wd_6) (Nat.le_of_ble_eq_true rfl) (Nat.le_of_ble_eq_true rfl) (Nat.le_of_ble_eq_true rfl) (Nat.le_of_ble_eq_true rfl) dX2_within_6 ?_
  obtain rfl := Option.some.inj h
  exact xretiR C0 B dX2_within_9
/-! FilterRows$Picture.<init>(IIII)V -/
abbrev rm_X2_init : Room := { frames := 2, cells := 2, slots := 2048, locals := 43 }
def f_X2_init (n : Nat) (x1 : Int32) (x2 : Int32) (x3 : Int32) (x4 : Int32) : Option (Int32 × Int32 × Int32 × Int32 × Int32 × Int32 × Nat × (Nat → Int32) × Nat × (Nat → Int32)) := xb (f_X2_within n x1 (1 : Int32) (16 : Int32)) (fun r_1 => xb (f_X2_within n x2 (1 : Int32) (16 : Int32)) (fun r_3 => xb (f_X2_within n x4 (1 : Int32) (4 : Int32)) (fun r_5 => (if r_5 ≤ (1 : Int32) then xb (f_X2_within n x3 (0 : Int32) (4 : Int32)) (fun r_8 => xnz (8 : Int32) (xnewn ((r_1 * r_3) * r_5) 1024 (xnewn ((r_1 * r_3) * r_5) 1024 (some (r_1, r_3, ((1 : Int32) <<< (r_8 &&& 31)), r_5, (if (1 : Int32) < ((((1 : Int32) <<< (r_8 &&& 31)) * r_5) / (8 : Int32)) then ((((1 : Int32) <<< (r_8 &&& 31)) * r_5) / (8 : Int32)) else (1 : Int32)), (((1 : Int32) <<< (((1 : Int32) <<< (r_8 &&& 31)) &&& 31)) - (1 : Int32)), (((r_1 * r_3) * r_5)).toNatClampNeg, (fun _ => 0), (((r_1 * r_3) * r_5)).toNatClampNeg, (fun _ => 0)))))) else xb (f_X2_within n x3 (3 : Int32) (4 : Int32)) (fun r_15 => xnz (8 : Int32) (xnewn ((r_1 * r_3) * r_5) 1024 (xnewn ((r_1 * r_3) * r_5) 1024 (some (r_1, r_3, ((1 : Int32) <<< (r_15 &&& 31)), r_5, (if (1 : Int32) < ((((1 : Int32) <<< (r_15 &&& 31)) * r_5) / (8 : Int32)) then ((((1 : Int32) <<< (r_15 &&& 31)) * r_5) / (8 : Int32)) else (1 : Int32)), (((1 : Int32) <<< (((1 : Int32) <<< (r_15 &&& 31)) &&& 31)) - (1 : Int32)), (((r_1 * r_3) * r_5)).toNatClampNeg, (fun _ => 0), (((r_1 * r_3) * r_5)).toNatClampNeg, (fun _ => 0))))))))))
set_option maxHeartbeats 4000000 in
set_option maxRecDepth 100000 in
theorem c_X2_init (l : Launch) (G : xG) (o : Nat) (x1 : Int32) (x2 : Int32) (x3 : Int32) (x4 : Int32) (n : Nat) (z_o_width : Int32) (z_o_height : Int32) (z_o_bits : Int32) (z_o_channels : Int32) (z_o_step : Int32) (z_o_mostSample : Int32) (z_o_samplesN : Nat) (z_o_samplesF : Nat → Int32) (z_o_draftN : Nat) (z_o_draftF : Nat → Int32) (hF : f_X2_init n x1 x2 x3 x4 = some (z_o_width, z_o_height, z_o_bits, z_o_channels, z_o_step, z_o_mostSample, z_o_samplesN, z_o_samplesF, z_o_draftN, z_o_draftF)) (sz : Nat) : Met l yX2_init (xws yX2_init cX2_init 5 none) rm_X2_init (va_Pc [.ref o, .int x1, .int x2, .int x3, .int x4] (xPre G [(o, .inr (2, [.int 0, .int 0, .int 0, .int 0, .int 0, .int 0, .null, .null]))] sz)) (xQB none (fun t => ∃ (o_samples : Nat) (o_draft : Nat), xPost G [(o, .inr (2, [.int z_o_width, .int z_o_height, .int z_o_bits, .int z_o_channels, .int z_o_step, .int z_o_mostSample, .ref o_samples, .ref o_draft])), (o_samples, .inl (G.2.1, z_o_samplesN, .inl z_o_samplesF)), (o_draft, .inl (G.2.1, z_o_draftN, .inl z_o_draftF))] (va_A [(o, .inr (2, [.int 0, .int 0, .int 0, .int 0, .int 0, .int 0, .null, .null]))] sz) t) (va_A [(o, .inr (2, [.int 0, .int 0, .int 0, .int 0, .int 0, .int 0, .null, .null]))] sz)) 2 2048 (va_A [(o, .inr (2, [.int 0, .int 0, .int 0, .int 0, .int 0, .int 0, .null, .null]))] sz) := by
  refine xMetB (B0 := fun A t => ∃ (o_samples : Nat) (o_draft : Nat), xPost G [(o, .inr (2, [.int z_o_width, .int z_o_height, .int z_o_bits, .int z_o_channels, .int z_o_step, .int z_o_mostSample, .ref o_samples, .ref o_draft])), (o_samples, .inl (G.2.1, z_o_samplesN, .inl z_o_samplesF)), (o_draft, .inl (G.2.1, z_o_draftN, .inl z_o_draftF))] A t) (by decide) (Nat.le_of_ble_eq_true rfl) ?_
  intro p e s m below meth c ls A H locs C0 hnm B hl
  have hl : lv_has ls 5 [(0, .ref o), (1, .int x1), (2, .int x2), (3, .int x3), (4, .int x4)] := hl
  have h := hF
  unfold f_X2_init at h
  obtain ⟨hx, hb, hr, hml, hown, hts, hlk⟩ := id C0
  refine lv_aload_n hx hb dX2_init_0 rfl (lv_at hl 0 rfl) ?_
  refine W.objInit hx hb hown (hts _ wd_67) (hts _ wd_1) (hts _ wd_2) rfl (by rw [hml]; exact hl.1) rfl dX2_init_1 (Nat.le_of_ble_eq_true rfl) (Nat.le_of_ble_eq_true rfl) ?_
  refine W.eq (g2 := F0 m 4 ls []) rfl ?_
  refine lv_aload_n hx hb dX2_init_4 rfl (lv_at hl 0 rfl) ?_
  refine lv_iload_n hx hb dX2_init_5 rfl (lv_at hl 1 rfl) ?_
  refine lv_iconst (v := 1) hx hb dX2_init_6 (by decide) ?_
  refine lv_bipush (v := 16) hx hb dX2_init_7 (by decide) ?_
  obtain ⟨r_1, e_2, h⟩ := xb_spec h
  refine xcallR (wc := []) B [] rfl rfl (xrunS C0 (c_X2_within l G  x1 (1 : Int32) (16 : Int32) n r_1 e_2 H.size) kb_X2_within kv_X2_within wd_75 rfl rfl ⟨Nat.le_of_ble_eq_true rfl, Nat.le_of_ble_eq_true rfl⟩ rfl hl rfl (Nat.le_of_ble_eq_true rfl) dX2_init_9 ⟨Nat.le_of_ble_eq_true rfl, Nat.le_of_ble_eq_true rfl⟩) (fun H locs B => ?_)
  refine xputF (ws' := [(o, .inr (2, [.int r_1, .int 0, .int 0, .int 0, .int 0, .int 0, .null, .null]))]) C0 B inX2 tyX2 tyX2_ok nmX2 0 rfl rfl 0 (by decide) wd_76 rfl hnm rfl rfl rfl (Nat.le_of_ble_eq_true rfl) rfl dX2_init_12 (fun H locs B => ?_)
  refine lv_aload_n hx hb dX2_init_15 rfl (lv_at hl 0 rfl) ?_
  refine lv_iload_n hx hb dX2_init_16 rfl (lv_at hl 2 rfl) ?_
  refine lv_iconst (v := 1) hx hb dX2_init_17 (by decide) ?_
  refine lv_bipush (v := 16) hx hb dX2_init_18 (by decide) ?_
  obtain ⟨r_3, e_4, h⟩ := xb_spec h
  refine xcallR (wc := []) B [] rfl rfl (xrunS C0 (c_X2_within l G  x2 (1 : Int32) (16 : Int32) n r_3 e_4 H.size) kb_X2_within kv_X2_within wd_75 rfl rfl ⟨Nat.le_of_ble_eq_true rfl, Nat.le_of_ble_eq_true rfl⟩ rfl hl rfl (Nat.le_of_ble_eq_true rfl) dX2_init_20 ⟨Nat.le_of_ble_eq_true rfl, Nat.le_of_ble_eq_true rfl⟩) (fun H locs B => ?_)
  refine xputF (ws' := [(o, .inr (2, [.int r_1, .int r_3, .int 0, .int 0, .int 0, .int 0, .null, .null]))]) C0 B inX2 tyX2 tyX2_ok nmX2 0 rfl rfl 1 (by decide) wd_77 rfl hnm rfl rfl rfl (Nat.le_of_ble_eq_true rfl) rfl dX2_init_23 (fun H locs B => ?_)
  refine lv_aload_n hx hb dX2_init_26 rfl (lv_at hl 0 rfl) ?_
  refine lv_iload hx hb dX2_init_27 (lv_at hl 4 rfl) ?_
  refine lv_iconst (v := 1) hx hb dX2_init_29 (by decide) ?_
  refine lv_iconst (v := 4) hx hb dX2_init_30 (by decide) ?_
  obtain ⟨r_5, e_6, h⟩ := xb_spec h
  refine xcallR (wc := []) B [] rfl rfl (xrunS C0 (c_X2_within l G  x4 (1 : Int32) (4 : Int32) n r_5 e_6 H.size) kb_X2_within kv_X2_within wd_75 rfl rfl ⟨Nat.le_of_ble_eq_true rfl, Nat.le_of_ble_eq_true rfl⟩ rfl hl rfl (Nat.le_of_ble_eq_true rfl) dX2_init_31 ⟨Nat.le_of_ble_eq_true rfl, Nat.le_of_ble_eq_true rfl⟩) (fun H locs B => ?_)
  refine xputF (ws' := [(o, .inr (2, [.int r_1, .int r_3, .int 0, .int r_5, .int 0, .int 0, .null, .null]))]) C0 B inX2 tyX2 tyX2_ok nmX2 0 rfl rfl 3 (by decide) wd_78 rfl hnm rfl rfl rfl (Nat.le_of_ble_eq_true rfl) rfl dX2_init_34 (fun H locs B => ?_)
  refine lv_aload_n hx hb dX2_init_37 rfl (lv_at hl 0 rfl) ?_
  refine lv_iconst (v := 1) hx hb dX2_init_38 (by decide) ?_
  refine lv_iload_n hx hb dX2_init_39 rfl (lv_at hl 3 rfl) ?_
  refine lv_aload_n hx hb dX2_init_40 rfl (lv_at hl 0 rfl) ?_
  refine xget (v := .int r_5) C0 B inX2 0 rfl rfl 3 (by decide) wd_78 rfl dX2_init_41 ?_
  refine lv_iconst (v := 1) hx hb dX2_init_44 (by decide) ?_
  refine lv_icmp_le (tgt := 52) hx hb dX2_init_45 (by decide) (fun c_7 => ?_) (fun c_7 => ?_)
  · have h := oif_t h c_7
    refine lv_iconst (v := 0) hx hb dX2_init_52 (by decide) ?_
    refine lv_iconst (v := 4) hx hb dX2_init_53 (by decide) ?_
    obtain ⟨r_8, e_9, h⟩ := xb_spec h
    refine xcallR (wc := []) B [] rfl rfl (xrunS C0 (c_X2_within l G  x3 (0 : Int32) (4 : Int32) n r_8 e_9 H.size) kb_X2_within kv_X2_within wd_75 rfl rfl ⟨Nat.le_of_ble_eq_true rfl, Nat.le_of_ble_eq_true rfl⟩ rfl hl rfl (Nat.le_of_ble_eq_true rfl) dX2_init_54 ⟨Nat.le_of_ble_eq_true rfl, Nat.le_of_ble_eq_true rfl⟩) (fun H locs B => ?_)
    refine lv_ishl hx hb dX2_init_57 ?_
    refine xputF (ws' := [(o, .inr (2, [.int r_1, .int r_3, .int ((1 : Int32) <<< (r_8 &&& 31)), .int r_5, .int 0, .int 0, .null, .null]))]) C0 B inX2 tyX2 tyX2_ok nmX2 0 rfl rfl 2 (by decide) wd_79 rfl hnm rfl rfl rfl (Nat.le_of_ble_eq_true rfl) rfl dX2_init_58 (fun H locs B => ?_)
    refine lv_aload_n hx hb dX2_init_61 rfl (lv_at hl 0 rfl) ?_
    refine lv_iconst (v := 1) hx hb dX2_init_62 (by decide) ?_
    refine lv_aload_n hx hb dX2_init_63 rfl (lv_at hl 0 rfl) ?_
    refine xget (v := .int ((1 : Int32) <<< (r_8 &&& 31))) C0 B inX2 0 rfl rfl 2 (by decide) wd_79 rfl dX2_init_64 ?_
    refine lv_aload_n hx hb dX2_init_67 rfl (lv_at hl 0 rfl) ?_
    refine xget (v := .int r_5) C0 B inX2 0 rfl rfl 3 (by decide) wd_78 rfl dX2_init_68 ?_
    refine lv_imul hx hb dX2_init_71 ?_
    refine lv_bipush (v := 8) hx hb dX2_init_72 (by decide) ?_
    obtain ⟨d_10, h⟩ := xnz_spec h
    refine lv_idiv hx hb dX2_init_74 d_10 ?_
    refine va_mmax hx hb (hml.trans hl.1.symm) hown (hts _ wd_71) (hts _ wd_4) (hts _ wd_5) (hts _ wd_6) (Nat.le_of_ble_eq_true rfl) (Nat.le_of_ble_eq_true rfl) (Nat.le_of_ble_eq_true rfl) (Nat.le_of_ble_eq_true rfl) dX2_init_75 ?_
    refine xputF (ws' := [(o, .inr (2, [.int r_1, .int r_3, .int ((1 : Int32) <<< (r_8 &&& 31)), .int r_5, .int (if (1 : Int32) < ((((1 : Int32) <<< (r_8 &&& 31)) * r_5) / (8 : Int32)) then ((((1 : Int32) <<< (r_8 &&& 31)) * r_5) / (8 : Int32)) else (1 : Int32)), .int 0, .null, .null]))]) C0 B inX2 tyX2 tyX2_ok nmX2 0 rfl rfl 4 (by decide) wd_80 rfl hnm rfl rfl rfl (Nat.le_of_ble_eq_true rfl) rfl dX2_init_78 (fun H locs B => ?_)
    refine lv_aload_n hx hb dX2_init_81 rfl (lv_at hl 0 rfl) ?_
    refine lv_iconst (v := 1) hx hb dX2_init_82 (by decide) ?_
    refine lv_aload_n hx hb dX2_init_83 rfl (lv_at hl 0 rfl) ?_
    refine xget (v := .int ((1 : Int32) <<< (r_8 &&& 31))) C0 B inX2 0 rfl rfl 2 (by decide) wd_79 rfl dX2_init_84 ?_
    refine lv_ishl hx hb dX2_init_87 ?_
    refine lv_iconst (v := 1) hx hb dX2_init_88 (by decide) ?_
    refine lv_isub hx hb dX2_init_89 ?_
    refine xputF (ws' := [(o, .inr (2, [.int r_1, .int r_3, .int ((1 : Int32) <<< (r_8 &&& 31)), .int r_5, .int (if (1 : Int32) < ((((1 : Int32) <<< (r_8 &&& 31)) * r_5) / (8 : Int32)) then ((((1 : Int32) <<< (r_8 &&& 31)) * r_5) / (8 : Int32)) else (1 : Int32)), .int (((1 : Int32) <<< (((1 : Int32) <<< (r_8 &&& 31)) &&& 31)) - (1 : Int32)), .null, .null]))]) C0 B inX2 tyX2 tyX2_ok nmX2 0 rfl rfl 5 (by decide) wd_81 rfl hnm rfl rfl rfl (Nat.le_of_ble_eq_true rfl) rfl dX2_init_90 (fun H locs B => ?_)
    refine lv_aload_n hx hb dX2_init_93 rfl (lv_at hl 0 rfl) ?_
    refine lv_aload_n hx hb dX2_init_94 rfl (lv_at hl 0 rfl) ?_
    refine xget (v := .int r_1) C0 B inX2 0 rfl rfl 0 (by decide) wd_76 rfl dX2_init_95 ?_
    refine lv_aload_n hx hb dX2_init_98 rfl (lv_at hl 0 rfl) ?_
    refine xget (v := .int r_3) C0 B inX2 0 rfl rfl 1 (by decide) wd_77 rfl dX2_init_99 ?_
    refine lv_imul hx hb dX2_init_102 ?_
    refine lv_aload_n hx hb dX2_init_103 rfl (lv_at hl 0 rfl) ?_
    refine xget (v := .int r_5) C0 B inX2 0 rfl rfl 3 (by decide) wd_78 rfl dX2_init_104 ?_
    refine lv_imul hx hb dX2_init_107 ?_
    obtain ⟨b_12, b_12s, h⟩ := xnewn_spec h
    refine xnew_int (bnd := 1024) (ws' := fun q_11 => [(o, .inr (2, [.int r_1, .int r_3, .int ((1 : Int32) <<< (r_8 &&& 31)), .int r_5, .int (if (1 : Int32) < ((((1 : Int32) <<< (r_8 &&& 31)) * r_5) / (8 : Int32)) then ((((1 : Int32) <<< (r_8 &&& 31)) * r_5) / (8 : Int32)) else (1 : Int32)), .int (((1 : Int32) <<< (((1 : Int32) <<< (r_8 &&& 31)) &&& 31)) - (1 : Int32)), .null, .null])), (q_11, .inl (G.2.1, (((r_1 * r_3) * r_5)).toNatClampNeg, .inl (fun _ => 0)))]) C0 B b_12 b_12s wd_7 (Nat.le_of_ble_eq_true rfl) (Nat.le_of_ble_eq_true rfl) (Nat.le_of_ble_eq_true rfl) (fun _ => rfl) dX2_init_108 (fun q_11 H locs B => ?_)
    refine W.widen (k := 1) (n := 1024) (Nat.le_of_ble_eq_true rfl) (Nat.le_of_ble_eq_true rfl) ?_
    refine xputF (ws' := [(o, .inr (2, [.int r_1, .int r_3, .int ((1 : Int32) <<< (r_8 &&& 31)), .int r_5, .int (if (1 : Int32) < ((((1 : Int32) <<< (r_8 &&& 31)) * r_5) / (8 : Int32)) then ((((1 : Int32) <<< (r_8 &&& 31)) * r_5) / (8 : Int32)) else (1 : Int32)), .int (((1 : Int32) <<< (((1 : Int32) <<< (r_8 &&& 31)) &&& 31)) - (1 : Int32)), .ref q_11, .null])), (q_11, .inl (G.2.1, (((r_1 * r_3) * r_5)).toNatClampNeg, .inl (fun _ => 0)))]) C0 B inX2 tyX2 tyX2_ok nmX2 0 rfl rfl 6 (by decide) wd_82 rfl hnm rfl rfl rfl (Nat.le_of_ble_eq_true rfl) rfl dX2_init_110 (fun H locs B => ?_)
    refine lv_aload_n hx hb dX2_init_113 rfl (lv_at hl 0 rfl) ?_
    refine lv_aload_n hx hb dX2_init_114 rfl (lv_at hl 0 rfl) ?_
    refine xget (v := .int r_1) C0 B inX2 0 rfl rfl 0 (by decide) wd_76 rfl dX2_init_115 ?_
    refine lv_aload_n hx hb dX2_init_118 rfl (lv_at hl 0 rfl) ?_
    refine xget (v := .int r_3) C0 B inX2 0 rfl rfl 1 (by decide) wd_77 rfl dX2_init_119 ?_
    refine lv_imul hx hb dX2_init_122 ?_
    refine lv_aload_n hx hb dX2_init_123 rfl (lv_at hl 0 rfl) ?_
    refine xget (v := .int r_5) C0 B inX2 0 rfl rfl 3 (by decide) wd_78 rfl dX2_init_124 ?_
    refine lv_imul hx hb dX2_init_127 ?_
    obtain ⟨b_14, b_14s, h⟩ := xnewn_spec h
    refine xnew_int (bnd := 1024) (ws' := fun q_13 => [(o, .inr (2, [.int r_1, .int r_3, .int ((1 : Int32) <<< (r_8 &&& 31)), .int r_5, .int (if (1 : Int32) < ((((1 : Int32) <<< (r_8 &&& 31)) * r_5) / (8 : Int32)) then ((((1 : Int32) <<< (r_8 &&& 31)) * r_5) / (8 : Int32)) else (1 : Int32)), .int (((1 : Int32) <<< (((1 : Int32) <<< (r_8 &&& 31)) &&& 31)) - (1 : Int32)), .ref q_11, .null])), (q_11, .inl (G.2.1, (((r_1 * r_3) * r_5)).toNatClampNeg, .inl (fun _ => 0))), (q_13, .inl (G.2.1, (((r_1 * r_3) * r_5)).toNatClampNeg, .inl (fun _ => 0)))]) C0 B b_14 b_14s wd_7 (Nat.le_of_ble_eq_true rfl) (Nat.le_of_ble_eq_true rfl) (Nat.le_of_ble_eq_true rfl) (fun _ => rfl) dX2_init_128 (fun q_13 H locs B => ?_)
    refine W.widen (k := 2) (n := 2048) (Nat.le_of_ble_eq_true rfl) (Nat.le_of_ble_eq_true rfl) ?_
    refine xputF (ws' := [(o, .inr (2, [.int r_1, .int r_3, .int ((1 : Int32) <<< (r_8 &&& 31)), .int r_5, .int (if (1 : Int32) < ((((1 : Int32) <<< (r_8 &&& 31)) * r_5) / (8 : Int32)) then ((((1 : Int32) <<< (r_8 &&& 31)) * r_5) / (8 : Int32)) else (1 : Int32)), .int (((1 : Int32) <<< (((1 : Int32) <<< (r_8 &&& 31)) &&& 31)) - (1 : Int32)), .ref q_11, .ref q_13])), (q_11, .inl (G.2.1, (((r_1 * r_3) * r_5)).toNatClampNeg, .inl (fun _ => 0))), (q_13, .inl (G.2.1, (((r_1 * r_3) * r_5)).toNatClampNeg, .inl (fun _ => 0)))]) C0 B inX2 tyX2 tyX2_ok nmX2 0 rfl rfl 7 (by decide) wd_83 rfl hnm rfl rfl rfl (Nat.le_of_ble_eq_true rfl) rfl dX2_init_130 (fun H locs B => ?_)
    obtain ⟨g1, k1⟩ := Prod.mk.inj (Option.some.inj h)
    obtain ⟨g2, k2⟩ := Prod.mk.inj k1
    obtain ⟨g3, k3⟩ := Prod.mk.inj k2
    obtain ⟨g4, k4⟩ := Prod.mk.inj k3
    obtain ⟨g5, k5⟩ := Prod.mk.inj k4
    obtain ⟨g6, k6⟩ := Prod.mk.inj k5
    obtain ⟨g7, k7⟩ := Prod.mk.inj k6
    obtain ⟨g8, k8⟩ := Prod.mk.inj k7
    obtain ⟨g9, k9⟩ := Prod.mk.inj k8
    subst g1 g2 g3 g4 g5 g6 g7 g8 g9 k9
    refine W.widen (k := 2) (n := 2048) (Nat.le_of_ble_eq_true rfl) (Nat.le_of_ble_eq_true rfl) ?_
    exact xretB C0 B [0, 1, 2] rfl rfl (fun t ht => ⟨q_11, q_13, ht⟩) dX2_init_133
  · have h := oif_f h c_7
    refine lv_iconst (v := 3) hx hb dX2_init_48 (by decide) ?_
    refine lv_goto (tgt := 53) hx hb dX2_init_49 (by decide) ?_
    refine lv_iconst (v := 4) hx hb dX2_init_53 (by decide) ?_
    obtain ⟨r_15, e_16, h⟩ := xb_spec h
    refine xcallR (wc := []) B [] rfl rfl (xrunS C0 (c_X2_within l G  x3 (3 : Int32) (4 : Int32) n r_15 e_16 H.size) kb_X2_within kv_X2_within wd_75 rfl rfl ⟨Nat.le_of_ble_eq_true rfl, Nat.le_of_ble_eq_true rfl⟩ rfl hl rfl (Nat.le_of_ble_eq_true rfl) dX2_init_54 ⟨Nat.le_of_ble_eq_true rfl, Nat.le_of_ble_eq_true rfl⟩) (fun H locs B => ?_)
    refine lv_ishl hx hb dX2_init_57 ?_
    refine xputF (ws' := [(o, .inr (2, [.int r_1, .int r_3, .int ((1 : Int32) <<< (r_15 &&& 31)), .int r_5, .int 0, .int 0, .null, .null]))]) C0 B inX2 tyX2 tyX2_ok nmX2 0 rfl rfl 2 (by decide) wd_79 rfl hnm rfl rfl rfl (Nat.le_of_ble_eq_true rfl) rfl dX2_init_58 (fun H locs B => ?_)
    refine lv_aload_n hx hb dX2_init_61 rfl (lv_at hl 0 rfl) ?_
    refine lv_iconst (v := 1) hx hb dX2_init_62 (by decide) ?_
    refine lv_aload_n hx hb dX2_init_63 rfl (lv_at hl 0 rfl) ?_
    refine xget (v := .int ((1 : Int32) <<< (r_15 &&& 31))) C0 B inX2 0 rfl rfl 2 (by decide) wd_79 rfl dX2_init_64 ?_
    refine lv_aload_n hx hb dX2_init_67 rfl (lv_at hl 0 rfl) ?_
    refine xget (v := .int r_5) C0 B inX2 0 rfl rfl 3 (by decide) wd_78 rfl dX2_init_68 ?_
    refine lv_imul hx hb dX2_init_71 ?_
    refine lv_bipush (v := 8) hx hb dX2_init_72 (by decide) ?_
    obtain ⟨d_17, h⟩ := xnz_spec h
    refine lv_idiv hx hb dX2_init_74 d_17 ?_
    refine va_mmax hx hb (hml.trans hl.1.symm) hown (hts _ wd_71) (hts _ wd_4) (hts _ wd_5) (hts _ wd_6) (Nat.le_of_ble_eq_true rfl) (Nat.le_of_ble_eq_true rfl) (Nat.le_of_ble_eq_true rfl) (Nat.le_of_ble_eq_true rfl) dX2_init_75 ?_
    refine xputF (ws' := [(o, .inr (2, [.int r_1, .int r_3, .int ((1 : Int32) <<< (r_15 &&& 31)), .int r_5, .int (if (1 : Int32) < ((((1 : Int32) <<< (r_15 &&& 31)) * r_5) / (8 : Int32)) then ((((1 : Int32) <<< (r_15 &&& 31)) * r_5) / (8 : Int32)) else (1 : Int32)), .int 0, .null, .null]))]) C0 B inX2 tyX2 tyX2_ok nmX2 0 rfl rfl 4 (by decide) wd_80 rfl hnm rfl rfl rfl (Nat.le_of_ble_eq_true rfl) rfl dX2_init_78 (fun H locs B => ?_)
    refine lv_aload_n hx hb dX2_init_81 rfl (lv_at hl 0 rfl) ?_
    refine lv_iconst (v := 1) hx hb dX2_init_82 (by decide) ?_
    refine lv_aload_n hx hb dX2_init_83 rfl (lv_at hl 0 rfl) ?_
    refine xget (v := .int ((1 : Int32) <<< (r_15 &&& 31))) C0 B inX2 0 rfl rfl 2 (by decide) wd_79 rfl dX2_init_84 ?_
    refine lv_ishl hx hb dX2_init_87 ?_
    refine lv_iconst (v := 1) hx hb dX2_init_88 (by decide) ?_
    refine lv_isub hx hb dX2_init_89 ?_
    refine xputF (ws' := [(o, .inr (2, [.int r_1, .int r_3, .int ((1 : Int32) <<< (r_15 &&& 31)), .int r_5, .int (if (1 : Int32) < ((((1 : Int32) <<< (r_15 &&& 31)) * r_5) / (8 : Int32)) then ((((1 : Int32) <<< (r_15 &&& 31)) * r_5) / (8 : Int32)) else (1 : Int32)), .int (((1 : Int32) <<< (((1 : Int32) <<< (r_15 &&& 31)) &&& 31)) - (1 : Int32)), .null, .null]))]) C0 B inX2 tyX2 tyX2_ok nmX2 0 rfl rfl 5 (by decide) wd_81 rfl hnm rfl rfl rfl (Nat.le_of_ble_eq_true rfl) rfl dX2_init_90 (fun H locs B => ?_)
    refine lv_aload_n hx hb dX2_init_93 rfl (lv_at hl 0 rfl) ?_
    refine lv_aload_n hx hb dX2_init_94 rfl (lv_at hl 0 rfl) ?_
    refine xget (v := .int r_1) C0 B inX2 0 rfl rfl 0 (by decide) wd_76 rfl dX2_init_95 ?_
    refine lv_aload_n hx hb dX2_init_98 rfl (lv_at hl 0 rfl) ?_
    refine xget (v := .int r_3) C0 B inX2 0 rfl rfl 1 (by decide) wd_77 rfl dX2_init_99 ?_
    refine lv_imul hx hb dX2_init_102 ?_
    refine lv_aload_n hx hb dX2_init_103 rfl (lv_at hl 0 rfl) ?_
    refine xget (v := .int r_5) C0 B inX2 0 rfl rfl 3 (by decide) wd_78 rfl dX2_init_104 ?_
    refine lv_imul hx hb dX2_init_107 ?_
    obtain ⟨b_19, b_19s, h⟩ := xnewn_spec h
    refine xnew_int (bnd := 1024) (ws' := fun q_18 => [(o, .inr (2, [.int r_1, .int r_3, .int ((1 : Int32) <<< (r_15 &&& 31)), .int r_5, .int (if (1 : Int32) < ((((1 : Int32) <<< (r_15 &&& 31)) * r_5) / (8 : Int32)) then ((((1 : Int32) <<< (r_15 &&& 31)) * r_5) / (8 : Int32)) else (1 : Int32)), .int (((1 : Int32) <<< (((1 : Int32) <<< (r_15 &&& 31)) &&& 31)) - (1 : Int32)), .null, .null])), (q_18, .inl (G.2.1, (((r_1 * r_3) * r_5)).toNatClampNeg, .inl (fun _ => 0)))]) C0 B b_19 b_19s wd_7 (Nat.le_of_ble_eq_true rfl) (Nat.le_of_ble_eq_true rfl) (Nat.le_of_ble_eq_true rfl) (fun _ => rfl) dX2_init_108 (fun q_18 H locs B => ?_)
    refine W.widen (k := 1) (n := 1024) (Nat.le_of_ble_eq_true rfl) (Nat.le_of_ble_eq_true rfl) ?_
    refine xputF (ws' := [(o, .inr (2, [.int r_1, .int r_3, .int ((1 : Int32) <<< (r_15 &&& 31)), .int r_5, .int (if (1 : Int32) < ((((1 : Int32) <<< (r_15 &&& 31)) * r_5) / (8 : Int32)) then ((((1 : Int32) <<< (r_15 &&& 31)) * r_5) / (8 : Int32)) else (1 : Int32)), .int (((1 : Int32) <<< (((1 : Int32) <<< (r_15 &&& 31)) &&& 31)) - (1 : Int32)), .ref q_18, .null])), (q_18, .inl (G.2.1, (((r_1 * r_3) * r_5)).toNatClampNeg, .inl (fun _ => 0)))]) C0 B inX2 tyX2 tyX2_ok nmX2 0 rfl rfl 6 (by decide) wd_82 rfl hnm rfl rfl rfl (Nat.le_of_ble_eq_true rfl) rfl dX2_init_110 (fun H locs B => ?_)
    refine lv_aload_n hx hb dX2_init_113 rfl (lv_at hl 0 rfl) ?_
    refine lv_aload_n hx hb dX2_init_114 rfl (lv_at hl 0 rfl) ?_
    refine xget (v := .int r_1) C0 B inX2 0 rfl rfl 0 (by decide) wd_76 rfl dX2_init_115 ?_
    refine lv_aload_n hx hb dX2_init_118 rfl (lv_at hl 0 rfl) ?_
    refine xget (v := .int r_3) C0 B inX2 0 rfl rfl 1 (by decide) wd_77 rfl dX2_init_119 ?_
    refine lv_imul hx hb dX2_init_122 ?_
    refine lv_aload_n hx hb dX2_init_123 rfl (lv_at hl 0 rfl) ?_
    refine xget (v := .int r_5) C0 B inX2 0 rfl rfl 3 (by decide) wd_78 rfl dX2_init_124 ?_
    refine lv_imul hx hb dX2_init_127 ?_
    obtain ⟨b_21, b_21s, h⟩ := xnewn_spec h
    refine xnew_int (bnd := 1024) (ws' := fun q_20 => [(o, .inr (2, [.int r_1, .int r_3, .int ((1 : Int32) <<< (r_15 &&& 31)), .int r_5, .int (if (1 : Int32) < ((((1 : Int32) <<< (r_15 &&& 31)) * r_5) / (8 : Int32)) then ((((1 : Int32) <<< (r_15 &&& 31)) * r_5) / (8 : Int32)) else (1 : Int32)), .int (((1 : Int32) <<< (((1 : Int32) <<< (r_15 &&& 31)) &&& 31)) - (1 : Int32)), .ref q_18, .null])), (q_18, .inl (G.2.1, (((r_1 * r_3) * r_5)).toNatClampNeg, .inl (fun _ => 0))), (q_20, .inl (G.2.1, (((r_1 * r_3) * r_5)).toNatClampNeg, .inl (fun _ => 0)))]) C0 B b_21 b_21s wd_7 (Nat.le_of_ble_eq_true rfl) (Nat.le_of_ble_eq_true rfl) (Nat.le_of_ble_eq_true rfl) (fun _ => rfl) dX2_init_128 (fun q_20 H locs B => ?_)
    refine W.widen (k := 2) (n := 2048) (Nat.le_of_ble_eq_true rfl) (Nat.le_of_ble_eq_true rfl) ?_
    refine xputF (ws' := [(o, .inr (2, [.int r_1, .int r_3, .int ((1 : Int32) <<< (r_15 &&& 31)), .int r_5, .int (if (1 : Int32) < ((((1 : Int32) <<< (r_15 &&& 31)) * r_5) / (8 : Int32)) then ((((1 : Int32) <<< (r_15 &&& 31)) * r_5) / (8 : Int32)) else (1 : Int32)), .int (((1 : Int32) <<< (((1 : Int32) <<< (r_15 &&& 31)) &&& 31)) - (1 : Int32)), .ref q_18, .ref q_20])), (q_18, .inl (G.2.1, (((r_1 * r_3) * r_5)).toNatClampNeg, .inl (fun _ => 0))), (q_20, .inl (G.2.1, (((r_1 * r_3) * r_5)).toNatClampNeg, .inl (fun _ => 0)))]) C0 B inX2 tyX2 tyX2_ok nmX2 0 rfl rfl 7 (by decide) wd_83 rfl hnm rfl rfl rfl (Nat.le_of_ble_eq_true rfl) rfl dX2_init_130 (fun H locs B => ?_)
    obtain ⟨g1, k1⟩ := Prod.mk.inj (Option.some.inj h)
    obtain ⟨g2, k2⟩ := Prod.mk.inj k1
    obtain ⟨g3, k3⟩ := Prod.mk.inj k2
    obtain ⟨g4, k4⟩ := Prod.mk.inj k3
    obtain ⟨g5, k5⟩ := Prod.mk.inj k4
    obtain ⟨g6, k6⟩ := Prod.mk.inj k5
    obtain ⟨g7, k7⟩ := Prod.mk.inj k6
    obtain ⟨g8, k8⟩ := Prod.mk.inj k7
    obtain ⟨g9, k9⟩ := Prod.mk.inj k8
    subst g1 g2 g3 g4 g5 g6 g7 g8 g9 k9
    refine W.widen (k := 2) (n := 2048) (Nat.le_of_ble_eq_true rfl) (Nat.le_of_ble_eq_true rfl) ?_
    exact xretB C0 B [0, 1, 2] rfl rfl (fun t ht => ⟨q_18, q_20, ht⟩) dX2_init_133
