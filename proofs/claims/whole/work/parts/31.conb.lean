/-! FilterRowsModel.thrown()I -/
abbrev rm_X5_thrown : Room := { frames := 0, cells := 0, slots := 0, locals := 0 }
def f_X5_thrown (n : Nat) (o_thrown : Int32)  : Option Int32 := some o_thrown
set_option maxHeartbeats 4000000 in
set_option maxRecDepth 100000 in
theorem c_X5_thrown (l : Launch) (G : xG) (o : Nat) (o_thrown : Int32) (o_width : Int32) (o_height : Int32) (o_bits : Int32) (o_channels : Int32) (o_step : Int32) (o_firstColumns : Nat) (o_firstColumnsN : Nat) (o_firstColumnsF : Nat → Int32) (o_columnSteps : Nat) (o_columnStepsN : Nat) (o_columnStepsF : Nat → Int32) (o_firstRows : Nat) (o_firstRowsN : Nat) (o_firstRowsF : Nat → Int32) (o_rowSteps : Nat) (o_rowStepsN : Nat) (o_rowStepsF : Nat → Int32) (o_samples : Nat) (o_samplesN : Nat) (o_samplesF : Nat → Int32) (o_draft : Nat) (o_draftN : Nat) (o_draftF : Nat → Int32) (o_line : Nat) (o_lineN : Nat) (o_lineF : Nat → Int32) (o_above : Nat) (o_aboveN : Nat) (o_aboveF : Nat → Int32) (o_rest : Nat) (o_restN : Nat) (o_restF : Nat → Int32) (o_seen : Nat) (o_seenN : Nat) (o_seenF : Nat → Int32) (o_encoded : Nat) (o_encodedN : Nat) (o_encodedF : Nat → Int32) (o_encodedSize : Int32) (o_chosen : Nat) (o_chosenN : Nat) (o_chosenF : Nat → Int32) (o_feed : Nat) (o_feedN : Nat) (o_feedF : Nat → Int32) (o_feedSize : Int32) (o_colours : Nat) (o_coloursN : Nat) (o_coloursF : Nat → Int32) (o_colourCount : Int32)  (n : Nat) (zr : Int32) (hF : f_X5_thrown n o_thrown = some zr) (sz : Nat) : Met l yX5_thrown (xws yX5_thrown cX5_thrown 1 (some .int)) rm_X5_thrown (va_Pc [.ref o] (xPre G [(o, .inr (5, [.int o_thrown, .int o_width, .int o_height, .int o_bits, .int o_channels, .int o_step, .ref o_firstColumns, .ref o_columnSteps, .ref o_firstRows, .ref o_rowSteps, .ref o_samples, .ref o_draft, .ref o_line, .ref o_above, .ref o_rest, .ref o_seen, .ref o_encoded, .int o_encodedSize, .ref o_chosen, .ref o_feed, .int o_feedSize, .ref o_colours, .int o_colourCount])), (o_firstColumns, .inl (G.2.1, o_firstColumnsN, .inl o_firstColumnsF)), (o_columnSteps, .inl (G.2.1, o_columnStepsN, .inl o_columnStepsF)), (o_firstRows, .inl (G.2.1, o_firstRowsN, .inl o_firstRowsF)), (o_rowSteps, .inl (G.2.1, o_rowStepsN, .inl o_rowStepsF)), (o_samples, .inl (G.2.1, o_samplesN, .inl o_samplesF)), (o_draft, .inl (G.2.1, o_draftN, .inl o_draftF)), (o_line, .inl (G.2.1, o_lineN, .inl o_lineF)), (o_above, .inl (G.2.1, o_aboveN, .inl o_aboveF)), (o_rest, .inl (G.2.1, o_restN, .inl o_restF)), (o_seen, .inl (G.2.2.1, o_seenN, .inl o_seenF)), (o_encoded, .inl (G.2.1, o_encodedN, .inl o_encodedF)), (o_chosen, .inl (G.2.1, o_chosenN, .inl o_chosenF)), (o_feed, .inl (G.2.1, o_feedN, .inl o_feedF)), (o_colours, .inl (G.2.1, o_coloursN, .inl o_coloursF))] sz)) (xQR (some (.int zr)) (fun q => sz ≤ q)) 0 0 (fun q => sz ≤ q) := by
  refine xMetR (by decide) (Nat.le_of_ble_eq_true rfl) ?_
  intro p e s m below meth c ls A H locs C0 hnm B hl
  have hl : lv_has ls 1 [(0, .ref o)] := hl
  have h := hF
  unfold f_X5_thrown at h
  obtain ⟨hx, hb, hr, hml, hown, hts, hlk⟩ := id C0
  refine lv_aload_n hx hb dX5_thrown_0 rfl (lv_at hl 0 rfl) ?_
  refine xget (v := .int o_thrown) C0 B inX5 0 rfl rfl 0 (by decide) wd_414 rfl dX5_thrown_1 ?_
  obtain rfl := Option.some.inj h
  exact xretiR C0 B dX5_thrown_4
/-! FilterRowsModel.in(III)Z -/
abbrev rm_X5_in : Room := { frames := 0, cells := 0, slots := 0, locals := 0 }
def f_X5_in (n : Nat)  (x0 : Int32) (x1 : Int32) (x2 : Int32) : Option Int32 := (if x0 < x1 then some (0 : Int32) else (if x2 < x0 then some (0 : Int32) else some (1 : Int32)))
set_option maxHeartbeats 4000000 in
set_option maxRecDepth 100000 in
theorem c_X5_in (l : Launch) (G : xG)  (x0 : Int32) (x1 : Int32) (x2 : Int32) (n : Nat) (zr : Int32) (hF : f_X5_in n x0 x1 x2 = some zr) (sz : Nat) : Met l yX5_in (xws yX5_in cX5_in 3 (some .boolean)) rm_X5_in (va_Pc [.int x0, .int x1, .int x2] (xPre G [] sz)) (xQR (some (.int zr)) (fun q => sz ≤ q)) 0 0 (fun q => sz ≤ q) := by
  refine xMetR (by decide) (Nat.le_of_ble_eq_true rfl) ?_
  intro p e s m below meth c ls A H locs C0 hnm B hl
  have hl : lv_has ls 3 [(0, .int x0), (1, .int x1), (2, .int x2)] := hl
  have h := hF
  unfold f_X5_in at h
  obtain ⟨hx, hb, hr, hml, hown, hts, hlk⟩ := id C0
  refine lv_iload_n hx hb dX5_in_0 rfl (lv_at hl 0 rfl) ?_
  refine lv_iload_n hx hb dX5_in_1 rfl (lv_at hl 1 rfl) ?_
  refine lv_icmp_lt (tgt := 14) hx hb dX5_in_2 (by decide) (fun c_1 => ?_) (fun c_1 => ?_)
  · have h := oif_t h c_1
    refine lv_iconst (v := 0) hx hb dX5_in_14 (by decide) ?_
    obtain rfl := Option.some.inj h
    exact xretzR C0 B rfl dX5_in_15
  · have h := oif_f h c_1
    refine lv_iload_n hx hb dX5_in_5 rfl (lv_at hl 0 rfl) ?_
    refine lv_iload_n hx hb dX5_in_6 rfl (lv_at hl 2 rfl) ?_
    refine lv_icmp_gt (tgt := 14) hx hb dX5_in_7 (by decide) (fun c_2 => ?_) (fun c_2 => ?_)
    · have h := oif_t h c_2
      refine lv_iconst (v := 0) hx hb dX5_in_14 (by decide) ?_
      obtain rfl := Option.some.inj h
      exact xretzR C0 B rfl dX5_in_15
    · have h := oif_f h c_2
      refine lv_iconst (v := 1) hx hb dX5_in_10 (by decide) ?_
      refine lv_goto (tgt := 15) hx hb dX5_in_11 (by decide) ?_
      obtain rfl := Option.some.inj h
      exact xretzR C0 B rfl dX5_in_15
/-! FilterRowsModel.isSample(III)Z -/
abbrev rm_X5_isSample : Room := { frames := 1, cells := 0, slots := 0, locals := 22 }
def f_X5_isSample (n : Nat) (o_width : Int32) (o_height : Int32) (o_channels : Int32) (x1 : Int32) (x2 : Int32) (x3 : Int32) : Option Int32 := xb (f_X5_in n x1 (0 : Int32) (o_width - (1 : Int32))) (fun r_1 => (if r_1 = 0 then some (0 : Int32) else xb (f_X5_in n x2 (0 : Int32) (o_height - (1 : Int32))) (fun r_4 => (if r_4 = 0 then some (0 : Int32) else xb (f_X5_in n x3 (0 : Int32) (o_channels - (1 : Int32))) (fun r_7 => (if r_7 = 0 then some (0 : Int32) else some (1 : Int32)))))))
set_option maxHeartbeats 4000000 in
set_option maxRecDepth 100000 in
theorem c_X5_isSample (l : Launch) (G : xG) (o : Nat) (o_thrown : Int32) (o_width : Int32) (o_height : Int32) (o_bits : Int32) (o_channels : Int32) (o_step : Int32) (o_firstColumns : Nat) (o_firstColumnsN : Nat) (o_firstColumnsF : Nat → Int32) (o_columnSteps : Nat) (o_columnStepsN : Nat) (o_columnStepsF : Nat → Int32) (o_firstRows : Nat) (o_firstRowsN : Nat) (o_firstRowsF : Nat → Int32) (o_rowSteps : Nat) (o_rowStepsN : Nat) (o_rowStepsF : Nat → Int32) (o_samples : Nat) (o_samplesN : Nat) (o_samplesF : Nat → Int32) (o_draft : Nat) (o_draftN : Nat) (o_draftF : Nat → Int32) (o_line : Nat) (o_lineN : Nat) (o_lineF : Nat → Int32) (o_above : Nat) (o_aboveN : Nat) (o_aboveF : Nat → Int32) (o_rest : Nat) (o_restN : Nat) (o_restF : Nat → Int32) (o_seen : Nat) (o_seenN : Nat) (o_seenF : Nat → Int32) (o_encoded : Nat) (o_encodedN : Nat) (o_encodedF : Nat → Int32) (o_encodedSize : Int32) (o_chosen : Nat) (o_chosenN : Nat) (o_chosenF : Nat → Int32) (o_feed : Nat) (o_feedN : Nat) (o_feedF : Nat → Int32) (o_feedSize : Int32) (o_colours : Nat) (o_coloursN : Nat) (o_coloursF : Nat → Int32) (o_colourCount : Int32) (x1 : Int32) (x2 : Int32) (x3 : Int32) (n : Nat) (zr : Int32) (hF : f_X5_isSample n o_width o_height o_channels x1 x2 x3 = some zr) (sz : Nat) : Met l yX5_isSample (xws yX5_isSample cX5_isSample 4 (some .boolean)) rm_X5_isSample (va_Pc [.ref o, .int x1, .int x2, .int x3] (xPre G [(o, .inr (5, [.int o_thrown, .int o_width, .int o_height, .int o_bits, .int o_channels, .int o_step, .ref o_firstColumns, .ref o_columnSteps, .ref o_firstRows, .ref o_rowSteps, .ref o_samples, .ref o_draft, .ref o_line, .ref o_above, .ref o_rest, .ref o_seen, .ref o_encoded, .int o_encodedSize, .ref o_chosen, .ref o_feed, .int o_feedSize, .ref o_colours, .int o_colourCount])), (o_firstColumns, .inl (G.2.1, o_firstColumnsN, .inl o_firstColumnsF)), (o_columnSteps, .inl (G.2.1, o_columnStepsN, .inl o_columnStepsF)), (o_firstRows, .inl (G.2.1, o_firstRowsN, .inl o_firstRowsF)), (o_rowSteps, .inl (G.2.1, o_rowStepsN, .inl o_rowStepsF)), (o_samples, .inl (G.2.1, o_samplesN, .inl o_samplesF)), (o_draft, .inl (G.2.1, o_draftN, .inl o_draftF)), (o_line, .inl (G.2.1, o_lineN, .inl o_lineF)), (o_above, .inl (G.2.1, o_aboveN, .inl o_aboveF)), (o_rest, .inl (G.2.1, o_restN, .inl o_restF)), (o_seen, .inl (G.2.2.1, o_seenN, .inl o_seenF)), (o_encoded, .inl (G.2.1, o_encodedN, .inl o_encodedF)), (o_chosen, .inl (G.2.1, o_chosenN, .inl o_chosenF)), (o_feed, .inl (G.2.1, o_feedN, .inl o_feedF)), (o_colours, .inl (G.2.1, o_coloursN, .inl o_coloursF))] sz)) (xQR (some (.int zr)) (fun q => sz ≤ q)) 0 0 (fun q => sz ≤ q) := by
  refine xMetR (by decide) (Nat.le_of_ble_eq_true rfl) ?_
  intro p e s m below meth c ls A H locs C0 hnm B hl
  have hl : lv_has ls 4 [(0, .ref o), (1, .int x1), (2, .int x2), (3, .int x3)] := hl
  have h := hF
  unfold f_X5_isSample at h
  obtain ⟨hx, hb, hr, hml, hown, hts, hlk⟩ := id C0
  refine lv_iload_n hx hb dX5_isSample_0 rfl (lv_at hl 1 rfl) ?_
  refine lv_iconst (v := 0) hx hb dX5_isSample_1 (by decide) ?_
  refine lv_aload_n hx hb dX5_isSample_2 rfl (lv_at hl 0 rfl) ?_
  refine xget (v := .int o_width) C0 B inX5 0 rfl rfl 1 (by decide) wd_407 rfl dX5_isSample_3 ?_
  refine lv_iconst (v := 1) hx hb dX5_isSample_6 (by decide) ?_
  refine lv_isub hx hb dX5_isSample_7 ?_
  obtain ⟨r_1, e_2, h⟩ := xb_spec h
  refine xcallR (wc := []) B [] rfl rfl (xrunS C0 (c_X5_in l G  x1 (0 : Int32) (o_width - (1 : Int32)) n r_1 e_2 H.size) kb_X5_in kv_X5_in wd_420 rfl rfl ⟨Nat.le_of_ble_eq_true rfl, Nat.le_of_ble_eq_true rfl⟩ rfl hl rfl (Nat.le_of_ble_eq_true rfl) dX5_isSample_8 ⟨Nat.le_of_ble_eq_true rfl, Nat.le_of_ble_eq_true rfl⟩) (fun H locs B => ?_)
  refine lv_if_eq (tgt := 46) hx hb dX5_isSample_11 (by decide) (fun c_3 => ?_) (fun c_3 => ?_)
  · have h := oif_t h c_3
    refine lv_iconst (v := 0) hx hb dX5_isSample_46 (by decide) ?_
    obtain rfl := Option.some.inj h
    exact xretzR C0 B rfl dX5_isSample_47
  · have h := oif_f h c_3
    refine lv_iload_n hx hb dX5_isSample_14 rfl (lv_at hl 2 rfl) ?_
    refine lv_iconst (v := 0) hx hb dX5_isSample_15 (by decide) ?_
    refine lv_aload_n hx hb dX5_isSample_16 rfl (lv_at hl 0 rfl) ?_
    refine xget (v := .int o_height) C0 B inX5 0 rfl rfl 2 (by decide) wd_408 rfl dX5_isSample_17 ?_
    refine lv_iconst (v := 1) hx hb dX5_isSample_20 (by decide) ?_
    refine lv_isub hx hb dX5_isSample_21 ?_
    obtain ⟨r_4, e_5, h⟩ := xb_spec h
    refine xcallR (wc := []) B [] rfl rfl (xrunS C0 (c_X5_in l G  x2 (0 : Int32) (o_height - (1 : Int32)) n r_4 e_5 H.size) kb_X5_in kv_X5_in wd_420 rfl rfl ⟨Nat.le_of_ble_eq_true rfl, Nat.le_of_ble_eq_true rfl⟩ rfl hl rfl (Nat.le_of_ble_eq_true rfl) dX5_isSample_22 ⟨Nat.le_of_ble_eq_true rfl, Nat.le_of_ble_eq_true rfl⟩) (fun H locs B => ?_)
    refine lv_if_eq (tgt := 46) hx hb dX5_isSample_25 (by decide) (fun c_6 => ?_) (fun c_6 => ?_)
    · have h := oif_t h c_6
      refine lv_iconst (v := 0) hx hb dX5_isSample_46 (by decide) ?_
      obtain rfl := Option.some.inj h
      exact xretzR C0 B rfl dX5_isSample_47
    · have h := oif_f h c_6
      refine lv_iload_n hx hb dX5_isSample_28 rfl (lv_at hl 3 rfl) ?_
      refine lv_iconst (v := 0) hx hb dX5_isSample_29 (by decide) ?_
      refine lv_aload_n hx hb dX5_isSample_30 rfl (lv_at hl 0 rfl) ?_
      refine xget (v := .int o_channels) C0 B inX5 0 rfl rfl 4 (by decide) wd_409 rfl dX5_isSample_31 ?_
      refine lv_iconst (v := 1) hx hb dX5_isSample_34 (by decide) ?_
      refine lv_isub hx hb dX5_isSample_35 ?_
      obtain ⟨r_7, e_8, h⟩ := xb_spec h
      refine xcallR (wc := []) B [] rfl rfl (xrunS C0 (c_X5_in l G  x3 (0 : Int32) (o_channels - (1 : Int32)) n r_7 e_8 H.size) kb_X5_in kv_X5_in wd_420 rfl rfl ⟨Nat.le_of_ble_eq_true rfl, Nat.le_of_ble_eq_true rfl⟩ rfl hl rfl (Nat.le_of_ble_eq_true rfl) dX5_isSample_36 ⟨Nat.le_of_ble_eq_true rfl, Nat.le_of_ble_eq_true rfl⟩) (fun H locs B => ?_)
      refine lv_if_eq (tgt := 46) hx hb dX5_isSample_39 (by decide) (fun c_9 => ?_) (fun c_9 => ?_)
      · have h := oif_t h c_9
        refine lv_iconst (v := 0) hx hb dX5_isSample_46 (by decide) ?_
        obtain rfl := Option.some.inj h
        exact xretzR C0 B rfl dX5_isSample_47
      · have h := oif_f h c_9
        refine lv_iconst (v := 1) hx hb dX5_isSample_42 (by decide) ?_
        refine lv_goto (tgt := 47) hx hb dX5_isSample_43 (by decide) ?_
        obtain rfl := Option.some.inj h
        exact xretzR C0 B rfl dX5_isSample_47
/-! FilterRowsModel.place(II)I -/
abbrev rm_X5_place : Room := { frames := 0, cells := 0, slots := 0, locals := 0 }
def f_X5_place (n : Nat)  (x0 : Int32) (x1 : Int32) : Option Int32 := some ((4 : Int32) * (((16 : Int32) * x1) + x0))
set_option maxHeartbeats 4000000 in
set_option maxRecDepth 100000 in
theorem c_X5_place (l : Launch) (G : xG)  (x0 : Int32) (x1 : Int32) (n : Nat) (zr : Int32) (hF : f_X5_place n x0 x1 = some zr) (sz : Nat) : Met l yX5_place (xws yX5_place cX5_place 2 (some .int)) rm_X5_place (va_Pc [.int x0, .int x1] (xPre G [] sz)) (xQR (some (.int zr)) (fun q => sz ≤ q)) 0 0 (fun q => sz ≤ q) := by
  refine xMetR (by decide) (Nat.le_of_ble_eq_true rfl) ?_
  intro p e s m below meth c ls A H locs C0 hnm B hl
  have hl : lv_has ls 2 [(0, .int x0), (1, .int x1)] := hl
  have h := hF
  unfold f_X5_place at h
  obtain ⟨hx, hb, hr, hml, hown, hts, hlk⟩ := id C0
  refine lv_iconst (v := 4) hx hb dX5_place_0 (by decide) ?_
  refine lv_bipush (v := 16) hx hb dX5_place_1 (by decide) ?_
  refine lv_iload_n hx hb dX5_place_3 rfl (lv_at hl 1 rfl) ?_
  refine lv_imul hx hb dX5_place_4 ?_
  refine lv_iload_n hx hb dX5_place_5 rfl (lv_at hl 0 rfl) ?_
  refine lv_iadd hx hb dX5_place_6 ?_
  refine lv_imul hx hb dX5_place_7 ?_
  obtain rfl := Option.some.inj h
  exact xretiR C0 B dX5_place_8
/-! FilterRowsModel.put(IIII)I -/
abbrev rm_X5_put : Room := { frames := 2, cells := 0, slots := 0, locals := 45 }
def f_X5_put (n : Nat) (o_width : Int32) (o_height : Int32) (o_bits : Int32) (o_channels : Int32) (o_samplesN : Nat) (o_samplesF : Nat → Int32) (x1 : Int32) (x2 : Int32) (x3 : Int32) (x4 : Int32) : Option (Int32 × Int32 × (Nat → Int32)) := xb (f_X5_isSample n o_width o_height o_channels x1 x2 x3) (fun r_1 => (if r_1 = 0 then (if (1 : Int32) ≤ 0 then xb (f_X5_place n x1 x2) (fun r_24 => xin (r_24 + x3) o_samplesN (xl (o_samplesF ((r_24 + x3)).toNatClampNeg) (fun s_27 => xb (f_X5_place n x1 x2) (fun r_28 => xin (r_28 + x3) o_samplesN (some (s_27, (1 : Int32), (upd o_samplesF ((r_28 + x3)).toNatClampNeg x4))))))) else some ((0 : Int32), (1 : Int32), o_samplesF)) else xb (f_X5_in n x4 (0 : Int32) (((1 : Int32) <<< (o_bits &&& 31)) - (1 : Int32))) (fun r_4 => (if r_4 = 0 then (if (2 : Int32) ≤ 0 then xb (f_X5_place n x1 x2) (fun r_16 => xin (r_16 + x3) o_samplesN (xl (o_samplesF ((r_16 + x3)).toNatClampNeg) (fun s_19 => xb (f_X5_place n x1 x2) (fun r_20 => xin (r_20 + x3) o_samplesN (some (s_19, (2 : Int32), (upd o_samplesF ((r_20 + x3)).toNatClampNeg x4))))))) else some ((0 : Int32), (2 : Int32), o_samplesF)) else (if (0 : Int32) ≤ 0 then xb (f_X5_place n x1 x2) (fun r_8 => xin (r_8 + x3) o_samplesN (xl (o_samplesF ((r_8 + x3)).toNatClampNeg) (fun s_11 => xb (f_X5_place n x1 x2) (fun r_12 => xin (r_12 + x3) o_samplesN (some (s_11, (0 : Int32), (upd o_samplesF ((r_12 + x3)).toNatClampNeg x4))))))) else some ((0 : Int32), (0 : Int32), o_samplesF))))))
set_option maxHeartbeats 4000000 in
set_option maxRecDepth 100000 in
theorem c_X5_put (l : Launch) (G : xG) (o : Nat) (o_thrown : Int32) (o_width : Int32) (o_height : Int32) (o_bits : Int32) (o_channels : Int32) (o_step : Int32) (o_firstColumns : Nat) (o_firstColumnsN : Nat) (o_firstColumnsF : Nat → Int32) (o_columnSteps : Nat) (o_columnStepsN : Nat) (o_columnStepsF : Nat → Int32) (o_firstRows : Nat) (o_firstRowsN : Nat) (o_firstRowsF : Nat → Int32) (o_rowSteps : Nat) (o_rowStepsN : Nat) (o_rowStepsF : Nat → Int32) (o_samples : Nat) (o_samplesN : Nat) (o_samplesF : Nat → Int32) (o_draft : Nat) (o_draftN : Nat) (o_draftF : Nat → Int32) (o_line : Nat) (o_lineN : Nat) (o_lineF : Nat → Int32) (o_above : Nat) (o_aboveN : Nat) (o_aboveF : Nat → Int32) (o_rest : Nat) (o_restN : Nat) (o_restF : Nat → Int32) (o_seen : Nat) (o_seenN : Nat) (o_seenF : Nat → Int32) (o_encoded : Nat) (o_encodedN : Nat) (o_encodedF : Nat → Int32) (o_encodedSize : Int32) (o_chosen : Nat) (o_chosenN : Nat) (o_chosenF : Nat → Int32) (o_feed : Nat) (o_feedN : Nat) (o_feedF : Nat → Int32) (o_feedSize : Int32) (o_colours : Nat) (o_coloursN : Nat) (o_coloursF : Nat → Int32) (o_colourCount : Int32) (x1 : Int32) (x2 : Int32) (x3 : Int32) (x4 : Int32) (n : Nat) (zr : Int32) (z_o_thrown : Int32) (z_o_samplesF : Nat → Int32) (hF : f_X5_put n o_width o_height o_bits o_channels o_samplesN o_samplesF x1 x2 x3 x4 = some (zr, z_o_thrown, z_o_samplesF)) (sz : Nat) : Met l yX5_put (xws yX5_put cX5_put 6 (some .int)) rm_X5_put (va_Pc [.ref o, .int x1, .int x2, .int x3, .int x4] (xPre G [(o, .inr (5, [.int o_thrown, .int o_width, .int o_height, .int o_bits, .int o_channels, .int o_step, .ref o_firstColumns, .ref o_columnSteps, .ref o_firstRows, .ref o_rowSteps, .ref o_samples, .ref o_draft, .ref o_line, .ref o_above, .ref o_rest, .ref o_seen, .ref o_encoded, .int o_encodedSize, .ref o_chosen, .ref o_feed, .int o_feedSize, .ref o_colours, .int o_colourCount])), (o_firstColumns, .inl (G.2.1, o_firstColumnsN, .inl o_firstColumnsF)), (o_columnSteps, .inl (G.2.1, o_columnStepsN, .inl o_columnStepsF)), (o_firstRows, .inl (G.2.1, o_firstRowsN, .inl o_firstRowsF)), (o_rowSteps, .inl (G.2.1, o_rowStepsN, .inl o_rowStepsF)), (o_samples, .inl (G.2.1, o_samplesN, .inl o_samplesF)), (o_draft, .inl (G.2.1, o_draftN, .inl o_draftF)), (o_line, .inl (G.2.1, o_lineN, .inl o_lineF)), (o_above, .inl (G.2.1, o_aboveN, .inl o_aboveF)), (o_rest, .inl (G.2.1, o_restN, .inl o_restF)), (o_seen, .inl (G.2.2.1, o_seenN, .inl o_seenF)), (o_encoded, .inl (G.2.1, o_encodedN, .inl o_encodedF)), (o_chosen, .inl (G.2.1, o_chosenN, .inl o_chosenF)), (o_feed, .inl (G.2.1, o_feedN, .inl o_feedF)), (o_colours, .inl (G.2.1, o_coloursN, .inl o_coloursF))] sz)) (xQ G (some (.int zr)) [(o, .inr (5, [.int z_o_thrown, .int o_width, .int o_height, .int o_bits, .int o_channels, .int o_step, .ref o_firstColumns, .ref o_columnSteps, .ref o_firstRows, .ref o_rowSteps, .ref o_samples, .ref o_draft, .ref o_line, .ref o_above, .ref o_rest, .ref o_seen, .ref o_encoded, .int o_encodedSize, .ref o_chosen, .ref o_feed, .int o_feedSize, .ref o_colours, .int o_colourCount])), (o_firstColumns, .inl (G.2.1, o_firstColumnsN, .inl o_firstColumnsF)), (o_columnSteps, .inl (G.2.1, o_columnStepsN, .inl o_columnStepsF)), (o_firstRows, .inl (G.2.1, o_firstRowsN, .inl o_firstRowsF)), (o_rowSteps, .inl (G.2.1, o_rowStepsN, .inl o_rowStepsF)), (o_samples, .inl (G.2.1, o_samplesN, .inl z_o_samplesF)), (o_draft, .inl (G.2.1, o_draftN, .inl o_draftF)), (o_line, .inl (G.2.1, o_lineN, .inl o_lineF)), (o_above, .inl (G.2.1, o_aboveN, .inl o_aboveF)), (o_rest, .inl (G.2.1, o_restN, .inl o_restF)), (o_seen, .inl (G.2.2.1, o_seenN, .inl o_seenF)), (o_encoded, .inl (G.2.1, o_encodedN, .inl o_encodedF)), (o_chosen, .inl (G.2.1, o_chosenN, .inl o_chosenF)), (o_feed, .inl (G.2.1, o_feedN, .inl o_feedF)), (o_colours, .inl (G.2.1, o_coloursN, .inl o_coloursF))] (va_A [(o, .inr (5, [.int o_thrown, .int o_width, .int o_height, .int o_bits, .int o_channels, .int o_step, .ref o_firstColumns, .ref o_columnSteps, .ref o_firstRows, .ref o_rowSteps, .ref o_samples, .ref o_draft, .ref o_line, .ref o_above, .ref o_rest, .ref o_seen, .ref o_encoded, .int o_encodedSize, .ref o_chosen, .ref o_feed, .int o_feedSize, .ref o_colours, .int o_colourCount])), (o_firstColumns, .inl (G.2.1, o_firstColumnsN, .inl o_firstColumnsF)), (o_columnSteps, .inl (G.2.1, o_columnStepsN, .inl o_columnStepsF)), (o_firstRows, .inl (G.2.1, o_firstRowsN, .inl o_firstRowsF)), (o_rowSteps, .inl (G.2.1, o_rowStepsN, .inl o_rowStepsF)), (o_samples, .inl (G.2.1, o_samplesN, .inl o_samplesF)), (o_draft, .inl (G.2.1, o_draftN, .inl o_draftF)), (o_line, .inl (G.2.1, o_lineN, .inl o_lineF)), (o_above, .inl (G.2.1, o_aboveN, .inl o_aboveF)), (o_rest, .inl (G.2.1, o_restN, .inl o_restF)), (o_seen, .inl (G.2.2.1, o_seenN, .inl o_seenF)), (o_encoded, .inl (G.2.1, o_encodedN, .inl o_encodedF)), (o_chosen, .inl (G.2.1, o_chosenN, .inl o_chosenF)), (o_feed, .inl (G.2.1, o_feedN, .inl o_feedF)), (o_colours, .inl (G.2.1, o_coloursN, .inl o_coloursF))] sz)) 0 0 (va_A [(o, .inr (5, [.int o_thrown, .int o_width, .int o_height, .int o_bits, .int o_channels, .int o_step, .ref o_firstColumns, .ref o_columnSteps, .ref o_firstRows, .ref o_rowSteps, .ref o_samples, .ref o_draft, .ref o_line, .ref o_above, .ref o_rest, .ref o_seen, .ref o_encoded, .int o_encodedSize, .ref o_chosen, .ref o_feed, .int o_feedSize, .ref o_colours, .int o_colourCount])), (o_firstColumns, .inl (G.2.1, o_firstColumnsN, .inl o_firstColumnsF)), (o_columnSteps, .inl (G.2.1, o_columnStepsN, .inl o_columnStepsF)), (o_firstRows, .inl (G.2.1, o_firstRowsN, .inl o_firstRowsF)), (o_rowSteps, .inl (G.2.1, o_rowStepsN, .inl o_rowStepsF)), (o_samples, .inl (G.2.1, o_samplesN, .inl o_samplesF)), (o_draft, .inl (G.2.1, o_draftN, .inl o_draftF)), (o_line, .inl (G.2.1, o_lineN, .inl o_lineF)), (o_above, .inl (G.2.1, o_aboveN, .inl o_aboveF)), (o_rest, .inl (G.2.1, o_restN, .inl o_restF)), (o_seen, .inl (G.2.2.1, o_seenN, .inl o_seenF)), (o_encoded, .inl (G.2.1, o_encodedN, .inl o_encodedF)), (o_chosen, .inl (G.2.1, o_chosenN, .inl o_chosenF)), (o_feed, .inl (G.2.1, o_feedN, .inl o_feedF)), (o_colours, .inl (G.2.1, o_coloursN, .inl o_coloursF))] sz) := by
  refine xMetQ (by decide) (Nat.le_of_ble_eq_true rfl) ?_
  intro p e s m below meth c ls A H locs C0 hnm B hl
  have hl : lv_has ls 6 [(0, .ref o), (1, .int x1), (2, .int x2), (3, .int x3), (4, .int x4)] := hl
  have h := hF
  unfold f_X5_put at h
  obtain ⟨hx, hb, hr, hml, hown, hts, hlk⟩ := id C0
  refine lv_aload_n hx hb dX5_put_0 rfl (lv_at hl 0 rfl) ?_
  refine lv_aload_n hx hb dX5_put_1 rfl (lv_at hl 0 rfl) ?_
  refine lv_iload_n hx hb dX5_put_2 rfl (lv_at hl 1 rfl) ?_
  refine lv_iload_n hx hb dX5_put_3 rfl (lv_at hl 2 rfl) ?_
  refine lv_iload_n hx hb dX5_put_4 rfl (lv_at hl 3 rfl) ?_
  obtain ⟨r_1, e_2, h⟩ := xb_spec h
  refine xcallR (wc := [(o, .inr (5, [.int o_thrown, .int o_width, .int o_height, .int o_bits, .int o_channels, .int o_step, .ref o_firstColumns, .ref o_columnSteps, .ref o_firstRows, .ref o_rowSteps, .ref o_samples, .ref o_draft, .ref o_line, .ref o_above, .ref o_rest, .ref o_seen, .ref o_encoded, .int o_encodedSize, .ref o_chosen, .ref o_feed, .int o_feedSize, .ref o_colours, .int o_colourCount])), (o_firstColumns, .inl (G.2.1, o_firstColumnsN, .inl o_firstColumnsF)), (o_columnSteps, .inl (G.2.1, o_columnStepsN, .inl o_columnStepsF)), (o_firstRows, .inl (G.2.1, o_firstRowsN, .inl o_firstRowsF)), (o_rowSteps, .inl (G.2.1, o_rowStepsN, .inl o_rowStepsF)), (o_samples, .inl (G.2.1, o_samplesN, .inl o_samplesF)), (o_draft, .inl (G.2.1, o_draftN, .inl o_draftF)), (o_line, .inl (G.2.1, o_lineN, .inl o_lineF)), (o_above, .inl (G.2.1, o_aboveN, .inl o_aboveF)), (o_rest, .inl (G.2.1, o_restN, .inl o_restF)), (o_seen, .inl (G.2.2.1, o_seenN, .inl o_seenF)), (o_encoded, .inl (G.2.1, o_encodedN, .inl o_encodedF)), (o_chosen, .inl (G.2.1, o_chosenN, .inl o_chosenF)), (o_feed, .inl (G.2.1, o_feedN, .inl o_feedF)), (o_colours, .inl (G.2.1, o_coloursN, .inl o_coloursF))]) B [0, 1, 2, 3, 4, 5, 6, 7, 8, 9, 10, 11, 12, 13, 14] rfl rfl (xrunV C0 (c_X5_isSample l G o o_thrown o_width o_height o_bits o_channels o_step o_firstColumns o_firstColumnsN o_firstColumnsF o_columnSteps o_columnStepsN o_columnStepsF o_firstRows o_firstRowsN o_firstRowsF o_rowSteps o_rowStepsN o_rowStepsF o_samples o_samplesN o_samplesF o_draft o_draftN o_draftF o_line o_lineN o_lineF o_above o_aboveN o_aboveF o_rest o_restN o_restF o_seen o_seenN o_seenF o_encoded o_encodedN o_encodedF o_encodedSize o_chosen o_chosenN o_chosenF o_feed o_feedN o_feedF o_feedSize o_colours o_coloursN o_coloursF o_colourCount x1 x2 x3 n r_1 e_2 H.size) kb_X5_isSample kv_X5_isSample wd_426 (ci := 5) rfl rfl rfl rfl rfl ⟨Nat.le_of_ble_eq_true rfl, Nat.le_of_ble_eq_true rfl⟩ rfl hl rfl (Nat.le_of_ble_eq_true rfl) dX5_put_5 ⟨Nat.le_of_ble_eq_true rfl, Nat.le_of_ble_eq_true rfl⟩) (fun H locs B => ?_)
  refine lv_if_ne (tgt := 15) hx hb dX5_put_8 (by decide) (fun c_3 => ?_) (fun c_3 => ?_)
  · have h := oif_f h c_3
    refine lv_iload hx hb dX5_put_15 (lv_at hl 4 rfl) ?_
    refine lv_iconst (v := 0) hx hb dX5_put_17 (by decide) ?_
    refine lv_iconst (v := 1) hx hb dX5_put_18 (by decide) ?_
    refine lv_aload_n hx hb dX5_put_19 rfl (lv_at hl 0 rfl) ?_
    refine xget (v := .int o_bits) C0 B inX5 0 rfl rfl 3 (by decide) wd_410 rfl dX5_put_20 ?_
    refine lv_ishl hx hb dX5_put_23 ?_
    refine lv_iconst (v := 1) hx hb dX5_put_24 (by decide) ?_
    refine lv_isub hx hb dX5_put_25 ?_
    obtain ⟨r_4, e_5, h⟩ := xb_spec h
    refine xcallR (wc := []) B [] rfl rfl (xrunS C0 (c_X5_in l G  x4 (0 : Int32) (((1 : Int32) <<< (o_bits &&& 31)) - (1 : Int32)) n r_4 e_5 H.size) kb_X5_in kv_X5_in wd_420 rfl rfl ⟨Nat.le_of_ble_eq_true rfl, Nat.le_of_ble_eq_true rfl⟩ rfl hl rfl (Nat.le_of_ble_eq_true rfl) dX5_put_26 ⟨Nat.le_of_ble_eq_true rfl, Nat.le_of_ble_eq_true rfl⟩) (fun H locs B => ?_)
    refine lv_if_ne (tgt := 36) hx hb dX5_put_29 (by decide) (fun c_6 => ?_) (fun c_6 => ?_)
    · have h := oif_f h c_6
      refine lv_iconst (v := 0) hx hb dX5_put_36 (by decide) ?_
      refine xput (ws' := [(o, .inr (5, [.int (0 : Int32), .int o_width, .int o_height, .int o_bits, .int o_channels, .int o_step, .ref o_firstColumns, .ref o_columnSteps, .ref o_firstRows, .ref o_rowSteps, .ref o_samples, .ref o_draft, .ref o_line, .ref o_above, .ref o_rest, .ref o_seen, .ref o_encoded, .int o_encodedSize, .ref o_chosen, .ref o_feed, .int o_feedSize, .ref o_colours, .int o_colourCount])), (o_firstColumns, .inl (G.2.1, o_firstColumnsN, .inl o_firstColumnsF)), (o_columnSteps, .inl (G.2.1, o_columnStepsN, .inl o_columnStepsF)), (o_firstRows, .inl (G.2.1, o_firstRowsN, .inl o_firstRowsF)), (o_rowSteps, .inl (G.2.1, o_rowStepsN, .inl o_rowStepsF)), (o_samples, .inl (G.2.1, o_samplesN, .inl o_samplesF)), (o_draft, .inl (G.2.1, o_draftN, .inl o_draftF)), (o_line, .inl (G.2.1, o_lineN, .inl o_lineF)), (o_above, .inl (G.2.1, o_aboveN, .inl o_aboveF)), (o_rest, .inl (G.2.1, o_restN, .inl o_restF)), (o_seen, .inl (G.2.2.1, o_seenN, .inl o_seenF)), (o_encoded, .inl (G.2.1, o_encodedN, .inl o_encodedF)), (o_chosen, .inl (G.2.1, o_chosenN, .inl o_chosenF)), (o_feed, .inl (G.2.1, o_feedN, .inl o_feedF)), (o_colours, .inl (G.2.1, o_coloursN, .inl o_coloursF))]) C0 B inX5 tyX5 tyX5_ok nmX5 0 rfl rfl 0 (by decide) wd_414 rfl rfl rfl (Nat.le_of_ble_eq_true rfl) rfl dX5_put_37 (fun H locs B => ?_)
      refine lv_aload_n hx hb dX5_put_40 rfl (lv_at hl 0 rfl) ?_
      refine xget (v := .int (0 : Int32)) C0 B inX5 0 rfl rfl 0 (by decide) wd_414 rfl dX5_put_41 ?_
      refine lv_if_le (tgt := 49) hx hb dX5_put_44 (by decide) (fun c_7 => ?_) (fun c_7 => ?_)
      · have h := oif_t h c_7
        refine lv_aload_n hx hb dX5_put_49 rfl (lv_at hl 0 rfl) ?_
        refine xget (v := .ref o_samples) C0 B inX5 0 rfl rfl 10 (by decide) wd_393 rfl dX5_put_50 ?_
        refine lv_iload_n hx hb dX5_put_53 rfl (lv_at hl 1 rfl) ?_
        refine lv_iload_n hx hb dX5_put_54 rfl (lv_at hl 2 rfl) ?_
        obtain ⟨r_8, e_9, h⟩ := xb_spec h
        refine xcallR (wc := []) B [] rfl rfl (xrunS C0 (c_X5_place l G  x1 x2 n r_8 e_9 H.size) kb_X5_place kv_X5_place wd_427 rfl rfl ⟨Nat.le_of_ble_eq_true rfl, Nat.le_of_ble_eq_true rfl⟩ rfl hl rfl (Nat.le_of_ble_eq_true rfl) dX5_put_55 ⟨Nat.le_of_ble_eq_true rfl, Nat.le_of_ble_eq_true rfl⟩) (fun H locs B => ?_)
        refine lv_iload_n hx hb dX5_put_58 rfl (lv_at hl 3 rfl) ?_
        refine lv_iadd hx hb dX5_put_59 ?_
        obtain ⟨b_10, h⟩ := xin_spec h
        refine xiald C0 B 5 rfl b_10 dX5_put_60 ?_
        refine lv_topi (fun s_11 es_11 => ?_)
        have h := xl_spec h es_11
        refine lv_istore (lv' := [(5, .int s_11), (0, .ref o), (1, .int x1), (2, .int x2), (3, .int x3), (4, .int x4)]) hx hb dX5_put_61 hl (by decide) rfl (fun ls hl => ?_)
        refine lv_aload_n hx hb dX5_put_63 rfl (lv_at hl 1 rfl) ?_
        refine xget (v := .ref o_samples) C0 B inX5 0 rfl rfl 10 (by decide) wd_393 rfl dX5_put_64 ?_
        refine lv_iload_n hx hb dX5_put_67 rfl (lv_at hl 2 rfl) ?_
        refine lv_iload_n hx hb dX5_put_68 rfl (lv_at hl 3 rfl) ?_
        obtain ⟨r_12, e_13, h⟩ := xb_spec h
        refine xcallR (wc := []) B [] rfl rfl (xrunS C0 (c_X5_place l G  x1 x2 n r_12 e_13 H.size) kb_X5_place kv_X5_place wd_427 rfl rfl ⟨Nat.le_of_ble_eq_true rfl, Nat.le_of_ble_eq_true rfl⟩ rfl hl rfl (Nat.le_of_ble_eq_true rfl) dX5_put_69 ⟨Nat.le_of_ble_eq_true rfl, Nat.le_of_ble_eq_true rfl⟩) (fun H locs B => ?_)
        refine lv_iload_n hx hb dX5_put_72 rfl (lv_at hl 4 rfl) ?_
        refine lv_iadd hx hb dX5_put_73 ?_
        refine lv_iload hx hb dX5_put_74 (lv_at hl 5 rfl) ?_
        obtain ⟨b_14, h⟩ := xin_spec h
        refine xiast (ws' := [(o, .inr (5, [.int (0 : Int32), .int o_width, .int o_height, .int o_bits, .int o_channels, .int o_step, .ref o_firstColumns, .ref o_columnSteps, .ref o_firstRows, .ref o_rowSteps, .ref o_samples, .ref o_draft, .ref o_line, .ref o_above, .ref o_rest, .ref o_seen, .ref o_encoded, .int o_encodedSize, .ref o_chosen, .ref o_feed, .int o_feedSize, .ref o_colours, .int o_colourCount])), (o_firstColumns, .inl (G.2.1, o_firstColumnsN, .inl o_firstColumnsF)), (o_columnSteps, .inl (G.2.1, o_columnStepsN, .inl o_columnStepsF)), (o_firstRows, .inl (G.2.1, o_firstRowsN, .inl o_firstRowsF)), (o_rowSteps, .inl (G.2.1, o_rowStepsN, .inl o_rowStepsF)), (o_samples, .inl (G.2.1, o_samplesN, .inl (upd o_samplesF ((r_12 + x3)).toNatClampNeg x4))), (o_draft, .inl (G.2.1, o_draftN, .inl o_draftF)), (o_line, .inl (G.2.1, o_lineN, .inl o_lineF)), (o_above, .inl (G.2.1, o_aboveN, .inl o_aboveF)), (o_rest, .inl (G.2.1, o_restN, .inl o_restF)), (o_seen, .inl (G.2.2.1, o_seenN, .inl o_seenF)), (o_encoded, .inl (G.2.1, o_encodedN, .inl o_encodedF)), (o_chosen, .inl (G.2.1, o_chosenN, .inl o_chosenF)), (o_feed, .inl (G.2.1, o_feedN, .inl o_feedF)), (o_colours, .inl (G.2.1, o_coloursN, .inl o_coloursF))]) C0 B 5 rfl b_14 rfl dX5_put_76 (fun H locs B => ?_)
        refine lv_iload hx hb dX5_put_77 (lv_at hl 0 rfl) ?_
        obtain ⟨g1, k1⟩ := Prod.mk.inj (Option.some.inj h)
        obtain ⟨g2, k2⟩ := Prod.mk.inj k1
        subst g1 g2 k2
        exact xreti C0 B [0, 1, 2, 3, 4, 5, 6, 7, 8, 9, 10, 11, 12, 13, 14] rfl rfl dX5_put_79
      · have h := oif_f h c_7
        refine lv_iconst (v := 0) hx hb dX5_put_47 (by decide) ?_
        obtain ⟨g1, k1⟩ := Prod.mk.inj (Option.some.inj h)
        obtain ⟨g2, k2⟩ := Prod.mk.inj k1
        subst g1 g2 k2
        exact xreti C0 B [0, 1, 2, 3, 4, 5, 6, 7, 8, 9, 10, 11, 12, 13, 14] rfl rfl dX5_put_48
    · have h := oif_t h c_6
      refine lv_iconst (v := 2) hx hb dX5_put_32 (by decide) ?_
      refine lv_goto (tgt := 37) hx hb dX5_put_33 (by decide) ?_
      refine xput (ws' := [(o, .inr (5, [.int (2 : Int32), .int o_width, .int o_height, .int o_bits, .int o_channels, .int o_step, .ref o_firstColumns, .ref o_columnSteps, .ref o_firstRows, .ref o_rowSteps, .ref o_samples, .ref o_draft, .ref o_line, .ref o_above, .ref o_rest, .ref o_seen, .ref o_encoded, .int o_encodedSize, .ref o_chosen, .ref o_feed, .int o_feedSize, .ref o_colours, .int o_colourCount])), (o_firstColumns, .inl (G.2.1, o_firstColumnsN, .inl o_firstColumnsF)), (o_columnSteps, .inl (G.2.1, o_columnStepsN, .inl o_columnStepsF)), (o_firstRows, .inl (G.2.1, o_firstRowsN, .inl o_firstRowsF)), (o_rowSteps, .inl (G.2.1, o_rowStepsN, .inl o_rowStepsF)), (o_samples, .inl (G.2.1, o_samplesN, .inl o_samplesF)), (o_draft, .inl (G.2.1, o_draftN, .inl o_draftF)), (o_line, .inl (G.2.1, o_lineN, .inl o_lineF)), (o_above, .inl (G.2.1, o_aboveN, .inl o_aboveF)), (o_rest, .inl (G.2.1, o_restN, .inl o_restF)), (o_seen, .inl (G.2.2.1, o_seenN, .inl o_seenF)), (o_encoded, .inl (G.2.1, o_encodedN, .inl o_encodedF)), (o_chosen, .inl (G.2.1, o_chosenN, .inl o_chosenF)), (o_feed, .inl (G.2.1, o_feedN, .inl o_feedF)), (o_colours, .inl (G.2.1, o_coloursN, .inl o_coloursF))]) C0 B inX5 tyX5 tyX5_ok nmX5 0 rfl rfl 0 (by decide) wd_414 rfl rfl rfl (Nat.le_of_ble_eq_true rfl) rfl dX5_put_37 (fun H locs B => ?_)
      refine lv_aload_n hx hb dX5_put_40 rfl (lv_at hl 0 rfl) ?_
      refine xget (v := .int (2 : Int32)) C0 B inX5 0 rfl rfl 0 (by decide) wd_414 rfl dX5_put_41 ?_
      refine lv_if_le (tgt := 49) hx hb dX5_put_44 (by decide) (fun c_15 => ?_) (fun c_15 => ?_)
      · have h := oif_t h c_15
        refine lv_aload_n hx hb dX5_put_49 rfl (lv_at hl 0 rfl) ?_
        refine xget (v := .ref o_samples) C0 B inX5 0 rfl rfl 10 (by decide) wd_393 rfl dX5_put_50 ?_
        refine lv_iload_n hx hb dX5_put_53 rfl (lv_at hl 1 rfl) ?_
        refine lv_iload_n hx hb dX5_put_54 rfl (lv_at hl 2 rfl) ?_
        obtain ⟨r_16, e_17, h⟩ := xb_spec h
        refine xcallR (wc := []) B [] rfl rfl (xrunS C0 (c_X5_place l G  x1 x2 n r_16 e_17 H.size) kb_X5_place kv_X5_place wd_427 rfl rfl ⟨Nat.le_of_ble_eq_true rfl, Nat.le_of_ble_eq_true rfl⟩ rfl hl rfl (Nat.le_of_ble_eq_true rfl) dX5_put_55 ⟨Nat.le_of_ble_eq_true rfl, Nat.le_of_ble_eq_true rfl⟩) (fun H locs B => ?_)
        refine lv_iload_n hx hb dX5_put_58 rfl (lv_at hl 3 rfl) ?_
        refine lv_iadd hx hb dX5_put_59 ?_
        obtain ⟨b_18, h⟩ := xin_spec h
        refine xiald C0 B 5 rfl b_18 dX5_put_60 ?_
        refine lv_topi (fun s_19 es_19 => ?_)
        have h := xl_spec h es_19
        refine lv_istore (lv' := [(5, .int s_19), (0, .ref o), (1, .int x1), (2, .int x2), (3, .int x3), (4, .int x4)]) hx hb dX5_put_61 hl (by decide) rfl (fun ls hl => ?_)
        refine lv_aload_n hx hb dX5_put_63 rfl (lv_at hl 1 rfl) ?_
        refine xget (v := .ref o_samples) C0 B inX5 0 rfl rfl 10 (by decide) wd_393 rfl dX5_put_64 ?_
        refine lv_iload_n hx hb dX5_put_67 rfl (lv_at hl 2 rfl) ?_
        refine lv_iload_n hx hb dX5_put_68 rfl (lv_at hl 3 rfl) ?_
        obtain ⟨r_20, e_21, h⟩ := xb_spec h
        refine xcallR (wc := []) B [] rfl rfl (xrunS C0 (c_X5_place l G  x1 x2 n r_20 e_21 H.size) kb_X5_place kv_X5_place wd_427 rfl rfl ⟨Nat.le_of_ble_eq_true rfl, Nat.le_of_ble_eq_true rfl⟩ rfl hl rfl (Nat.le_of_ble_eq_true rfl) dX5_put_69 ⟨Nat.le_of_ble_eq_true rfl, Nat.le_of_ble_eq_true rfl⟩) (fun H locs B => ?_)
        refine lv_iload_n hx hb dX5_put_72 rfl (lv_at hl 4 rfl) ?_
        refine lv_iadd hx hb dX5_put_73 ?_
        refine lv_iload hx hb dX5_put_74 (lv_at hl 5 rfl) ?_
        obtain ⟨b_22, h⟩ := xin_spec h
        refine xiast (ws' := [(o, .inr (5, [.int (2 : Int32), .int o_width, .int o_height, .int o_bits, .int o_channels, .int o_step, .ref o_firstColumns, .ref o_columnSteps, .ref o_firstRows, .ref o_rowSteps, .ref o_samples, .ref o_draft, .ref o_line, .ref o_above, .ref o_rest, .ref o_seen, .ref o_encoded, .int o_encodedSize, .ref o_chosen, .ref o_feed, .int o_feedSize, .ref o_colours, .int o_colourCount])), (o_firstColumns, .inl (G.2.1, o_firstColumnsN, .inl o_firstColumnsF)), (o_columnSteps, .inl (G.2.1, o_columnStepsN, .inl o_columnStepsF)), (o_firstRows, .inl (G.2.1, o_firstRowsN, .inl o_firstRowsF)), (o_rowSteps, .inl (G.2.1, o_rowStepsN, .inl o_rowStepsF)), (o_samples, .inl (G.2.1, o_samplesN, .inl (upd o_samplesF ((r_20 + x3)).toNatClampNeg x4))), (o_draft, .inl (G.2.1, o_draftN, .inl o_draftF)), (o_line, .inl (G.2.1, o_lineN, .inl o_lineF)), (o_above, .inl (G.2.1, o_aboveN, .inl o_aboveF)), (o_rest, .inl (G.2.1, o_restN, .inl o_restF)), (o_seen, .inl (G.2.2.1, o_seenN, .inl o_seenF)), (o_encoded, .inl (G.2.1, o_encodedN, .inl o_encodedF)), (o_chosen, .inl (G.2.1, o_chosenN, .inl o_chosenF)), (o_feed, .inl (G.2.1, o_feedN, .inl o_feedF)), (o_colours, .inl (G.2.1, o_coloursN, .inl o_coloursF))]) C0 B 5 rfl b_22 rfl dX5_put_76 (fun H locs B => ?_)
        refine lv_iload hx hb dX5_put_77 (lv_at hl 0 rfl) ?_
        obtain ⟨g1, k1⟩ := Prod.mk.inj (Option.some.inj h)
        obtain ⟨g2, k2⟩ := Prod.mk.inj k1
        subst g1 g2 k2
        exact xreti C0 B [0, 1, 2, 3, 4, 5, 6, 7, 8, 9, 10, 11, 12, 13, 14] rfl rfl dX5_put_79
      · have h := oif_f h c_15
        refine lv_iconst (v := 0) hx hb dX5_put_47 (by decide) ?_
        obtain ⟨g1, k1⟩ := Prod.mk.inj (Option.some.inj h)
        obtain ⟨g2, k2⟩ := Prod.mk.inj k1
        subst g1 g2 k2
        exact xreti C0 B [0, 1, 2, 3, 4, 5, 6, 7, 8, 9, 10, 11, 12, 13, 14] rfl rfl dX5_put_48
  · have h := oif_t h c_3
    refine lv_iconst (v := 1) hx hb dX5_put_11 (by decide) ?_
    refine lv_goto (tgt := 37) hx hb dX5_put_12 (by decide) ?_
    refine xput (ws' := [(o, .inr (5, [.int (1 : Int32), .int o_width, .int o_height, .int o_bits, .int o_channels, .int o_step, .ref o_firstColumns, .ref o_columnSteps, .ref o_firstRows, .ref o_rowSteps, .ref o_samples, .ref o_draft, .ref o_line, .ref o_above, .ref o_rest, .ref o_seen, .ref o_encoded, .int o_encodedSize, .ref o_chosen, .ref o_feed, .int o_feedSize, .ref o_colours, .int o_colourCount])), (o_firstColumns, .inl (G.2.1, o_firstColumnsN, .inl o_firstColumnsF)), (o_columnSteps, .inl (G.2.1, o_columnStepsN, .inl o_columnStepsF)), (o_firstRows, .inl (G.2.1, o_firstRowsN, .inl o_firstRowsF)), (o_rowSteps, .inl (G.2.1, o_rowStepsN, .inl o_rowStepsF)), (o_samples, .inl (G.2.1, o_samplesN, .inl o_samplesF)), (o_draft, .inl (G.2.1, o_draftN, .inl o_draftF)), (o_line, .inl (G.2.1, o_lineN, .inl o_lineF)), (o_above, .inl (G.2.1, o_aboveN, .inl o_aboveF)), (o_rest, .inl (G.2.1, o_restN, .inl o_restF)), (o_seen, .inl (G.2.2.1, o_seenN, .inl o_seenF)), (o_encoded, .inl (G.2.1, o_encodedN, .inl o_encodedF)), (o_chosen, .inl (G.2.1, o_chosenN, .inl o_chosenF)), (o_feed, .inl (G.2.1, o_feedN, .inl o_feedF)), (o_colours, .inl (G.2.1, o_coloursN, .inl o_coloursF))]) C0 B inX5 tyX5 tyX5_ok nmX5 0 rfl rfl 0 (by decide) wd_414 rfl rfl rfl (Nat.le_of_ble_eq_true rfl) rfl dX5_put_37 (fun H locs B => ?_)
    refine lv_aload_n hx hb dX5_put_40 rfl (lv_at hl 0 rfl) ?_
    refine xget (v := .int (1 : Int32)) C0 B inX5 0 rfl rfl 0 (by decide) wd_414 rfl dX5_put_41 ?_
    refine lv_if_le (tgt := 49) hx hb dX5_put_44 (by decide) (fun c_23 => ?_) (fun c_23 => ?_)
    · have h := oif_t h c_23
      refine lv_aload_n hx hb dX5_put_49 rfl (lv_at hl 0 rfl) ?_
      refine xget (v := .ref o_samples) C0 B inX5 0 rfl rfl 10 (by decide) wd_393 rfl dX5_put_50 ?_
      refine lv_iload_n hx hb dX5_put_53 rfl (lv_at hl 1 rfl) ?_
      refine lv_iload_n hx hb dX5_put_54 rfl (lv_at hl 2 rfl) ?_
      obtain ⟨r_24, e_25, h⟩ := xb_spec h
      refine xcallR (wc := []) B [] rfl rfl (xrunS C0 (c_X5_place l G  x1 x2 n r_24 e_25 H.size) kb_X5_place kv_X5_place wd_427 rfl rfl ⟨Nat.le_of_ble_eq_true rfl, Nat.le_of_ble_eq_true rfl⟩ rfl hl rfl (Nat.le_of_ble_eq_true rfl) dX5_put_55 ⟨Nat.le_of_ble_eq_true rfl, Nat.le_of_ble_eq_true rfl⟩) (fun H locs B => ?_)
      refine lv_iload_n hx hb dX5_put_58 rfl (lv_at hl 3 rfl) ?_
      refine lv_iadd hx hb dX5_put_59 ?_
      obtain ⟨b_26, h⟩ := xin_spec h
      refine xiald C0 B 5 rfl b_26 dX5_put_60 ?_
      refine lv_topi (fun s_27 es_27 => ?_)
      have h := xl_spec h es_27
      refine lv_istore (lv' := [(5, .int s_27), (0, .ref o), (1, .int x1), (2, .int x2), (3, .int x3), (4, .int x4)]) hx hb dX5_put_61 hl (by decide) rfl (fun ls hl => ?_)
      refine lv_aload_n hx hb dX5_put_63 rfl (lv_at hl 1 rfl) ?_
      refine xget (v := .ref o_samples) C0 B inX5 0 rfl rfl 10 (by decide) wd_393 rfl dX5_put_64 ?_
      refine lv_iload_n hx hb dX5_put_67 rfl (lv_at hl 2 rfl) ?_
      refine lv_iload_n hx hb dX5_put_68 rfl (lv_at hl 3 rfl) ?_
      obtain ⟨r_28, e_29, h⟩ := xb_spec h
      refine xcallR (wc := []) B [] rfl rfl (xrunS C0 (c_X5_place l G  x1 x2 n r_28 e_29 H.size) kb_X5_place kv_X5_place wd_427 rfl rfl ⟨Nat.le_of_ble_eq_true rfl, Nat.le_of_ble_eq_true rfl⟩ rfl hl rfl (Nat.le_of_ble_eq_true rfl) dX5_put_69 ⟨Nat.le_of_ble_eq_true rfl, Nat.le_of_ble_eq_true rfl⟩) (fun H locs B => ?_)
      refine lv_iload_n hx hb dX5_put_72 rfl (lv_at hl 4 rfl) ?_
      refine lv_iadd hx hb dX5_put_73 ?_
      refine lv_iload hx hb dX5_put_74 (lv_at hl 5 rfl) ?_
      obtain ⟨b_30, h⟩ := xin_spec h
      refine xiast (ws' := [(o, .inr (5, [.int (1 : Int32), .int o_width, .int o_height, .int o_bits, .int o_channels, .int o_step, .ref o_firstColumns, .ref o_columnSteps, .ref o_firstRows, .ref o_rowSteps, .ref o_samples, .ref o_draft, .ref o_line, .ref o_above, .ref o_rest, .ref o_seen, .ref o_encoded, .int o_encodedSize, .ref o_chosen, .ref o_feed, .int o_feedSize, .ref o_colours, .int o_colourCount])), (o_firstColumns, .inl (G.2.1, o_firstColumnsN, .inl o_firstColumnsF)), (o_columnSteps, .inl (G.2.1, o_columnStepsN, .inl o_columnStepsF)), (o_firstRows, .inl (G.2.1, o_firstRowsN, .inl o_firstRowsF)), (o_rowSteps, .inl (G.2.1, o_rowStepsN, .inl o_rowStepsF)), (o_samples, .inl (G.2.1, o_samplesN, .inl (upd o_samplesF ((r_28 + x3)).toNatClampNeg x4))), (o_draft, .inl (G.2.1, o_draftN, .inl o_draftF)), (o_line, .inl (G.2.1, o_lineN, .inl o_lineF)), (o_above, .inl (G.2.1, o_aboveN, .inl o_aboveF)), (o_rest, .inl (G.2.1, o_restN, .inl o_restF)), (o_seen, .inl (G.2.2.1, o_seenN, .inl o_seenF)), (o_encoded, .inl (G.2.1, o_encodedN, .inl o_encodedF)), (o_chosen, .inl (G.2.1, o_chosenN, .inl o_chosenF)), (o_feed, .inl (G.2.1, o_feedN, .inl o_feedF)), (o_colours, .inl (G.2.1, o_coloursN, .inl o_coloursF))]) C0 B 5 rfl b_30 rfl dX5_put_76 (fun H locs B => ?_)
      refine lv_iload hx hb dX5_put_77 (lv_at hl 0 rfl) ?_
      obtain ⟨g1, k1⟩ := Prod.mk.inj (Option.some.inj h)
      obtain ⟨g2, k2⟩ := Prod.mk.inj k1
      subst g1 g2 k2
      exact xreti C0 B [0, 1, 2, 3, 4, 5, 6, 7, 8, 9, 10, 11, 12, 13, 14] rfl rfl dX5_put_79
    · have h := oif_f h c_23
      refine lv_iconst (v := 0) hx hb dX5_put_47 (by decide) ?_
      obtain ⟨g1, k1⟩ := Prod.mk.inj (Option.some.inj h)
      obtain ⟨g2, k2⟩ := Prod.mk.inj k1
      subst g1 g2 k2
      exact xreti C0 B [0, 1, 2, 3, 4, 5, 6, 7, 8, 9, 10, 11, 12, 13, 14] rfl rfl dX5_put_48
/-! FilterRowsModel.paint(II)I -/
abbrev rm_X5_paint : Room := { frames := 1, cells := 0, slots := 0, locals := 21 }
def fl_X5_paint_37 : Nat → Int32 → Int32 → Nat → (Nat → Int32) → Int32 → Int32 → Int32 → Int32 → Int32 → Int32 → Int32 → Option (Int32 × Int32 × Int32 × (Nat → Int32))
  | 0, _, _, _, _, _, _, _, _, _, _, _ => none
  | n + 1, o_bits, o_channels, o_samplesN, o_samplesF, y1, y2, y3, y4, y5, y6, y7 => (if o_channels ≤ y7 then some (y3, y4, y7, o_samplesF) else xl (y4 &&& (((1 : Int32) <<< (o_bits &&& 31)) - (1 : Int32))) (fun s_2 => xb (f_X5_place n y6 y5) (fun r_3 => xin (r_3 + y7) o_samplesN ((if (o_samplesF ((r_3 + y7)).toNatClampNeg) = s_2 then xb (f_X5_place n y6 y5) (fun r_7 => xin (r_7 + y7) o_samplesN (fl_X5_paint_37 n o_bits o_channels o_samplesN (upd o_samplesF ((r_7 + y7)).toNatClampNeg s_2) y1 y2 y3 (y4 + y2) y5 y6 (y7 + (1 : Int32)))) else xb (f_X5_place n y6 y5) (fun r_10 => xin (r_10 + y7) o_samplesN (fl_X5_paint_37 n o_bits o_channels o_samplesN (upd o_samplesF ((r_10 + y7)).toNatClampNeg s_2) y1 y2 (y3 + (1 : Int32)) (y4 + y2) y5 y6 (y7 + (1 : Int32)))))))))
def fl_X5_paint_25 : Nat → Int32 → Int32 → Int32 → Nat → (Nat → Int32) → Int32 → Int32 → Int32 → Int32 → Int32 → Int32 → Option (Int32 × Int32 × Int32 × (Nat → Int32))
  | 0, _, _, _, _, _, _, _, _, _, _, _ => none
  | n + 1, o_width, o_bits, o_channels, o_samplesN, o_samplesF, y1, y2, y3, y4, y5, y6 => (if o_width ≤ y6 then some (y3, y4, y6, o_samplesF) else xb (fl_X5_paint_37 n o_bits o_channels o_samplesN o_samplesF y1 y2 y3 y4 y5 y6 (0 : Int32)) (fun (v_2, v_3, v_4, w_5) => fl_X5_paint_25 n o_width o_bits o_channels o_samplesN w_5 y1 y2 v_2 v_3 y5 (y6 + (1 : Int32))))
def fl_X5_paint_13 : Nat → Int32 → Int32 → Int32 → Int32 → Nat → (Nat → Int32) → Int32 → Int32 → Int32 → Int32 → Int32 → Option (Int32 × Int32 × Int32 × (Nat → Int32))
  | 0, _, _, _, _, _, _, _, _, _, _, _ => none
  | n + 1, o_width, o_height, o_bits, o_channels, o_samplesN, o_samplesF, y1, y2, y3, y4, y5 => (if o_height ≤ y5 then some (y3, y4, y5, o_samplesF) else xb (fl_X5_paint_25 n o_width o_bits o_channels o_samplesN o_samplesF y1 y2 y3 y4 y5 (0 : Int32)) (fun (v_2, v_3, v_4, w_5) => fl_X5_paint_13 n o_width o_height o_bits o_channels o_samplesN w_5 y1 y2 v_2 v_3 (y5 + (1 : Int32))))
def f_X5_paint (n : Nat) (o_width : Int32) (o_height : Int32) (o_bits : Int32) (o_channels : Int32) (o_samplesN : Nat) (o_samplesF : Nat → Int32) (x1 : Int32) (x2 : Int32) : Option (Int32 × Int32 × (Nat → Int32)) := xb (fl_X5_paint_13 n o_width o_height o_bits o_channels o_samplesN o_samplesF x1 x2 (0 : Int32) x1 (0 : Int32)) (fun (v_1, v_2, v_3, w_4) => some (v_1, (0 : Int32), w_4))
set_option maxHeartbeats 4000000 in
set_option maxRecDepth 100000 in
theorem lo_X5_paint_37 {p : Program} {l : Launch} {e : Env} {s : State} {m : MethodId} {args : Array Value} {below : List Frame} {meth : Method} {c : Code} {Q : State → Prop} {G : xG} {A : Nat → Prop} (C0 : xC p s m args meth c "FilterRowsModel" cX5_paint 9 (some .int)) : ∀ (n : Nat) (o : Nat) (o_thrown : Int32) (o_width : Int32) (o_height : Int32) (o_bits : Int32) (o_channels : Int32) (o_step : Int32) (o_firstColumns : Nat) (o_firstColumnsN : Nat) (o_firstColumnsF : Nat → Int32) (o_columnSteps : Nat) (o_columnStepsN : Nat) (o_columnStepsF : Nat → Int32) (o_firstRows : Nat) (o_firstRowsN : Nat) (o_firstRowsF : Nat → Int32) (o_rowSteps : Nat) (o_rowStepsN : Nat) (o_rowStepsF : Nat → Int32) (o_samples : Nat) (o_samplesN : Nat) (o_samplesF : Nat → Int32) (o_draft : Nat) (o_draftN : Nat) (o_draftF : Nat → Int32) (o_line : Nat) (o_lineN : Nat) (o_lineF : Nat → Int32) (o_above : Nat) (o_aboveN : Nat) (o_aboveF : Nat → Int32) (o_rest : Nat) (o_restN : Nat) (o_restF : Nat → Int32) (o_seen : Nat) (o_seenN : Nat) (o_seenF : Nat → Int32) (o_encoded : Nat) (o_encodedN : Nat) (o_encodedF : Nat → Int32) (o_encodedSize : Int32) (o_chosen : Nat) (o_chosenN : Nat) (o_chosenF : Nat → Int32) (o_feed : Nat) (o_feedN : Nat) (o_feedF : Nat → Int32) (o_feedSize : Int32) (o_colours : Nat) (o_coloursN : Nat) (o_coloursF : Nat → Int32) (o_colourCount : Int32) (y1 : Int32) (y2 : Int32) (y3 : Int32) (y4 : Int32) (y5 : Int32) (y6 : Int32) (y7 : Int32) (z3 : Int32) (z4 : Int32) (z7 : Int32) (z_o_samplesF : Nat → Int32), fl_X5_paint_37 n o_bits o_channels o_samplesN o_samplesF y1 y2 y3 y4 y5 y6 y7 = some (z3, z4, z7, z_o_samplesF) → ∀ (H : Heap) (locs : List Loc) (ls : Array Slot), xW G true A s [(o, .inr (5, [.int o_thrown, .int o_width, .int o_height, .int o_bits, .int o_channels, .int o_step, .ref o_firstColumns, .ref o_columnSteps, .ref o_firstRows, .ref o_rowSteps, .ref o_samples, .ref o_draft, .ref o_line, .ref o_above, .ref o_rest, .ref o_seen, .ref o_encoded, .int o_encodedSize, .ref o_chosen, .ref o_feed, .int o_feedSize, .ref o_colours, .int o_colourCount])), (o_firstColumns, .inl (G.2.1, o_firstColumnsN, .inl o_firstColumnsF)), (o_columnSteps, .inl (G.2.1, o_columnStepsN, .inl o_columnStepsF)), (o_firstRows, .inl (G.2.1, o_firstRowsN, .inl o_firstRowsF)), (o_rowSteps, .inl (G.2.1, o_rowStepsN, .inl o_rowStepsF)), (o_samples, .inl (G.2.1, o_samplesN, .inl o_samplesF)), (o_draft, .inl (G.2.1, o_draftN, .inl o_draftF)), (o_line, .inl (G.2.1, o_lineN, .inl o_lineF)), (o_above, .inl (G.2.1, o_aboveN, .inl o_aboveF)), (o_rest, .inl (G.2.1, o_restN, .inl o_restF)), (o_seen, .inl (G.2.2.1, o_seenN, .inl o_seenF)), (o_encoded, .inl (G.2.1, o_encodedN, .inl o_encodedF)), (o_chosen, .inl (G.2.1, o_chosenN, .inl o_chosenF)), (o_feed, .inl (G.2.1, o_feedN, .inl o_feedF)), (o_colours, .inl (G.2.1, o_coloursN, .inl o_coloursF))] H locs → lv_has ls 9 [(0, .ref o), (1, .int y1), (2, .int y2), (3, .int y3), (4, .int y4), (5, .int y5), (6, .int y6), (7, .int y7)] → (∀ (H : Heap) (locs : List Loc) (ls : Array Slot), xW G true A s [(o, .inr (5, [.int o_thrown, .int o_width, .int o_height, .int o_bits, .int o_channels, .int o_step, .ref o_firstColumns, .ref o_columnSteps, .ref o_firstRows, .ref o_rowSteps, .ref o_samples, .ref o_draft, .ref o_line, .ref o_above, .ref o_rest, .ref o_seen, .ref o_encoded, .int o_encodedSize, .ref o_chosen, .ref o_feed, .int o_feedSize, .ref o_colours, .int o_colourCount])), (o_firstColumns, .inl (G.2.1, o_firstColumnsN, .inl o_firstColumnsF)), (o_columnSteps, .inl (G.2.1, o_columnStepsN, .inl o_columnStepsF)), (o_firstRows, .inl (G.2.1, o_firstRowsN, .inl o_firstRowsF)), (o_rowSteps, .inl (G.2.1, o_rowStepsN, .inl o_rowStepsF)), (o_samples, .inl (G.2.1, o_samplesN, .inl z_o_samplesF)), (o_draft, .inl (G.2.1, o_draftN, .inl o_draftF)), (o_line, .inl (G.2.1, o_lineN, .inl o_lineF)), (o_above, .inl (G.2.1, o_aboveN, .inl o_aboveF)), (o_rest, .inl (G.2.1, o_restN, .inl o_restF)), (o_seen, .inl (G.2.2.1, o_seenN, .inl o_seenF)), (o_encoded, .inl (G.2.1, o_encodedN, .inl o_encodedF)), (o_chosen, .inl (G.2.1, o_chosenN, .inl o_chosenF)), (o_feed, .inl (G.2.1, o_feedN, .inl o_feedF)), (o_colours, .inl (G.2.1, o_coloursN, .inl o_coloursF))] H locs → lv_has ls 9 [(0, .ref o), (1, .int y1), (2, .int y2), (3, .int z3), (4, .int z4), (5, .int y5), (6, .int y6), (7, .int z7)] → W p l e rm_X5_paint s m args below meth c H locs 0 0 Q (F0 m 116 ls [])) → W p l e rm_X5_paint s m args below meth c H locs 0 0 Q (F0 m 37 ls []) := by
  obtain ⟨hx, hb, hr, hml, hown, hts, hlk⟩ := id C0
  intro n
  induction n with
  | zero =>
    intro o o_thrown o_width o_height o_bits o_channels o_step o_firstColumns o_firstColumnsN o_firstColumnsF o_columnSteps o_columnStepsN o_columnStepsF o_firstRows o_firstRowsN o_firstRowsF o_rowSteps o_rowStepsN o_rowStepsF o_samples o_samplesN o_samplesF o_draft o_draftN o_draftF o_line o_lineN o_lineF o_above o_aboveN o_aboveF o_rest o_restN o_restF o_seen o_seenN o_seenF o_encoded o_encodedN o_encodedF o_encodedSize o_chosen o_chosenN o_chosenF o_feed o_feedN o_feedF o_feedSize o_colours o_coloursN o_coloursF o_colourCount y1 y2 y3 y4 y5 y6 y7 z3 z4 z7 z_o_samplesF h
    rw [fl_X5_paint_37] at h
    cases h
  | succ n ih =>
    intro o o_thrown o_width o_height o_bits o_channels o_step o_firstColumns o_firstColumnsN o_firstColumnsF o_columnSteps o_columnStepsN o_columnStepsF o_firstRows o_firstRowsN o_firstRowsF o_rowSteps o_rowStepsN o_rowStepsF o_samples o_samplesN o_samplesF o_draft o_draftN o_draftF o_line o_lineN o_lineF o_above o_aboveN o_aboveF o_rest o_restN o_restF o_seen o_seenN o_seenF o_encoded o_encodedN o_encodedF o_encodedSize o_chosen o_chosenN o_chosenF o_feed o_feedN o_feedF o_feedSize o_colours o_coloursN o_coloursF o_colourCount y1 y2 y3 y4 y5 y6 y7 z3 z4 z7 z_o_samplesF h H locs ls B hl K
    rw [fl_X5_paint_37] at h
    refine lv_iload hx hb dX5_paint_37 (lv_at hl 7 rfl) ?_
    refine lv_aload_n hx hb dX5_paint_39 rfl (lv_at hl 0 rfl) ?_
    refine xget (v := .int o_channels) C0 B inX5 0 rfl rfl 4 (by decide) wd_409 rfl dX5_paint_40 ?_
    refine lv_icmp_ge (tgt := 116) hx hb dX5_paint_43 (by decide) (fun c_1 => ?_) (fun c_1 => ?_)
    · have h := oif_t h c_1
      obtain ⟨g1, k1⟩ := Prod.mk.inj (Option.some.inj h)
      obtain ⟨g2, k2⟩ := Prod.mk.inj k1
      obtain ⟨g3, k3⟩ := Prod.mk.inj k2
      subst g1 g2 g3 k3
      exact K H locs ls (B.sub [0, 1, 2, 3, 4, 5, 6, 7, 8, 9, 10, 11, 12, 13, 14] rfl rfl) (lv_sub hl [0, 1, 2, 3, 4, 5, 6, 7] rfl)
    · have h := oif_f h c_1
      refine lv_iload hx hb dX5_paint_46 (lv_at hl 4 rfl) ?_
      refine lv_iconst (v := 1) hx hb dX5_paint_48 (by decide) ?_
      refine lv_aload_n hx hb dX5_paint_49 rfl (lv_at hl 0 rfl) ?_
      refine xget (v := .int o_bits) C0 B inX5 0 rfl rfl 3 (by decide) wd_410 rfl dX5_paint_50 ?_
      refine lv_ishl hx hb dX5_paint_53 ?_
      refine lv_iconst (v := 1) hx hb dX5_paint_54 (by decide) ?_
      refine lv_isub hx hb dX5_paint_55 ?_
      refine lv_iand hx hb dX5_paint_56 ?_
      refine lv_topi (fun s_2 es_2 => ?_)
      have h := xl_spec h es_2
      refine lv_istore (lv' := [(8, .int s_2), (0, .ref o), (1, .int y1), (2, .int y2), (3, .int y3), (4, .int y4), (5, .int y5), (6, .int y6), (7, .int y7)]) hx hb dX5_paint_57 hl (by decide) rfl (fun ls hl => ?_)
      refine lv_aload_n hx hb dX5_paint_59 rfl (lv_at hl 1 rfl) ?_
      refine xget (v := .ref o_samples) C0 B inX5 0 rfl rfl 10 (by decide) wd_393 rfl dX5_paint_60 ?_
      refine lv_iload hx hb dX5_paint_63 (lv_at hl 7 rfl) ?_
      refine lv_iload hx hb dX5_paint_65 (lv_at hl 6 rfl) ?_
      obtain ⟨r_3, e_4, h⟩ := xb_spec h
      refine xcallR (wc := []) B [] rfl rfl (xrunS C0 (c_X5_place l G  y6 y5 n r_3 e_4 H.size) kb_X5_place kv_X5_place wd_427 rfl rfl ⟨Nat.le_of_ble_eq_true rfl, Nat.le_of_ble_eq_true rfl⟩ rfl hl rfl (Nat.le_of_ble_eq_true rfl) dX5_paint_67 ⟨Nat.le_of_ble_eq_true rfl, Nat.le_of_ble_eq_true rfl⟩) (fun H locs B => ?_)
      refine lv_iload hx hb dX5_paint_70 (lv_at hl 8 rfl) ?_
      refine lv_iadd hx hb dX5_paint_72 ?_
      obtain ⟨b_5, h⟩ := xin_spec h
      refine xiald C0 B 5 rfl b_5 dX5_paint_73 ?_
      refine lv_iload hx hb dX5_paint_74 (lv_at hl 0 rfl) ?_
      refine lv_icmp_eq (tgt := 85) hx hb dX5_paint_76 (by decide) (fun c_6 => ?_) (fun c_6 => ?_)
      · have h := oif_t h c_6
        refine lv_iload_n hx hb dX5_paint_85 rfl (lv_at hl 4 rfl) ?_
        refine lv_istore_n (lv' := [(3, .int y3), (8, .int s_2), (0, .ref o), (1, .int y1), (2, .int y2), (4, .int y4), (5, .int y5), (6, .int y6), (7, .int y7)]) hx hb dX5_paint_86 rfl hl (by decide) rfl (fun ls hl => ?_)
        refine lv_aload_n hx hb dX5_paint_87 rfl (lv_at hl 2 rfl) ?_
        refine xget (v := .ref o_samples) C0 B inX5 0 rfl rfl 10 (by decide) wd_393 rfl dX5_paint_88 ?_
        refine lv_iload hx hb dX5_paint_91 (lv_at hl 7 rfl) ?_
        refine lv_iload hx hb dX5_paint_93 (lv_at hl 6 rfl) ?_
        obtain ⟨r_7, e_8, h⟩ := xb_spec h
        refine xcallR (wc := []) B [] rfl rfl (xrunS C0 (c_X5_place l G  y6 y5 n r_7 e_8 H.size) kb_X5_place kv_X5_place wd_427 rfl rfl ⟨Nat.le_of_ble_eq_true rfl, Nat.le_of_ble_eq_true rfl⟩ rfl hl rfl (Nat.le_of_ble_eq_true rfl) dX5_paint_95 ⟨Nat.le_of_ble_eq_true rfl, Nat.le_of_ble_eq_true rfl⟩) (fun H locs B => ?_)
        refine lv_iload hx hb dX5_paint_98 (lv_at hl 8 rfl) ?_
        refine lv_iadd hx hb dX5_paint_100 ?_
        refine lv_iload hx hb dX5_paint_101 (lv_at hl 1 rfl) ?_
        obtain ⟨b_9, h⟩ := xin_spec h
        refine xiast (ws' := [(o, .inr (5, [.int o_thrown, .int o_width, .int o_height, .int o_bits, .int o_channels, .int o_step, .ref o_firstColumns, .ref o_columnSteps, .ref o_firstRows, .ref o_rowSteps, .ref o_samples, .ref o_draft, .ref o_line, .ref o_above, .ref o_rest, .ref o_seen, .ref o_encoded, .int o_encodedSize, .ref o_chosen, .ref o_feed, .int o_feedSize, .ref o_colours, .int o_colourCount])), (o_firstColumns, .inl (G.2.1, o_firstColumnsN, .inl o_firstColumnsF)), (o_columnSteps, .inl (G.2.1, o_columnStepsN, .inl o_columnStepsF)), (o_firstRows, .inl (G.2.1, o_firstRowsN, .inl o_firstRowsF)), (o_rowSteps, .inl (G.2.1, o_rowStepsN, .inl o_rowStepsF)), (o_samples, .inl (G.2.1, o_samplesN, .inl (upd o_samplesF ((r_7 + y7)).toNatClampNeg s_2))), (o_draft, .inl (G.2.1, o_draftN, .inl o_draftF)), (o_line, .inl (G.2.1, o_lineN, .inl o_lineF)), (o_above, .inl (G.2.1, o_aboveN, .inl o_aboveF)), (o_rest, .inl (G.2.1, o_restN, .inl o_restF)), (o_seen, .inl (G.2.2.1, o_seenN, .inl o_seenF)), (o_encoded, .inl (G.2.1, o_encodedN, .inl o_encodedF)), (o_chosen, .inl (G.2.1, o_chosenN, .inl o_chosenF)), (o_feed, .inl (G.2.1, o_feedN, .inl o_feedF)), (o_colours, .inl (G.2.1, o_coloursN, .inl o_coloursF))]) C0 B 5 rfl b_9 rfl dX5_paint_103 (fun H locs B => ?_)
        refine lv_iload hx hb dX5_paint_104 (lv_at hl 5 rfl) ?_
        refine lv_iload_n hx hb dX5_paint_106 rfl (lv_at hl 4 rfl) ?_
        refine lv_iadd hx hb dX5_paint_107 ?_
        refine lv_istore (lv' := [(4, .int (y4 + y2)), (3, .int y3), (8, .int s_2), (0, .ref o), (1, .int y1), (2, .int y2), (5, .int y5), (6, .int y6), (7, .int y7)]) hx hb dX5_paint_108 hl (by decide) rfl (fun ls hl => ?_)
        refine lv_iinc (v := (y7 + (1 : Int32))) (lv' := [(7, .int (y7 + (1 : Int32))), (4, .int (y4 + y2)), (3, .int y3), (8, .int s_2), (0, .ref o), (1, .int y1), (2, .int y2), (5, .int y5), (6, .int y6)]) hx hb dX5_paint_110 hl (k := 8) rfl rfl (by decide) rfl (fun ls hl => ?_)
        refine lv_goto (tgt := 37) hx hb dX5_paint_113 (by decide) ?_
        exact ih o o_thrown o_width o_height o_bits o_channels o_step o_firstColumns o_firstColumnsN o_firstColumnsF o_columnSteps o_columnStepsN o_columnStepsF o_firstRows o_firstRowsN o_firstRowsF o_rowSteps o_rowStepsN o_rowStepsF o_samples o_samplesN (upd o_samplesF ((r_7 + y7)).toNatClampNeg s_2) o_draft o_draftN o_draftF o_line o_lineN o_lineF o_above o_aboveN o_aboveF o_rest o_restN o_restF o_seen o_seenN o_seenF o_encoded o_encodedN o_encodedF o_encodedSize o_chosen o_chosenN o_chosenF o_feed o_feedN o_feedF o_feedSize o_colours o_coloursN o_coloursF o_colourCount y1 y2 y3 (y4 + y2) y5 y6 (y7 + (1 : Int32)) _ _ _ _ h H locs ls (B.sub [0, 1, 2, 3, 4, 5, 6, 7, 8, 9, 10, 11, 12, 13, 14] rfl rfl) (lv_sub hl [4, 5, 6, 2, 1, 7, 8, 0] rfl) K
      · have h := oif_f h c_6
        refine lv_iload_n hx hb dX5_paint_79 rfl (lv_at hl 4 rfl) ?_
        refine lv_iconst (v := 1) hx hb dX5_paint_80 (by decide) ?_
        refine lv_iadd hx hb dX5_paint_81 ?_
        refine lv_goto (tgt := 86) hx hb dX5_paint_82 (by decide) ?_
        refine lv_istore_n (lv' := [(3, .int (y3 + (1 : Int32))), (8, .int s_2), (0, .ref o), (1, .int y1), (2, .int y2), (4, .int y4), (5, .int y5), (6, .int y6), (7, .int y7)]) hx hb dX5_paint_86 rfl hl (by decide) rfl (fun ls hl => ?_)
        refine lv_aload_n hx hb dX5_paint_87 rfl (lv_at hl 2 rfl) ?_
        refine xget (v := .ref o_samples) C0 B inX5 0 rfl rfl 10 (by decide) wd_393 rfl dX5_paint_88 ?_
        refine lv_iload hx hb dX5_paint_91 (lv_at hl 7 rfl) ?_
        refine lv_iload hx hb dX5_paint_93 (lv_at hl 6 rfl) ?_
        obtain ⟨r_10, e_11, h⟩ := xb_spec h
        refine xcallR (wc := []) B [] rfl rfl (xrunS C0 (c_X5_place l G  y6 y5 n r_10 e_11 H.size) kb_X5_place kv_X5_place wd_427 rfl rfl ⟨Nat.le_of_ble_eq_true rfl, Nat.le_of_ble_eq_true rfl⟩ rfl hl rfl (Nat.le_of_ble_eq_true rfl) dX5_paint_95 ⟨Nat.le_of_ble_eq_true rfl, Nat.le_of_ble_eq_true rfl⟩) (fun H locs B => ?_)
        refine lv_iload hx hb dX5_paint_98 (lv_at hl 8 rfl) ?_
        refine lv_iadd hx hb dX5_paint_100 ?_
        refine lv_iload hx hb dX5_paint_101 (lv_at hl 1 rfl) ?_
        obtain ⟨b_12, h⟩ := xin_spec h
        refine xiast (ws' := [(o, .inr (5, [.int o_thrown, .int o_width, .int o_height, .int o_bits, .int o_channels, .int o_step, .ref o_firstColumns, .ref o_columnSteps, .ref o_firstRows, .ref o_rowSteps, .ref o_samples, .ref o_draft, .ref o_line, .ref o_above, .ref o_rest, .ref o_seen, .ref o_encoded, .int o_encodedSize, .ref o_chosen, .ref o_feed, .int o_feedSize, .ref o_colours, .int o_colourCount])), (o_firstColumns, .inl (G.2.1, o_firstColumnsN, .inl o_firstColumnsF)), (o_columnSteps, .inl (G.2.1, o_columnStepsN, .inl o_columnStepsF)), (o_firstRows, .inl (G.2.1, o_firstRowsN, .inl o_firstRowsF)), (o_rowSteps, .inl (G.2.1, o_rowStepsN, .inl o_rowStepsF)), (o_samples, .inl (G.2.1, o_samplesN, .inl (upd o_samplesF ((r_10 + y7)).toNatClampNeg s_2))), (o_draft, .inl (G.2.1, o_draftN, .inl o_draftF)), (o_line, .inl (G.2.1, o_lineN, .inl o_lineF)), (o_above, .inl (G.2.1, o_aboveN, .inl o_aboveF)), (o_rest, .inl (G.2.1, o_restN, .inl o_restF)), (o_seen, .inl (G.2.2.1, o_seenN, .inl o_seenF)), (o_encoded, .inl (G.2.1, o_encodedN, .inl o_encodedF)), (o_chosen, .inl (G.2.1, o_chosenN, .inl o_chosenF)), (o_feed, .inl (G.2.1, o_feedN, .inl o_feedF)), (o_colours, .inl (G.2.1, o_coloursN, .inl o_coloursF))]) C0 B 5 rfl b_12 rfl dX5_paint_103 (fun H locs B => ?_)
        refine lv_iload hx hb dX5_paint_104 (lv_at hl 5 rfl) ?_
        refine lv_iload_n hx hb dX5_paint_106 rfl (lv_at hl 4 rfl) ?_
        refine lv_iadd hx hb dX5_paint_107 ?_
        refine lv_istore (lv' := [(4, .int (y4 + y2)), (3, .int (y3 + (1 : Int32))), (8, .int s_2), (0, .ref o), (1, .int y1), (2, .int y2), (5, .int y5), (6, .int y6), (7, .int y7)]) hx hb dX5_paint_108 hl (by decide) rfl (fun ls hl => ?_)
        refine lv_iinc (v := (y7 + (1 : Int32))) (lv' := [(7, .int (y7 + (1 : Int32))), (4, .int (y4 + y2)), (3, .int (y3 + (1 : Int32))), (8, .int s_2), (0, .ref o), (1, .int y1), (2, .int y2), (5, .int y5), (6, .int y6)]) hx hb dX5_paint_110 hl (k := 8) rfl rfl (by decide) rfl (fun ls hl => ?_)
        refine lv_goto (tgt := 37) hx hb dX5_paint_113 (by decide) ?_
        exact ih o o_thrown o_width o_height o_bits o_channels o_step o_firstColumns o_firstColumnsN o_firstColumnsF o_columnSteps o_columnStepsN o_columnStepsF o_firstRows o_firstRowsN o_firstRowsF o_rowSteps o_rowStepsN o_rowStepsF o_samples o_samplesN (upd o_samplesF ((r_10 + y7)).toNatClampNeg s_2) o_draft o_draftN o_draftF o_line o_lineN o_lineF o_above o_aboveN o_aboveF o_rest o_restN o_restF o_seen o_seenN o_seenF o_encoded o_encodedN o_encodedF o_encodedSize o_chosen o_chosenN o_chosenF o_feed o_feedN o_feedF o_feedSize o_colours o_coloursN o_coloursF o_colourCount y1 y2 (y3 + (1 : Int32)) (y4 + y2) y5 y6 (y7 + (1 : Int32)) _ _ _ _ h H locs ls (B.sub [0, 1, 2, 3, 4, 5, 6, 7, 8, 9, 10, 11, 12, 13, 14] rfl rfl) (lv_sub hl [4, 5, 6, 2, 1, 7, 8, 0] rfl) K
set_option maxHeartbeats 4000000 in
set_option maxRecDepth 100000 in
theorem lo_X5_paint_25 {p : Program} {l : Launch} {e : Env} {s : State} {m : MethodId} {args : Array Value} {below : List Frame} {meth : Method} {c : Code} {Q : State → Prop} {G : xG} {A : Nat → Prop} (C0 : xC p s m args meth c "FilterRowsModel" cX5_paint 9 (some .int)) : ∀ (n : Nat) (o : Nat) (o_thrown : Int32) (o_width : Int32) (o_height : Int32) (o_bits : Int32) (o_channels : Int32) (o_step : Int32) (o_firstColumns : Nat) (o_firstColumnsN : Nat) (o_firstColumnsF : Nat → Int32) (o_columnSteps : Nat) (o_columnStepsN : Nat) (o_columnStepsF : Nat → Int32) (o_firstRows : Nat) (o_firstRowsN : Nat) (o_firstRowsF : Nat → Int32) (o_rowSteps : Nat) (o_rowStepsN : Nat) (o_rowStepsF : Nat → Int32) (o_samples : Nat) (o_samplesN : Nat) (o_samplesF : Nat → Int32) (o_draft : Nat) (o_draftN : Nat) (o_draftF : Nat → Int32) (o_line : Nat) (o_lineN : Nat) (o_lineF : Nat → Int32) (o_above : Nat) (o_aboveN : Nat) (o_aboveF : Nat → Int32) (o_rest : Nat) (o_restN : Nat) (o_restF : Nat → Int32) (o_seen : Nat) (o_seenN : Nat) (o_seenF : Nat → Int32) (o_encoded : Nat) (o_encodedN : Nat) (o_encodedF : Nat → Int32) (o_encodedSize : Int32) (o_chosen : Nat) (o_chosenN : Nat) (o_chosenF : Nat → Int32) (o_feed : Nat) (o_feedN : Nat) (o_feedF : Nat → Int32) (o_feedSize : Int32) (o_colours : Nat) (o_coloursN : Nat) (o_coloursF : Nat → Int32) (o_colourCount : Int32) (y1 : Int32) (y2 : Int32) (y3 : Int32) (y4 : Int32) (y5 : Int32) (y6 : Int32) (z3 : Int32) (z4 : Int32) (z6 : Int32) (z_o_samplesF : Nat → Int32), fl_X5_paint_25 n o_width o_bits o_channels o_samplesN o_samplesF y1 y2 y3 y4 y5 y6 = some (z3, z4, z6, z_o_samplesF) → ∀ (H : Heap) (locs : List Loc) (ls : Array Slot), xW G true A s [(o, .inr (5, [.int o_thrown, .int o_width, .int o_height, .int o_bits, .int o_channels, .int o_step, .ref o_firstColumns, .ref o_columnSteps, .ref o_firstRows, .ref o_rowSteps, .ref o_samples, .ref o_draft, .ref o_line, .ref o_above, .ref o_rest, .ref o_seen, .ref o_encoded, .int o_encodedSize, .ref o_chosen, .ref o_feed, .int o_feedSize, .ref o_colours, .int o_colourCount])), (o_firstColumns, .inl (G.2.1, o_firstColumnsN, .inl o_firstColumnsF)), (o_columnSteps, .inl (G.2.1, o_columnStepsN, .inl o_columnStepsF)), (o_firstRows, .inl (G.2.1, o_firstRowsN, .inl o_firstRowsF)), (o_rowSteps, .inl (G.2.1, o_rowStepsN, .inl o_rowStepsF)), (o_samples, .inl (G.2.1, o_samplesN, .inl o_samplesF)), (o_draft, .inl (G.2.1, o_draftN, .inl o_draftF)), (o_line, .inl (G.2.1, o_lineN, .inl o_lineF)), (o_above, .inl (G.2.1, o_aboveN, .inl o_aboveF)), (o_rest, .inl (G.2.1, o_restN, .inl o_restF)), (o_seen, .inl (G.2.2.1, o_seenN, .inl o_seenF)), (o_encoded, .inl (G.2.1, o_encodedN, .inl o_encodedF)), (o_chosen, .inl (G.2.1, o_chosenN, .inl o_chosenF)), (o_feed, .inl (G.2.1, o_feedN, .inl o_feedF)), (o_colours, .inl (G.2.1, o_coloursN, .inl o_coloursF))] H locs → lv_has ls 9 [(0, .ref o), (1, .int y1), (2, .int y2), (3, .int y3), (4, .int y4), (5, .int y5), (6, .int y6)] → (∀ (H : Heap) (locs : List Loc) (ls : Array Slot), xW G true A s [(o, .inr (5, [.int o_thrown, .int o_width, .int o_height, .int o_bits, .int o_channels, .int o_step, .ref o_firstColumns, .ref o_columnSteps, .ref o_firstRows, .ref o_rowSteps, .ref o_samples, .ref o_draft, .ref o_line, .ref o_above, .ref o_rest, .ref o_seen, .ref o_encoded, .int o_encodedSize, .ref o_chosen, .ref o_feed, .int o_feedSize, .ref o_colours, .int o_colourCount])), (o_firstColumns, .inl (G.2.1, o_firstColumnsN, .inl o_firstColumnsF)), (o_columnSteps, .inl (G.2.1, o_columnStepsN, .inl o_columnStepsF)), (o_firstRows, .inl (G.2.1, o_firstRowsN, .inl o_firstRowsF)), (o_rowSteps, .inl (G.2.1, o_rowStepsN, .inl o_rowStepsF)), (o_samples, .inl (G.2.1, o_samplesN, .inl z_o_samplesF)), (o_draft, .inl (G.2.1, o_draftN, .inl o_draftF)), (o_line, .inl (G.2.1, o_lineN, .inl o_lineF)), (o_above, .inl (G.2.1, o_aboveN, .inl o_aboveF)), (o_rest, .inl (G.2.1, o_restN, .inl o_restF)), (o_seen, .inl (G.2.2.1, o_seenN, .inl o_seenF)), (o_encoded, .inl (G.2.1, o_encodedN, .inl o_encodedF)), (o_chosen, .inl (G.2.1, o_chosenN, .inl o_chosenF)), (o_feed, .inl (G.2.1, o_feedN, .inl o_feedF)), (o_colours, .inl (G.2.1, o_coloursN, .inl o_coloursF))] H locs → lv_has ls 9 [(0, .ref o), (1, .int y1), (2, .int y2), (3, .int z3), (4, .int z4), (5, .int y5), (6, .int z6)] → W p l e rm_X5_paint s m args below meth c H locs 0 0 Q (F0 m 122 ls [])) → W p l e rm_X5_paint s m args below meth c H locs 0 0 Q (F0 m 25 ls []) := by
  obtain ⟨hx, hb, hr, hml, hown, hts, hlk⟩ := id C0
  intro n
  induction n with
  | zero =>
    intro o o_thrown o_width o_height o_bits o_channels o_step o_firstColumns o_firstColumnsN o_firstColumnsF o_columnSteps o_columnStepsN o_columnStepsF o_firstRows o_firstRowsN o_firstRowsF o_rowSteps o_rowStepsN o_rowStepsF o_samples o_samplesN o_samplesF o_draft o_draftN o_draftF o_line o_lineN o_lineF o_above o_aboveN o_aboveF o_rest o_restN o_restF o_seen o_seenN o_seenF o_encoded o_encodedN o_encodedF o_encodedSize o_chosen o_chosenN o_chosenF o_feed o_feedN o_feedF o_feedSize o_colours o_coloursN o_coloursF o_colourCount y1 y2 y3 y4 y5 y6 z3 z4 z6 z_o_samplesF h
    rw [fl_X5_paint_25] at h
    cases h
  | succ n ih =>
    intro o o_thrown o_width o_height o_bits o_channels o_step o_firstColumns o_firstColumnsN o_firstColumnsF o_columnSteps o_columnStepsN o_columnStepsF o_firstRows o_firstRowsN o_firstRowsF o_rowSteps o_rowStepsN o_rowStepsF o_samples o_samplesN o_samplesF o_draft o_draftN o_draftF o_line o_lineN o_lineF o_above o_aboveN o_aboveF o_rest o_restN o_restF o_seen o_seenN o_seenF o_encoded o_encodedN o_encodedF o_encodedSize o_chosen o_chosenN o_chosenF o_feed o_feedN o_feedF o_feedSize o_colours o_coloursN o_coloursF o_colourCount y1 y2 y3 y4 y5 y6 z3 z4 z6 z_o_samplesF h H locs ls B hl K
    rw [fl_X5_paint_25] at h
    refine lv_iload hx hb dX5_paint_25 (lv_at hl 6 rfl) ?_
    refine lv_aload_n hx hb dX5_paint_27 rfl (lv_at hl 0 rfl) ?_
    refine xget (v := .int o_width) C0 B inX5 0 rfl rfl 1 (by decide) wd_407 rfl dX5_paint_28 ?_
    refine lv_icmp_ge (tgt := 122) hx hb dX5_paint_31 (by decide) (fun c_1 => ?_) (fun c_1 => ?_)
    · have h := oif_t h c_1
      obtain ⟨g1, k1⟩ := Prod.mk.inj (Option.some.inj h)
      obtain ⟨g2, k2⟩ := Prod.mk.inj k1
      obtain ⟨g3, k3⟩ := Prod.mk.inj k2
      subst g1 g2 g3 k3
      exact K H locs ls (B.sub [0, 1, 2, 3, 4, 5, 6, 7, 8, 9, 10, 11, 12, 13, 14] rfl rfl) (lv_sub hl [0, 1, 2, 3, 4, 5, 6] rfl)
    · have h := oif_f h c_1
      refine lv_iconst (v := 0) hx hb dX5_paint_34 (by decide) ?_
      refine lv_istore (lv' := [(7, .int (0 : Int32)), (0, .ref o), (1, .int y1), (2, .int y2), (3, .int y3), (4, .int y4), (5, .int y5), (6, .int y6)]) hx hb dX5_paint_35 hl (by decide) rfl (fun ls hl => ?_)
      obtain ⟨⟨v_2, v_3, v_4, w_5⟩, e_6, h⟩ := xb_spec h
      refine lo_X5_paint_37 C0 n o o_thrown o_width o_height o_bits o_channels o_step o_firstColumns o_firstColumnsN o_firstColumnsF o_columnSteps o_columnStepsN o_columnStepsF o_firstRows o_firstRowsN o_firstRowsF o_rowSteps o_rowStepsN o_rowStepsF o_samples o_samplesN o_samplesF o_draft o_draftN o_draftF o_line o_lineN o_lineF o_above o_aboveN o_aboveF o_rest o_restN o_restF o_seen o_seenN o_seenF o_encoded o_encodedN o_encodedF o_encodedSize o_chosen o_chosenN o_chosenF o_feed o_feedN o_feedF o_feedSize o_colours o_coloursN o_coloursF o_colourCount y1 y2 y3 y4 y5 y6 (0 : Int32) v_2 v_3 v_4 w_5 e_6 H locs ls (B.sub [0, 1, 2, 3, 4, 5, 6, 7, 8, 9, 10, 11, 12, 13, 14] rfl rfl) (lv_sub hl [1, 2, 3, 4, 5, 6, 7, 0] rfl) (fun H locs ls B hl => ?_)
      refine lv_iinc (v := (y6 + (1 : Int32))) (lv' := [(6, .int (y6 + (1 : Int32))), (0, .ref o), (1, .int y1), (2, .int y2), (3, .int v_2), (4, .int v_3), (5, .int y5), (7, .int v_4)]) hx hb dX5_paint_116 hl (k := 6) rfl rfl (by decide) rfl (fun ls hl => ?_)
      refine lv_goto (tgt := 25) hx hb dX5_paint_119 (by decide) ?_
      exact ih o o_thrown o_width o_height o_bits o_channels o_step o_firstColumns o_firstColumnsN o_firstColumnsF o_columnSteps o_columnStepsN o_columnStepsF o_firstRows o_firstRowsN o_firstRowsF o_rowSteps o_rowStepsN o_rowStepsF o_samples o_samplesN w_5 o_draft o_draftN o_draftF o_line o_lineN o_lineF o_above o_aboveN o_aboveF o_rest o_restN o_restF o_seen o_seenN o_seenF o_encoded o_encodedN o_encodedF o_encodedSize o_chosen o_chosenN o_chosenF o_feed o_feedN o_feedF o_feedSize o_colours o_coloursN o_coloursF o_colourCount y1 y2 v_2 v_3 y5 (y6 + (1 : Int32)) _ _ _ _ h H locs ls (B.sub [0, 1, 2, 3, 4, 5, 6, 7, 8, 9, 10, 11, 12, 13, 14] rfl rfl) (lv_sub hl [1, 2, 3, 4, 5, 6, 0] rfl) K
set_option maxHeartbeats 4000000 in
set_option maxRecDepth 100000 in
theorem lo_X5_paint_13 {p : Program} {l : Launch} {e : Env} {s : State} {m : MethodId} {args : Array Value} {below : List Frame} {meth : Method} {c : Code} {Q : State → Prop} {G : xG} {A : Nat → Prop} (C0 : xC p s m args meth c "FilterRowsModel" cX5_paint 9 (some .int)) : ∀ (n : Nat) (o : Nat) (o_thrown : Int32) (o_width : Int32) (o_height : Int32) (o_bits : Int32) (o_channels : Int32) (o_step : Int32) (o_firstColumns : Nat) (o_firstColumnsN : Nat) (o_firstColumnsF : Nat → Int32) (o_columnSteps : Nat) (o_columnStepsN : Nat) (o_columnStepsF : Nat → Int32) (o_firstRows : Nat) (o_firstRowsN : Nat) (o_firstRowsF : Nat → Int32) (o_rowSteps : Nat) (o_rowStepsN : Nat) (o_rowStepsF : Nat → Int32) (o_samples : Nat) (o_samplesN : Nat) (o_samplesF : Nat → Int32) (o_draft : Nat) (o_draftN : Nat) (o_draftF : Nat → Int32) (o_line : Nat) (o_lineN : Nat) (o_lineF : Nat → Int32) (o_above : Nat) (o_aboveN : Nat) (o_aboveF : Nat → Int32) (o_rest : Nat) (o_restN : Nat) (o_restF : Nat → Int32) (o_seen : Nat) (o_seenN : Nat) (o_seenF : Nat → Int32) (o_encoded : Nat) (o_encodedN : Nat) (o_encodedF : Nat → Int32) (o_encodedSize : Int32) (o_chosen : Nat) (o_chosenN : Nat) (o_chosenF : Nat → Int32) (o_feed : Nat) (o_feedN : Nat) (o_feedF : Nat → Int32) (o_feedSize : Int32) (o_colours : Nat) (o_coloursN : Nat) (o_coloursF : Nat → Int32) (o_colourCount : Int32) (y1 : Int32) (y2 : Int32) (y3 : Int32) (y4 : Int32) (y5 : Int32) (z3 : Int32) (z4 : Int32) (z5 : Int32) (z_o_samplesF : Nat → Int32), fl_X5_paint_13 n o_width o_height o_bits o_channels o_samplesN o_samplesF y1 y2 y3 y4 y5 = some (z3, z4, z5, z_o_samplesF) → ∀ (H : Heap) (locs : List Loc) (ls : Array Slot), xW G true A s [(o, .inr (5, [.int o_thrown, .int o_width, .int o_height, .int o_bits, .int o_channels, .int o_step, .ref o_firstColumns, .ref o_columnSteps, .ref o_firstRows, .ref o_rowSteps, .ref o_samples, .ref o_draft, .ref o_line, .ref o_above, .ref o_rest, .ref o_seen, .ref o_encoded, .int o_encodedSize, .ref o_chosen, .ref o_feed, .int o_feedSize, .ref o_colours, .int o_colourCount])), (o_firstColumns, .inl (G.2.1, o_firstColumnsN, .inl o_firstColumnsF)), (o_columnSteps, .inl (G.2.1, o_columnStepsN, .inl o_columnStepsF)), (o_firstRows, .inl (G.2.1, o_firstRowsN, .inl o_firstRowsF)), (o_rowSteps, .inl (G.2.1, o_rowStepsN, .inl o_rowStepsF)), (o_samples, .inl (G.2.1, o_samplesN, .inl o_samplesF)), (o_draft, .inl (G.2.1, o_draftN, .inl o_draftF)), (o_line, .inl (G.2.1, o_lineN, .inl o_lineF)), (o_above, .inl (G.2.1, o_aboveN, .inl o_aboveF)), (o_rest, .inl (G.2.1, o_restN, .inl o_restF)), (o_seen, .inl (G.2.2.1, o_seenN, .inl o_seenF)), (o_encoded, .inl (G.2.1, o_encodedN, .inl o_encodedF)), (o_chosen, .inl (G.2.1, o_chosenN, .inl o_chosenF)), (o_feed, .inl (G.2.1, o_feedN, .inl o_feedF)), (o_colours, .inl (G.2.1, o_coloursN, .inl o_coloursF))] H locs → lv_has ls 9 [(0, .ref o), (1, .int y1), (2, .int y2), (3, .int y3), (4, .int y4), (5, .int y5)] → (∀ (H : Heap) (locs : List Loc) (ls : Array Slot), xW G true A s [(o, .inr (5, [.int o_thrown, .int o_width, .int o_height, .int o_bits, .int o_channels, .int o_step, .ref o_firstColumns, .ref o_columnSteps, .ref o_firstRows, .ref o_rowSteps, .ref o_samples, .ref o_draft, .ref o_line, .ref o_above, .ref o_rest, .ref o_seen, .ref o_encoded, .int o_encodedSize, .ref o_chosen, .ref o_feed, .int o_feedSize, .ref o_colours, .int o_colourCount])), (o_firstColumns, .inl (G.2.1, o_firstColumnsN, .inl o_firstColumnsF)), (o_columnSteps, .inl (G.2.1, o_columnStepsN, .inl o_columnStepsF)), (o_firstRows, .inl (G.2.1, o_firstRowsN, .inl o_firstRowsF)), (o_rowSteps, .inl (G.2.1, o_rowStepsN, .inl o_rowStepsF)), (o_samples, .inl (G.2.1, o_samplesN, .inl z_o_samplesF)), (o_draft, .inl (G.2.1, o_draftN, .inl o_draftF)), (o_line, .inl (G.2.1, o_lineN, .inl o_lineF)), (o_above, .inl (G.2.1, o_aboveN, .inl o_aboveF)), (o_rest, .inl (G.2.1, o_restN, .inl o_restF)), (o_seen, .inl (G.2.2.1, o_seenN, .inl o_seenF)), (o_encoded, .inl (G.2.1, o_encodedN, .inl o_encodedF)), (o_chosen, .inl (G.2.1, o_chosenN, .inl o_chosenF)), (o_feed, .inl (G.2.1, o_feedN, .inl o_feedF)), (o_colours, .inl (G.2.1, o_coloursN, .inl o_coloursF))] H locs → lv_has ls 9 [(0, .ref o), (1, .int y1), (2, .int y2), (3, .int z3), (4, .int z4), (5, .int z5)] → W p l e rm_X5_paint s m args below meth c H locs 0 0 Q (F0 m 128 ls [])) → W p l e rm_X5_paint s m args below meth c H locs 0 0 Q (F0 m 13 ls []) := by
  obtain ⟨hx, hb, hr, hml, hown, hts, hlk⟩ := id C0
  intro n
  induction n with
  | zero =>
    intro o o_thrown o_width o_height o_bits o_channels o_step o_firstColumns o_firstColumnsN o_firstColumnsF o_columnSteps o_columnStepsN o_columnStepsF o_firstRows o_firstRowsN o_firstRowsF o_rowSteps o_rowStepsN o_rowStepsF o_samples o_samplesN o_samplesF o_draft o_draftN o_draftF o_line o_lineN o_lineF o_above o_aboveN o_aboveF o_rest o_restN o_restF o_seen o_seenN o_seenF o_encoded o_encodedN o_encodedF o_encodedSize o_chosen o_chosenN o_chosenF o_feed o_feedN o_feedF o_feedSize o_colours o_coloursN o_coloursF o_colourCount y1 y2 y3 y4 y5 z3 z4 z5 z_o_samplesF h
    rw [fl_X5_paint_13] at h
    cases h
  | succ n ih =>
    intro o o_thrown o_width o_height o_bits o_channels o_step o_firstColumns o_firstColumnsN o_firstColumnsF o_columnSteps o_columnStepsN o_columnStepsF o_firstRows o_firstRowsN o_firstRowsF o_rowSteps o_rowStepsN o_rowStepsF o_samples o_samplesN o_samplesF o_draft o_draftN o_draftF o_line o_lineN o_lineF o_above o_aboveN o_aboveF o_rest o_restN o_restF o_seen o_seenN o_seenF o_encoded o_encodedN o_encodedF o_encodedSize o_chosen o_chosenN o_chosenF o_feed o_feedN o_feedF o_feedSize o_colours o_coloursN o_coloursF o_colourCount y1 y2 y3 y4 y5 z3 z4 z5 z_o_samplesF h H locs ls B hl K
    rw [fl_X5_paint_13] at h
    refine lv_iload hx hb dX5_paint_13 (lv_at hl 5 rfl) ?_
    refine lv_aload_n hx hb dX5_paint_15 rfl (lv_at hl 0 rfl) ?_
    refine xget (v := .int o_height) C0 B inX5 0 rfl rfl 2 (by decide) wd_408 rfl dX5_paint_16 ?_
    refine lv_icmp_ge (tgt := 128) hx hb dX5_paint_19 (by decide) (fun c_1 => ?_) (fun c_1 => ?_)
    · have h := oif_t h c_1
      obtain ⟨g1, k1⟩ := Prod.mk.inj (Option.some.inj h)
      obtain ⟨g2, k2⟩ := Prod.mk.inj k1
      obtain ⟨g3, k3⟩ := Prod.mk.inj k2
      subst g1 g2 g3 k3
      exact K H locs ls (B.sub [0, 1, 2, 3, 4, 5, 6, 7, 8, 9, 10, 11, 12, 13, 14] rfl rfl) (lv_sub hl [0, 1, 2, 3, 4, 5] rfl)
    · have h := oif_f h c_1
      refine lv_iconst (v := 0) hx hb dX5_paint_22 (by decide) ?_
      refine lv_istore (lv' := [(6, .int (0 : Int32)), (0, .ref o), (1, .int y1), (2, .int y2), (3, .int y3), (4, .int y4), (5, .int y5)]) hx hb dX5_paint_23 hl (by decide) rfl (fun ls hl => ?_)
      obtain ⟨⟨v_2, v_3, v_4, w_5⟩, e_6, h⟩ := xb_spec h
      refine lo_X5_paint_25 C0 n o o_thrown o_width o_height o_bits o_channels o_step o_firstColumns o_firstColumnsN o_firstColumnsF o_columnSteps o_columnStepsN o_columnStepsF o_firstRows o_firstRowsN o_firstRowsF o_rowSteps o_rowStepsN o_rowStepsF o_samples o_samplesN o_samplesF o_draft o_draftN o_draftF o_line o_lineN o_lineF o_above o_aboveN o_aboveF o_rest o_restN o_restF o_seen o_seenN o_seenF o_encoded o_encodedN o_encodedF o_encodedSize o_chosen o_chosenN o_chosenF o_feed o_feedN o_feedF o_feedSize o_colours o_coloursN o_coloursF o_colourCount y1 y2 y3 y4 y5 (0 : Int32) v_2 v_3 v_4 w_5 e_6 H locs ls (B.sub [0, 1, 2, 3, 4, 5, 6, 7, 8, 9, 10, 11, 12, 13, 14] rfl rfl) (lv_sub hl [1, 2, 3, 4, 5, 6, 0] rfl) (fun H locs ls B hl => ?_)
      refine lv_iinc (v := (y5 + (1 : Int32))) (lv' := [(5, .int (y5 + (1 : Int32))), (0, .ref o), (1, .int y1), (2, .int y2), (3, .int v_2), (4, .int v_3), (6, .int v_4)]) hx hb dX5_paint_122 hl (k := 5) rfl rfl (by decide) rfl (fun ls hl => ?_)
      refine lv_goto (tgt := 13) hx hb dX5_paint_125 (by decide) ?_
      exact ih o o_thrown o_width o_height o_bits o_channels o_step o_firstColumns o_firstColumnsN o_firstColumnsF o_columnSteps o_columnStepsN o_columnStepsF o_firstRows o_firstRowsN o_firstRowsF o_rowSteps o_rowStepsN o_rowStepsF o_samples o_samplesN w_5 o_draft o_draftN o_draftF o_line o_lineN o_lineF o_above o_aboveN o_aboveF o_rest o_restN o_restF o_seen o_seenN o_seenF o_encoded o_encodedN o_encodedF o_encodedSize o_chosen o_chosenN o_chosenF o_feed o_feedN o_feedF o_feedSize o_colours o_coloursN o_coloursF o_colourCount y1 y2 v_2 v_3 (y5 + (1 : Int32)) _ _ _ _ h H locs ls (B.sub [0, 1, 2, 3, 4, 5, 6, 7, 8, 9, 10, 11, 12, 13, 14] rfl rfl) (lv_sub hl [1, 2, 3, 4, 5, 0] rfl) K
set_option maxHeartbeats 4000000 in
set_option maxRecDepth 100000 in
theorem c_X5_paint (l : Launch) (G : xG) (o : Nat) (o_thrown : Int32) (o_width : Int32) (o_height : Int32) (o_bits : Int32) (o_channels : Int32) (o_step : Int32) (o_firstColumns : Nat) (o_firstColumnsN : Nat) (o_firstColumnsF : Nat → Int32) (o_columnSteps : Nat) (o_columnStepsN : Nat) (o_columnStepsF : Nat → Int32) (o_firstRows : Nat) (o_firstRowsN : Nat) (o_firstRowsF : Nat → Int32) (o_rowSteps : Nat) (o_rowStepsN : Nat) (o_rowStepsF : Nat → Int32) (o_samples : Nat) (o_samplesN : Nat) (o_samplesF : Nat → Int32) (o_draft : Nat) (o_draftN : Nat) (o_draftF : Nat → Int32) (o_line : Nat) (o_lineN : Nat) (o_lineF : Nat → Int32) (o_above : Nat) (o_aboveN : Nat) (o_aboveF : Nat → Int32) (o_rest : Nat) (o_restN : Nat) (o_restF : Nat → Int32) (o_seen : Nat) (o_seenN : Nat) (o_seenF : Nat → Int32) (o_encoded : Nat) (o_encodedN : Nat) (o_encodedF : Nat → Int32) (o_encodedSize : Int32) (o_chosen : Nat) (o_chosenN : Nat) (o_chosenF : Nat → Int32) (o_feed : Nat) (o_feedN : Nat) (o_feedF : Nat → Int32) (o_feedSize : Int32) (o_colours : Nat) (o_coloursN : Nat) (o_coloursF : Nat → Int32) (o_colourCount : Int32) (x1 : Int32) (x2 : Int32) (n : Nat) (zr : Int32) (z_o_thrown : Int32) (z_o_samplesF : Nat → Int32) (hF : f_X5_paint n o_width o_height o_bits o_channels o_samplesN o_samplesF x1 x2 = some (zr, z_o_thrown, z_o_samplesF)) (sz : Nat) : Met l yX5_paint (xws yX5_paint cX5_paint 9 (some .int)) rm_X5_paint (va_Pc [.ref o, .int x1, .int x2] (xPre G [(o, .inr (5, [.int o_thrown, .int o_width, .int o_height, .int o_bits, .int o_channels, .int o_step, .ref o_firstColumns, .ref o_columnSteps, .ref o_firstRows, .ref o_rowSteps, .ref o_samples, .ref o_draft, .ref o_line, .ref o_above, .ref o_rest, .ref o_seen, .ref o_encoded, .int o_encodedSize, .ref o_chosen, .ref o_feed, .int o_feedSize, .ref o_colours, .int o_colourCount])), (o_firstColumns, .inl (G.2.1, o_firstColumnsN, .inl o_firstColumnsF)), (o_columnSteps, .inl (G.2.1, o_columnStepsN, .inl o_columnStepsF)), (o_firstRows, .inl (G.2.1, o_firstRowsN, .inl o_firstRowsF)), (o_rowSteps, .inl (G.2.1, o_rowStepsN, .inl o_rowStepsF)), (o_samples, .inl (G.2.1, o_samplesN, .inl o_samplesF)), (o_draft, .inl (G.2.1, o_draftN, .inl o_draftF)), (o_line, .inl (G.2.1, o_lineN, .inl o_lineF)), (o_above, .inl (G.2.1, o_aboveN, .inl o_aboveF)), (o_rest, .inl (G.2.1, o_restN, .inl o_restF)), (o_seen, .inl (G.2.2.1, o_seenN, .inl o_seenF)), (o_encoded, .inl (G.2.1, o_encodedN, .inl o_encodedF)), (o_chosen, .inl (G.2.1, o_chosenN, .inl o_chosenF)), (o_feed, .inl (G.2.1, o_feedN, .inl o_feedF)), (o_colours, .inl (G.2.1, o_coloursN, .inl o_coloursF))] sz)) (xQ G (some (.int zr)) [(o, .inr (5, [.int z_o_thrown, .int o_width, .int o_height, .int o_bits, .int o_channels, .int o_step, .ref o_firstColumns, .ref o_columnSteps, .ref o_firstRows, .ref o_rowSteps, .ref o_samples, .ref o_draft, .ref o_line, .ref o_above, .ref o_rest, .ref o_seen, .ref o_encoded, .int o_encodedSize, .ref o_chosen, .ref o_feed, .int o_feedSize, .ref o_colours, .int o_colourCount])), (o_firstColumns, .inl (G.2.1, o_firstColumnsN, .inl o_firstColumnsF)), (o_columnSteps, .inl (G.2.1, o_columnStepsN, .inl o_columnStepsF)), (o_firstRows, .inl (G.2.1, o_firstRowsN, .inl o_firstRowsF)), (o_rowSteps, .inl (G.2.1, o_rowStepsN, .inl o_rowStepsF)), (o_samples, .inl (G.2.1, o_samplesN, .inl z_o_samplesF)), (o_draft, .inl (G.2.1, o_draftN, .inl o_draftF)), (o_line, .inl (G.2.1, o_lineN, .inl o_lineF)), (o_above, .inl (G.2.1, o_aboveN, .inl o_aboveF)), (o_rest, .inl (G.2.1, o_restN, .inl o_restF)), (o_seen, .inl (G.2.2.1, o_seenN, .inl o_seenF)), (o_encoded, .inl (G.2.1, o_encodedN, .inl o_encodedF)), (o_chosen, .inl (G.2.1, o_chosenN, .inl o_chosenF)), (o_feed, .inl (G.2.1, o_feedN, .inl o_feedF)), (o_colours, .inl (G.2.1, o_coloursN, .inl o_coloursF))] (va_A [(o, .inr (5, [.int o_thrown, .int o_width, .int o_height, .int o_bits, .int o_channels, .int o_step, .ref o_firstColumns, .ref o_columnSteps, .ref o_firstRows, .ref o_rowSteps, .ref o_samples, .ref o_draft, .ref o_line, .ref o_above, .ref o_rest, .ref o_seen, .ref o_encoded, .int o_encodedSize, .ref o_chosen, .ref o_feed, .int o_feedSize, .ref o_colours, .int o_colourCount])), (o_firstColumns, .inl (G.2.1, o_firstColumnsN, .inl o_firstColumnsF)), (o_columnSteps, .inl (G.2.1, o_columnStepsN, .inl o_columnStepsF)), (o_firstRows, .inl (G.2.1, o_firstRowsN, .inl o_firstRowsF)), (o_rowSteps, .inl (G.2.1, o_rowStepsN, .inl o_rowStepsF)), (o_samples, .inl (G.2.1, o_samplesN, .inl o_samplesF)), (o_draft, .inl (G.2.1, o_draftN, .inl o_draftF)), (o_line, .inl (G.2.1, o_lineN, .inl o_lineF)), (o_above, .inl (G.2.1, o_aboveN, .inl o_aboveF)), (o_rest, .inl (G.2.1, o_restN, .inl o_restF)), (o_seen, .inl (G.2.2.1, o_seenN, .inl o_seenF)), (o_encoded, .inl (G.2.1, o_encodedN, .inl o_encodedF)), (o_chosen, .inl (G.2.1, o_chosenN, .inl o_chosenF)), (o_feed, .inl (G.2.1, o_feedN, .inl o_feedF)), (o_colours, .inl (G.2.1, o_coloursN, .inl o_coloursF))] sz)) 0 0 (va_A [(o, .inr (5, [.int o_thrown, .int o_width, .int o_height, .int o_bits, .int o_channels, .int o_step, .ref o_firstColumns, .ref o_columnSteps, .ref o_firstRows, .ref o_rowSteps, .ref o_samples, .ref o_draft, .ref o_line, .ref o_above, .ref o_rest, .ref o_seen, .ref o_encoded, .int o_encodedSize, .ref o_chosen, .ref o_feed, .int o_feedSize, .ref o_colours, .int o_colourCount])), (o_firstColumns, .inl (G.2.1, o_firstColumnsN, .inl o_firstColumnsF)), (o_columnSteps, .inl (G.2.1, o_columnStepsN, .inl o_columnStepsF)), (o_firstRows, .inl (G.2.1, o_firstRowsN, .inl o_firstRowsF)), (o_rowSteps, .inl (G.2.1, o_rowStepsN, .inl o_rowStepsF)), (o_samples, .inl (G.2.1, o_samplesN, .inl o_samplesF)), (o_draft, .inl (G.2.1, o_draftN, .inl o_draftF)), (o_line, .inl (G.2.1, o_lineN, .inl o_lineF)), (o_above, .inl (G.2.1, o_aboveN, .inl o_aboveF)), (o_rest, .inl (G.2.1, o_restN, .inl o_restF)), (o_seen, .inl (G.2.2.1, o_seenN, .inl o_seenF)), (o_encoded, .inl (G.2.1, o_encodedN, .inl o_encodedF)), (o_chosen, .inl (G.2.1, o_chosenN, .inl o_chosenF)), (o_feed, .inl (G.2.1, o_feedN, .inl o_feedF)), (o_colours, .inl (G.2.1, o_coloursN, .inl o_coloursF))] sz) := by
  refine xMetQ (by decide) (Nat.le_of_ble_eq_true rfl) ?_
  intro p e s m below meth c ls A H locs C0 hnm B hl
  have hl : lv_has ls 9 [(0, .ref o), (1, .int x1), (2, .int x2)] := hl
  have h := hF
  unfold f_X5_paint at h
  obtain ⟨hx, hb, hr, hml, hown, hts, hlk⟩ := id C0
  refine lv_aload_n hx hb dX5_paint_0 rfl (lv_at hl 0 rfl) ?_
  refine lv_iconst (v := 0) hx hb dX5_paint_1 (by decide) ?_
  refine xput (ws' := [(o, .inr (5, [.int (0 : Int32), .int o_width, .int o_height, .int o_bits, .int o_channels, .int o_step, .ref o_firstColumns, .ref o_columnSteps, .ref o_firstRows, .ref o_rowSteps, .ref o_samples, .ref o_draft, .ref o_line, .ref o_above, .ref o_rest, .ref o_seen, .ref o_encoded, .int o_encodedSize, .ref o_chosen, .ref o_feed, .int o_feedSize, .ref o_colours, .int o_colourCount])), (o_firstColumns, .inl (G.2.1, o_firstColumnsN, .inl o_firstColumnsF)), (o_columnSteps, .inl (G.2.1, o_columnStepsN, .inl o_columnStepsF)), (o_firstRows, .inl (G.2.1, o_firstRowsN, .inl o_firstRowsF)), (o_rowSteps, .inl (G.2.1, o_rowStepsN, .inl o_rowStepsF)), (o_samples, .inl (G.2.1, o_samplesN, .inl o_samplesF)), (o_draft, .inl (G.2.1, o_draftN, .inl o_draftF)), (o_line, .inl (G.2.1, o_lineN, .inl o_lineF)), (o_above, .inl (G.2.1, o_aboveN, .inl o_aboveF)), (o_rest, .inl (G.2.1, o_restN, .inl o_restF)), (o_seen, .inl (G.2.2.1, o_seenN, .inl o_seenF)), (o_encoded, .inl (G.2.1, o_encodedN, .inl o_encodedF)), (o_chosen, .inl (G.2.1, o_chosenN, .inl o_chosenF)), (o_feed, .inl (G.2.1, o_feedN, .inl o_feedF)), (o_colours, .inl (G.2.1, o_coloursN, .inl o_coloursF))]) C0 B inX5 tyX5 tyX5_ok nmX5 0 rfl rfl 0 (by decide) wd_414 rfl rfl rfl (Nat.le_of_ble_eq_true rfl) rfl dX5_paint_2 (fun H locs B => ?_)
  refine lv_iconst (v := 0) hx hb dX5_paint_5 (by decide) ?_
  refine lv_istore_n (lv' := [(3, .int (0 : Int32)), (0, .ref o), (1, .int x1), (2, .int x2)]) hx hb dX5_paint_6 rfl hl (by decide) rfl (fun ls hl => ?_)
  refine lv_iload_n hx hb dX5_paint_7 rfl (lv_at hl 2 rfl) ?_
  refine lv_istore (lv' := [(4, .int x1), (3, .int (0 : Int32)), (0, .ref o), (1, .int x1), (2, .int x2)]) hx hb dX5_paint_8 hl (by decide) rfl (fun ls hl => ?_)
  refine lv_iconst (v := 0) hx hb dX5_paint_10 (by decide) ?_
  refine lv_istore (lv' := [(5, .int (0 : Int32)), (4, .int x1), (3, .int (0 : Int32)), (0, .ref o), (1, .int x1), (2, .int x2)]) hx hb dX5_paint_11 hl (by decide) rfl (fun ls hl => ?_)
  obtain ⟨⟨v_1, v_2, v_3, w_4⟩, e_5, h⟩ := xb_spec h
  refine lo_X5_paint_13 C0 n o (0 : Int32) o_width o_height o_bits o_channels o_step o_firstColumns o_firstColumnsN o_firstColumnsF o_columnSteps o_columnStepsN o_columnStepsF o_firstRows o_firstRowsN o_firstRowsF o_rowSteps o_rowStepsN o_rowStepsF o_samples o_samplesN o_samplesF o_draft o_draftN o_draftF o_line o_lineN o_lineF o_above o_aboveN o_aboveF o_rest o_restN o_restF o_seen o_seenN o_seenF o_encoded o_encodedN o_encodedF o_encodedSize o_chosen o_chosenN o_chosenF o_feed o_feedN o_feedF o_feedSize o_colours o_coloursN o_coloursF o_colourCount x1 x2 (0 : Int32) x1 (0 : Int32) v_1 v_2 v_3 w_4 e_5 H locs ls (B.sub [0, 1, 2, 3, 4, 5, 6, 7, 8, 9, 10, 11, 12, 13, 14] rfl rfl) (lv_sub hl [3, 4, 5, 2, 1, 0] rfl) (fun H locs ls B hl => ?_)
  refine lv_iload_n hx hb dX5_paint_128 rfl (lv_at hl 3 rfl) ?_
  obtain ⟨g1, k1⟩ := Prod.mk.inj (Option.some.inj h)
  obtain ⟨g2, k2⟩ := Prod.mk.inj k1
  subst g1 g2 k2
  exact xreti C0 B [0, 1, 2, 3, 4, 5, 6, 7, 8, 9, 10, 11, 12, 13, 14] rfl rfl dX5_paint_129
/-! FilterRowsModel.at(III)I -/
abbrev rm_X5_at : Room := { frames := 2, cells := 0, slots := 0, locals := 45 }
def f_X5_at (n : Nat) (o_width : Int32) (o_height : Int32) (o_channels : Int32) (o_samplesN : Nat) (o_samplesF : Nat → Int32) (x1 : Int32) (x2 : Int32) (x3 : Int32) : Option (Int32 × Int32) := xb (f_X5_isSample n o_width o_height o_channels x1 x2 x3) (fun r_1 => (if r_1 = 0 then (if (1 : Int32) ≤ 0 then xb (f_X5_place n x1 x2) (fun r_5 => xin (r_5 + x3) o_samplesN (some ((o_samplesF ((r_5 + x3)).toNatClampNeg), (1 : Int32)))) else some ((0 : Int32), (1 : Int32))) else (if (0 : Int32) ≤ 0 then xb (f_X5_place n x1 x2) (fun r_9 => xin (r_9 + x3) o_samplesN (some ((o_samplesF ((r_9 + x3)).toNatClampNeg), (0 : Int32)))) else some ((0 : Int32), (0 : Int32)))))
set_option maxHeartbeats 4000000 in
set_option maxRecDepth 100000 in
theorem c_X5_at (l : Launch) (G : xG) (o : Nat) (o_thrown : Int32) (o_width : Int32) (o_height : Int32) (o_bits : Int32) (o_channels : Int32) (o_step : Int32) (o_firstColumns : Nat) (o_firstColumnsN : Nat) (o_firstColumnsF : Nat → Int32) (o_columnSteps : Nat) (o_columnStepsN : Nat) (o_columnStepsF : Nat → Int32) (o_firstRows : Nat) (o_firstRowsN : Nat) (o_firstRowsF : Nat → Int32) (o_rowSteps : Nat) (o_rowStepsN : Nat) (o_rowStepsF : Nat → Int32) (o_samples : Nat) (o_samplesN : Nat) (o_samplesF : Nat → Int32) (o_draft : Nat) (o_draftN : Nat) (o_draftF : Nat → Int32) (o_line : Nat) (o_lineN : Nat) (o_lineF : Nat → Int32) (o_above : Nat) (o_aboveN : Nat) (o_aboveF : Nat → Int32) (o_rest : Nat) (o_restN : Nat) (o_restF : Nat → Int32) (o_seen : Nat) (o_seenN : Nat) (o_seenF : Nat → Int32) (o_encoded : Nat) (o_encodedN : Nat) (o_encodedF : Nat → Int32) (o_encodedSize : Int32) (o_chosen : Nat) (o_chosenN : Nat) (o_chosenF : Nat → Int32) (o_feed : Nat) (o_feedN : Nat) (o_feedF : Nat → Int32) (o_feedSize : Int32) (o_colours : Nat) (o_coloursN : Nat) (o_coloursF : Nat → Int32) (o_colourCount : Int32) (x1 : Int32) (x2 : Int32) (x3 : Int32) (n : Nat) (zr : Int32) (z_o_thrown : Int32) (hF : f_X5_at n o_width o_height o_channels o_samplesN o_samplesF x1 x2 x3 = some (zr, z_o_thrown)) (sz : Nat) : Met l yX5_at (xws yX5_at cX5_at 4 (some .int)) rm_X5_at (va_Pc [.ref o, .int x1, .int x2, .int x3] (xPre G [(o, .inr (5, [.int o_thrown, .int o_width, .int o_height, .int o_bits, .int o_channels, .int o_step, .ref o_firstColumns, .ref o_columnSteps, .ref o_firstRows, .ref o_rowSteps, .ref o_samples, .ref o_draft, .ref o_line, .ref o_above, .ref o_rest, .ref o_seen, .ref o_encoded, .int o_encodedSize, .ref o_chosen, .ref o_feed, .int o_feedSize, .ref o_colours, .int o_colourCount])), (o_firstColumns, .inl (G.2.1, o_firstColumnsN, .inl o_firstColumnsF)), (o_columnSteps, .inl (G.2.1, o_columnStepsN, .inl o_columnStepsF)), (o_firstRows, .inl (G.2.1, o_firstRowsN, .inl o_firstRowsF)), (o_rowSteps, .inl (G.2.1, o_rowStepsN, .inl o_rowStepsF)), (o_samples, .inl (G.2.1, o_samplesN, .inl o_samplesF)), (o_draft, .inl (G.2.1, o_draftN, .inl o_draftF)), (o_line, .inl (G.2.1, o_lineN, .inl o_lineF)), (o_above, .inl (G.2.1, o_aboveN, .inl o_aboveF)), (o_rest, .inl (G.2.1, o_restN, .inl o_restF)), (o_seen, .inl (G.2.2.1, o_seenN, .inl o_seenF)), (o_encoded, .inl (G.2.1, o_encodedN, .inl o_encodedF)), (o_chosen, .inl (G.2.1, o_chosenN, .inl o_chosenF)), (o_feed, .inl (G.2.1, o_feedN, .inl o_feedF)), (o_colours, .inl (G.2.1, o_coloursN, .inl o_coloursF))] sz)) (xQ G (some (.int zr)) [(o, .inr (5, [.int z_o_thrown, .int o_width, .int o_height, .int o_bits, .int o_channels, .int o_step, .ref o_firstColumns, .ref o_columnSteps, .ref o_firstRows, .ref o_rowSteps, .ref o_samples, .ref o_draft, .ref o_line, .ref o_above, .ref o_rest, .ref o_seen, .ref o_encoded, .int o_encodedSize, .ref o_chosen, .ref o_feed, .int o_feedSize, .ref o_colours, .int o_colourCount])), (o_firstColumns, .inl (G.2.1, o_firstColumnsN, .inl o_firstColumnsF)), (o_columnSteps, .inl (G.2.1, o_columnStepsN, .inl o_columnStepsF)), (o_firstRows, .inl (G.2.1, o_firstRowsN, .inl o_firstRowsF)), (o_rowSteps, .inl (G.2.1, o_rowStepsN, .inl o_rowStepsF)), (o_samples, .inl (G.2.1, o_samplesN, .inl o_samplesF)), (o_draft, .inl (G.2.1, o_draftN, .inl o_draftF)), (o_line, .inl (G.2.1, o_lineN, .inl o_lineF)), (o_above, .inl (G.2.1, o_aboveN, .inl o_aboveF)), (o_rest, .inl (G.2.1, o_restN, .inl o_restF)), (o_seen, .inl (G.2.2.1, o_seenN, .inl o_seenF)), (o_encoded, .inl (G.2.1, o_encodedN, .inl o_encodedF)), (o_chosen, .inl (G.2.1, o_chosenN, .inl o_chosenF)), (o_feed, .inl (G.2.1, o_feedN, .inl o_feedF)), (o_colours, .inl (G.2.1, o_coloursN, .inl o_coloursF))] (va_A [(o, .inr (5, [.int o_thrown, .int o_width, .int o_height, .int o_bits, .int o_channels, .int o_step, .ref o_firstColumns, .ref o_columnSteps, .ref o_firstRows, .ref o_rowSteps, .ref o_samples, .ref o_draft, .ref o_line, .ref o_above, .ref o_rest, .ref o_seen, .ref o_encoded, .int o_encodedSize, .ref o_chosen, .ref o_feed, .int o_feedSize, .ref o_colours, .int o_colourCount])), (o_firstColumns, .inl (G.2.1, o_firstColumnsN, .inl o_firstColumnsF)), (o_columnSteps, .inl (G.2.1, o_columnStepsN, .inl o_columnStepsF)), (o_firstRows, .inl (G.2.1, o_firstRowsN, .inl o_firstRowsF)), (o_rowSteps, .inl (G.2.1, o_rowStepsN, .inl o_rowStepsF)), (o_samples, .inl (G.2.1, o_samplesN, .inl o_samplesF)), (o_draft, .inl (G.2.1, o_draftN, .inl o_draftF)), (o_line, .inl (G.2.1, o_lineN, .inl o_lineF)), (o_above, .inl (G.2.1, o_aboveN, .inl o_aboveF)), (o_rest, .inl (G.2.1, o_restN, .inl o_restF)), (o_seen, .inl (G.2.2.1, o_seenN, .inl o_seenF)), (o_encoded, .inl (G.2.1, o_encodedN, .inl o_encodedF)), (o_chosen, .inl (G.2.1, o_chosenN, .inl o_chosenF)), (o_feed, .inl (G.2.1, o_feedN, .inl o_feedF)), (o_colours, .inl (G.2.1, o_coloursN, .inl o_coloursF))] sz)) 0 0 (va_A [(o, .inr (5, [.int o_thrown, .int o_width, .int o_height, .int o_bits, .int o_channels, .int o_step, .ref o_firstColumns, .ref o_columnSteps, .ref o_firstRows, .ref o_rowSteps, .ref o_samples, .ref o_draft, .ref o_line, .ref o_above, .ref o_rest, .ref o_seen, .ref o_encoded, .int o_encodedSize, .ref o_chosen, .ref o_feed, .int o_feedSize, .ref o_colours, .int o_colourCount])), (o_firstColumns, .inl (G.2.1, o_firstColumnsN, .inl o_firstColumnsF)), (o_columnSteps, .inl (G.2.1, o_columnStepsN, .inl o_columnStepsF)), (o_firstRows, .inl (G.2.1, o_firstRowsN, .inl o_firstRowsF)), (o_rowSteps, .inl (G.2.1, o_rowStepsN, .inl o_rowStepsF)), (o_samples, .inl (G.2.1, o_samplesN, .inl o_samplesF)), (o_draft, .inl (G.2.1, o_draftN, .inl o_draftF)), (o_line, .inl (G.2.1, o_lineN, .inl o_lineF)), (o_above, .inl (G.2.1, o_aboveN, .inl o_aboveF)), (o_rest, .inl (G.2.1, o_restN, .inl o_restF)), (o_seen, .inl (G.2.2.1, o_seenN, .inl o_seenF)), (o_encoded, .inl (G.2.1, o_encodedN, .inl o_encodedF)), (o_chosen, .inl (G.2.1, o_chosenN, .inl o_chosenF)), (o_feed, .inl (G.2.1, o_feedN, .inl o_feedF)), (o_colours, .inl (G.2.1, o_coloursN, .inl o_coloursF))] sz) := by
  refine xMetQ (by decide) (Nat.le_of_ble_eq_true rfl) ?_
  intro p e s m below meth c ls A H locs C0 hnm B hl
  have hl : lv_has ls 4 [(0, .ref o), (1, .int x1), (2, .int x2), (3, .int x3)] := hl
  have h := hF
  unfold f_X5_at at h
  obtain ⟨hx, hb, hr, hml, hown, hts, hlk⟩ := id C0
  refine lv_aload_n hx hb dX5_at_0 rfl (lv_at hl 0 rfl) ?_
  refine lv_aload_n hx hb dX5_at_1 rfl (lv_at hl 0 rfl) ?_
  refine lv_iload_n hx hb dX5_at_2 rfl (lv_at hl 1 rfl) ?_
  refine lv_iload_n hx hb dX5_at_3 rfl (lv_at hl 2 rfl) ?_
  refine lv_iload_n hx hb dX5_at_4 rfl (lv_at hl 3 rfl) ?_
  obtain ⟨r_1, e_2, h⟩ := xb_spec h
  refine xcallR (wc := [(o, .inr (5, [.int o_thrown, .int o_width, .int o_height, .int o_bits, .int o_channels, .int o_step, .ref o_firstColumns, .ref o_columnSteps, .ref o_firstRows, .ref o_rowSteps, .ref o_samples, .ref o_draft, .ref o_line, .ref o_above, .ref o_rest, .ref o_seen, .ref o_encoded, .int o_encodedSize, .ref o_chosen, .ref o_feed, .int o_feedSize, .ref o_colours, .int o_colourCount])), (o_firstColumns, .inl (G.2.1, o_firstColumnsN, .inl o_firstColumnsF)), (o_columnSteps, .inl (G.2.1, o_columnStepsN, .inl o_columnStepsF)), (o_firstRows, .inl (G.2.1, o_firstRowsN, .inl o_firstRowsF)), (o_rowSteps, .inl (G.2.1, o_rowStepsN, .inl o_rowStepsF)), (o_samples, .inl (G.2.1, o_samplesN, .inl o_samplesF)), (o_draft, .inl (G.2.1, o_draftN, .inl o_draftF)), (o_line, .inl (G.2.1, o_lineN, .inl o_lineF)), (o_above, .inl (G.2.1, o_aboveN, .inl o_aboveF)), (o_rest, .inl (G.2.1, o_restN, .inl o_restF)), (o_seen, .inl (G.2.2.1, o_seenN, .inl o_seenF)), (o_encoded, .inl (G.2.1, o_encodedN, .inl o_encodedF)), (o_chosen, .inl (G.2.1, o_chosenN, .inl o_chosenF)), (o_feed, .inl (G.2.1, o_feedN, .inl o_feedF)), (o_colours, .inl (G.2.1, o_coloursN, .inl o_coloursF))]) B [0, 1, 2, 3, 4, 5, 6, 7, 8, 9, 10, 11, 12, 13, 14] rfl rfl (xrunV C0 (c_X5_isSample l G o o_thrown o_width o_height o_bits o_channels o_step o_firstColumns o_firstColumnsN o_firstColumnsF o_columnSteps o_columnStepsN o_columnStepsF o_firstRows o_firstRowsN o_firstRowsF o_rowSteps o_rowStepsN o_rowStepsF o_samples o_samplesN o_samplesF o_draft o_draftN o_draftF o_line o_lineN o_lineF o_above o_aboveN o_aboveF o_rest o_restN o_restF o_seen o_seenN o_seenF o_encoded o_encodedN o_encodedF o_encodedSize o_chosen o_chosenN o_chosenF o_feed o_feedN o_feedF o_feedSize o_colours o_coloursN o_coloursF o_colourCount x1 x2 x3 n r_1 e_2 H.size) kb_X5_isSample kv_X5_isSample wd_426 (ci := 5) rfl rfl rfl rfl rfl ⟨Nat.le_of_ble_eq_true rfl, Nat.le_of_ble_eq_true rfl⟩ rfl hl rfl (Nat.le_of_ble_eq_true rfl) dX5_at_5 ⟨Nat.le_of_ble_eq_true rfl, Nat.le_of_ble_eq_true rfl⟩) (fun H locs B => ?_)
  refine lv_if_eq (tgt := 15) hx hb dX5_at_8 (by decide) (fun c_3 => ?_) (fun c_3 => ?_)
  · have h := oif_t h c_3
    refine lv_iconst (v := 1) hx hb dX5_at_15 (by decide) ?_
    refine xput (ws' := [(o, .inr (5, [.int (1 : Int32), .int o_width, .int o_height, .int o_bits, .int o_channels, .int o_step, .ref o_firstColumns, .ref o_columnSteps, .ref o_firstRows, .ref o_rowSteps, .ref o_samples, .ref o_draft, .ref o_line, .ref o_above, .ref o_rest, .ref o_seen, .ref o_encoded, .int o_encodedSize, .ref o_chosen, .ref o_feed, .int o_feedSize, .ref o_colours, .int o_colourCount])), (o_firstColumns, .inl (G.2.1, o_firstColumnsN, .inl o_firstColumnsF)), (o_columnSteps, .inl (G.2.1, o_columnStepsN, .inl o_columnStepsF)), (o_firstRows, .inl (G.2.1, o_firstRowsN, .inl o_firstRowsF)), (o_rowSteps, .inl (G.2.1, o_rowStepsN, .inl o_rowStepsF)), (o_samples, .inl (G.2.1, o_samplesN, .inl o_samplesF)), (o_draft, .inl (G.2.1, o_draftN, .inl o_draftF)), (o_line, .inl (G.2.1, o_lineN, .inl o_lineF)), (o_above, .inl (G.2.1, o_aboveN, .inl o_aboveF)), (o_rest, .inl (G.2.1, o_restN, .inl o_restF)), (o_seen, .inl (G.2.2.1, o_seenN, .inl o_seenF)), (o_encoded, .inl (G.2.1, o_encodedN, .inl o_encodedF)), (o_chosen, .inl (G.2.1, o_chosenN, .inl o_chosenF)), (o_feed, .inl (G.2.1, o_feedN, .inl o_feedF)), (o_colours, .inl (G.2.1, o_coloursN, .inl o_coloursF))]) C0 B inX5 tyX5 tyX5_ok nmX5 0 rfl rfl 0 (by decide) wd_414 rfl rfl rfl (Nat.le_of_ble_eq_true rfl) rfl dX5_at_16 (fun H locs B => ?_)
    refine lv_aload_n hx hb dX5_at_19 rfl (lv_at hl 0 rfl) ?_
    refine xget (v := .int (1 : Int32)) C0 B inX5 0 rfl rfl 0 (by decide) wd_414 rfl dX5_at_20 ?_
    refine lv_if_le (tgt := 30) hx hb dX5_at_23 (by decide) (fun c_4 => ?_) (fun c_4 => ?_)
    · have h := oif_t h c_4
      refine lv_aload_n hx hb dX5_at_30 rfl (lv_at hl 0 rfl) ?_
      refine xget (v := .ref o_samples) C0 B inX5 0 rfl rfl 10 (by decide) wd_393 rfl dX5_at_31 ?_
      refine lv_iload_n hx hb dX5_at_34 rfl (lv_at hl 1 rfl) ?_
      refine lv_iload_n hx hb dX5_at_35 rfl (lv_at hl 2 rfl) ?_
      obtain ⟨r_5, e_6, h⟩ := xb_spec h
      refine xcallR (wc := []) B [] rfl rfl (xrunS C0 (c_X5_place l G  x1 x2 n r_5 e_6 H.size) kb_X5_place kv_X5_place wd_427 rfl rfl ⟨Nat.le_of_ble_eq_true rfl, Nat.le_of_ble_eq_true rfl⟩ rfl hl rfl (Nat.le_of_ble_eq_true rfl) dX5_at_36 ⟨Nat.le_of_ble_eq_true rfl, Nat.le_of_ble_eq_true rfl⟩) (fun H locs B => ?_)
      refine lv_iload_n hx hb dX5_at_39 rfl (lv_at hl 3 rfl) ?_
      refine lv_iadd hx hb dX5_at_40 ?_
      obtain ⟨b_7, h⟩ := xin_spec h
      refine xiald C0 B 5 rfl b_7 dX5_at_41 ?_
      obtain ⟨g1, k1⟩ := Prod.mk.inj (Option.some.inj h)
      subst g1 k1
      exact xreti C0 B [0, 1, 2, 3, 4, 5, 6, 7, 8, 9, 10, 11, 12, 13, 14] rfl rfl dX5_at_42
    · have h := oif_f h c_4
      refine lv_iconst (v := 0) hx hb dX5_at_26 (by decide) ?_
      refine lv_goto (tgt := 42) hx hb dX5_at_27 (by decide) ?_
      obtain ⟨g1, k1⟩ := Prod.mk.inj (Option.some.inj h)
      subst g1 k1
      exact xreti C0 B [0, 1, 2, 3, 4, 5, 6, 7, 8, 9, 10, 11, 12, 13, 14] rfl rfl dX5_at_42
  · have h := oif_f h c_3
    refine lv_iconst (v := 0) hx hb dX5_at_11 (by decide) ?_
    refine lv_goto (tgt := 16) hx hb dX5_at_12 (by decide) ?_
    refine xput (ws' := [(o, .inr (5, [.int (0 : Int32), .int o_width, .int o_height, .int o_bits, .int o_channels, .int o_step, .ref o_firstColumns, .ref o_columnSteps, .ref o_firstRows, .ref o_rowSteps, .ref o_samples, .ref o_draft, .ref o_line, .ref o_above, .ref o_rest, .ref o_seen, .ref o_encoded, .int o_encodedSize, .ref o_chosen, .ref o_feed, .int o_feedSize, .ref o_colours, .int o_colourCount])), (o_firstColumns, .inl (G.2.1, o_firstColumnsN, .inl o_firstColumnsF)), (o_columnSteps, .inl (G.2.1, o_columnStepsN, .inl o_columnStepsF)), (o_firstRows, .inl (G.2.1, o_firstRowsN, .inl o_firstRowsF)), (o_rowSteps, .inl (G.2.1, o_rowStepsN, .inl o_rowStepsF)), (o_samples, .inl (G.2.1, o_samplesN, .inl o_samplesF)), (o_draft, .inl (G.2.1, o_draftN, .inl o_draftF)), (o_line, .inl (G.2.1, o_lineN, .inl o_lineF)), (o_above, .inl (G.2.1, o_aboveN, .inl o_aboveF)), (o_rest, .inl (G.2.1, o_restN, .inl o_restF)), (o_seen, .inl (G.2.2.1, o_seenN, .inl o_seenF)), (o_encoded, .inl (G.2.1, o_encodedN, .inl o_encodedF)), (o_chosen, .inl (G.2.1, o_chosenN, .inl o_chosenF)), (o_feed, .inl (G.2.1, o_feedN, .inl o_feedF)), (o_colours, .inl (G.2.1, o_coloursN, .inl o_coloursF))]) C0 B inX5 tyX5 tyX5_ok nmX5 0 rfl rfl 0 (by decide) wd_414 rfl rfl rfl (Nat.le_of_ble_eq_true rfl) rfl dX5_at_16 (fun H locs B => ?_)
    refine lv_aload_n hx hb dX5_at_19 rfl (lv_at hl 0 rfl) ?_
    refine xget (v := .int (0 : Int32)) C0 B inX5 0 rfl rfl 0 (by decide) wd_414 rfl dX5_at_20 ?_
    refine lv_if_le (tgt := 30) hx hb dX5_at_23 (by decide) (fun c_8 => ?_) (fun c_8 => ?_)
    · have h := oif_t h c_8
      refine lv_aload_n hx hb dX5_at_30 rfl (lv_at hl 0 rfl) ?_
      refine xget (v := .ref o_samples) C0 B inX5 0 rfl rfl 10 (by decide) wd_393 rfl dX5_at_31 ?_
      refine lv_iload_n hx hb dX5_at_34 rfl (lv_at hl 1 rfl) ?_
      refine lv_iload_n hx hb dX5_at_35 rfl (lv_at hl 2 rfl) ?_
      obtain ⟨r_9, e_10, h⟩ := xb_spec h
      refine xcallR (wc := []) B [] rfl rfl (xrunS C0 (c_X5_place l G  x1 x2 n r_9 e_10 H.size) kb_X5_place kv_X5_place wd_427 rfl rfl ⟨Nat.le_of_ble_eq_true rfl, Nat.le_of_ble_eq_true rfl⟩ rfl hl rfl (Nat.le_of_ble_eq_true rfl) dX5_at_36 ⟨Nat.le_of_ble_eq_true rfl, Nat.le_of_ble_eq_true rfl⟩) (fun H locs B => ?_)
      refine lv_iload_n hx hb dX5_at_39 rfl (lv_at hl 3 rfl) ?_
      refine lv_iadd hx hb dX5_at_40 ?_
      obtain ⟨b_11, h⟩ := xin_spec h
      refine xiald C0 B 5 rfl b_11 dX5_at_41 ?_
      obtain ⟨g1, k1⟩ := Prod.mk.inj (Option.some.inj h)
      subst g1 k1
      exact xreti C0 B [0, 1, 2, 3, 4, 5, 6, 7, 8, 9, 10, 11, 12, 13, 14] rfl rfl dX5_at_42
    · have h := oif_f h c_8
      refine lv_iconst (v := 0) hx hb dX5_at_26 (by decide) ?_
      refine lv_goto (tgt := 42) hx hb dX5_at_27 (by decide) ?_
      obtain ⟨g1, k1⟩ := Prod.mk.inj (Option.some.inj h)
      subst g1 k1
      exact xreti C0 B [0, 1, 2, 3, 4, 5, 6, 7, 8, 9, 10, 11, 12, 13, 14] rfl rfl dX5_at_42
