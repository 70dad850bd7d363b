/-! FilterRowsModel.size(I)I -/
abbrev rm_X5_size : Room := { frames := 0, cells := 0, slots := 0, locals := 0 }
def f_X5_size (n : Nat)  (x0 : Int32) : Option Int32 := (if 0 ≤ x0 then some x0 else some (-x0))
set_option maxHeartbeats 4000000 in
set_option maxRecDepth 100000 in
theorem c_X5_size (l : Launch) (G : xG)  (x0 : Int32) (n : Nat) (zr : Int32) (hF : f_X5_size n x0 = some zr) (sz : Nat) : Met l yX5_size (xws yX5_size cX5_size 1 (some .int)) rm_X5_size (va_Pc [.int x0] (xPre G [] sz)) (xQR (some (.int zr)) (fun q => sz ≤ q)) 0 0 (fun q => sz ≤ q) := by
  refine xMetR (by decide) (Nat.le_of_ble_eq_true rfl) ?_
  intro p e s m below meth c ls A H locs C0 hnm B hl
  have hl : lv_has ls 1 [(0, .int x0)] := hl
  have h := hF
  unfold f_X5_size at h
  obtain ⟨hx, hb, hr, hml, hown, hts, hlk⟩ := id C0
  refine lv_iload_n hx hb dX5_size_0 rfl (lv_at hl 0 rfl) ?_
  refine lv_if_ge (tgt := 9) hx hb dX5_size_1 (by decide) (fun c_1 => ?_) (fun c_1 => ?_)
  · have h := oif_t h c_1
    refine lv_iload_n hx hb dX5_size_9 rfl (lv_at hl 0 rfl) ?_
    obtain rfl := Option.some.inj h
    exact xretiR C0 B dX5_size_10
  · have h := oif_f h c_1
    refine lv_iload_n hx hb dX5_size_4 rfl (lv_at hl 0 rfl) ?_
    refine lv_ineg hx hb dX5_size_5 ?_
    refine lv_goto (tgt := 10) hx hb dX5_size_6 (by decide) ?_
    obtain rfl := Option.some.inj h
    exact xretiR C0 B dX5_size_10
/-! FilterRowsModel.with(IIII)I -/
abbrev rm_X5_with : Room := { frames := 1, cells := 0, slots := 0, locals := 20 }
def f_X5_with (n : Nat)  (x0 : Int32) (x1 : Int32) (x2 : Int32) (x3 : Int32) : Option Int32 := (if x0 = (0 : Int32) then some (0 : Int32) else (if x0 = (1 : Int32) then some x1 else (if x0 = (2 : Int32) then some x2 else (if x0 = (3 : Int32) then xnz (2 : Int32) (some ((x1 + x2) / (2 : Int32))) else xb (f_X5_size n (((x1 + x2) - x3) - x1)) (fun r_6 => xb (f_X5_size n (((x1 + x2) - x3) - x2)) (fun r_8 => xb (f_X5_size n (((x1 + x2) - x3) - x3)) (fun r_10 => (if r_8 < r_6 then (if r_10 < r_8 then some x3 else some x2) else (if r_10 < r_6 then (if r_10 < r_8 then some x3 else some x2) else some x1)))))))))
set_option maxHeartbeats 4000000 in
set_option maxRecDepth 100000 in
theorem c_X5_with (l : Launch) (G : xG)  (x0 : Int32) (x1 : Int32) (x2 : Int32) (x3 : Int32) (n : Nat) (zr : Int32) (hF : f_X5_with n x0 x1 x2 x3 = some zr) (sz : Nat) : Met l yX5_with (xws yX5_with cX5_with 8 (some .int)) rm_X5_with (va_Pc [.int x0, .int x1, .int x2, .int x3] (xPre G [] sz)) (xQR (some (.int zr)) (fun q => sz ≤ q)) 0 0 (fun q => sz ≤ q) := by
  refine xMetR (by decide) (Nat.le_of_ble_eq_true rfl) ?_
  intro p e s m below meth c ls A H locs C0 hnm B hl
  have hl : lv_has ls 8 [(0, .int x0), (1, .int x1), (2, .int x2), (3, .int x3)] := hl
  have h := hF
  unfold f_X5_with at h
  obtain ⟨hx, hb, hr, hml, hown, hts, hlk⟩ := id C0
  refine lv_iload_n hx hb dX5_with_0 rfl (lv_at hl 0 rfl) ?_
  rcases Classical.em (x0 = (0 : Int32)) with c_1 | c_1
  · have h := oif_t h c_1
    refine lv_tableIn (tgt := 32) hx hb dX5_with_1 (by rw [c_1]; decide) (by rw [c_1]; decide) (off := 31) (by rw [c_1]; decide) (by decide) ?_
    refine lv_iconst (v := 0) hx hb dX5_with_32 (by decide) ?_
    obtain rfl := Option.some.inj h
    exact xretiR C0 B dX5_with_33
  · have h := oif_f h c_1
    rcases Classical.em (x0 = (1 : Int32)) with c_2 | c_2
    · have h := oif_t h c_2
      refine lv_tableIn (tgt := 34) hx hb dX5_with_1 (by rw [c_2]; decide) (by rw [c_2]; decide) (off := 33) (by rw [c_2]; decide) (by decide) ?_
      refine lv_iload_n hx hb dX5_with_34 rfl (lv_at hl 1 rfl) ?_
      obtain rfl := Option.some.inj h
      exact xretiR C0 B dX5_with_35
    · have h := oif_f h c_2
      rcases Classical.em (x0 = (2 : Int32)) with c_3 | c_3
      · have h := oif_t h c_3
        refine lv_tableIn (tgt := 36) hx hb dX5_with_1 (by rw [c_3]; decide) (by rw [c_3]; decide) (off := 35) (by rw [c_3]; decide) (by decide) ?_
        refine lv_iload_n hx hb dX5_with_36 rfl (lv_at hl 2 rfl) ?_
        obtain rfl := Option.some.inj h
        exact xretiR C0 B dX5_with_37
      · have h := oif_f h c_3
        rcases Classical.em (x0 = (3 : Int32)) with c_4 | c_4
        · have h := oif_t h c_4
          refine lv_tableIn (tgt := 38) hx hb dX5_with_1 (by rw [c_4]; decide) (by rw [c_4]; decide) (off := 37) (by rw [c_4]; decide) (by decide) ?_
          refine lv_iload_n hx hb dX5_with_38 rfl (lv_at hl 1 rfl) ?_
          refine lv_iload_n hx hb dX5_with_39 rfl (lv_at hl 2 rfl) ?_
          refine lv_iadd hx hb dX5_with_40 ?_
          refine lv_iconst (v := 2) hx hb dX5_with_41 (by decide) ?_
          obtain ⟨d_5, h⟩ := xnz_spec h
          refine lv_idiv hx hb dX5_with_42 d_5 ?_
          obtain rfl := Option.some.inj h
          exact xretiR C0 B dX5_with_43
        · have h := oif_f h c_4
          refine lv_tableOut (tgt := 44) hx hb dX5_with_1 (xsw_0_4 c_1 c_2 c_3 c_4) (by decide) ?_
          refine lv_iload_n hx hb dX5_with_44 rfl (lv_at hl 1 rfl) ?_
          refine lv_iload_n hx hb dX5_with_45 rfl (lv_at hl 2 rfl) ?_
          refine lv_iadd hx hb dX5_with_46 ?_
          refine lv_iload_n hx hb dX5_with_47 rfl (lv_at hl 3 rfl) ?_
          refine lv_isub hx hb dX5_with_48 ?_
          refine lv_istore (lv' := [(4, .int ((x1 + x2) - x3)), (0, .int x0), (1, .int x1), (2, .int x2), (3, .int x3)]) hx hb dX5_with_49 hl (by decide) rfl (fun ls hl => ?_)
          refine lv_iload hx hb dX5_with_51 (lv_at hl 0 rfl) ?_
          refine lv_iload_n hx hb dX5_with_53 rfl (lv_at hl 2 rfl) ?_
          refine lv_isub hx hb dX5_with_54 ?_
          obtain ⟨r_6, e_7, h⟩ := xb_spec h
          refine xcallR (wc := []) B [] rfl rfl (xrunS C0 (c_X5_size l G  (((x1 + x2) - x3) - x1) n r_6 e_7 H.size) kb_X5_size kv_X5_size wd_461 rfl rfl ⟨Nat.le_of_ble_eq_true rfl, Nat.le_of_ble_eq_true rfl⟩ rfl hl rfl (Nat.le_of_ble_eq_true rfl) dX5_with_55 ⟨Nat.le_of_ble_eq_true rfl, Nat.le_of_ble_eq_true rfl⟩) (fun H locs B => ?_)
          refine lv_istore (lv' := [(5, .int r_6), (4, .int ((x1 + x2) - x3)), (0, .int x0), (1, .int x1), (2, .int x2), (3, .int x3)]) hx hb dX5_with_58 hl (by decide) rfl (fun ls hl => ?_)
          refine lv_iload hx hb dX5_with_60 (lv_at hl 1 rfl) ?_
          refine lv_iload_n hx hb dX5_with_62 rfl (lv_at hl 4 rfl) ?_
          refine lv_isub hx hb dX5_with_63 ?_
          obtain ⟨r_8, e_9, h⟩ := xb_spec h
          refine xcallR (wc := []) B [] rfl rfl (xrunS C0 (c_X5_size l G  (((x1 + x2) - x3) - x2) n r_8 e_9 H.size) kb_X5_size kv_X5_size wd_461 rfl rfl ⟨Nat.le_of_ble_eq_true rfl, Nat.le_of_ble_eq_true rfl⟩ rfl hl rfl (Nat.le_of_ble_eq_true rfl) dX5_with_64 ⟨Nat.le_of_ble_eq_true rfl, Nat.le_of_ble_eq_true rfl⟩) (fun H locs B => ?_)
          refine lv_istore (lv' := [(6, .int r_8), (5, .int r_6), (4, .int ((x1 + x2) - x3)), (0, .int x0), (1, .int x1), (2, .int x2), (3, .int x3)]) hx hb dX5_with_67 hl (by decide) rfl (fun ls hl => ?_)
          refine lv_iload hx hb dX5_with_69 (lv_at hl 2 rfl) ?_
          refine lv_iload_n hx hb dX5_with_71 rfl (lv_at hl 6 rfl) ?_
          refine lv_isub hx hb dX5_with_72 ?_
          obtain ⟨r_10, e_11, h⟩ := xb_spec h
          refine xcallR (wc := []) B [] rfl rfl (xrunS C0 (c_X5_size l G  (((x1 + x2) - x3) - x3) n r_10 e_11 H.size) kb_X5_size kv_X5_size wd_461 rfl rfl ⟨Nat.le_of_ble_eq_true rfl, Nat.le_of_ble_eq_true rfl⟩ rfl hl rfl (Nat.le_of_ble_eq_true rfl) dX5_with_73 ⟨Nat.le_of_ble_eq_true rfl, Nat.le_of_ble_eq_true rfl⟩) (fun H locs B => ?_)
          refine lv_istore (lv' := [(7, .int r_10), (6, .int r_8), (5, .int r_6), (4, .int ((x1 + x2) - x3)), (0, .int x0), (1, .int x1), (2, .int x2), (3, .int x3)]) hx hb dX5_with_76 hl (by decide) rfl (fun ls hl => ?_)
          refine lv_iload hx hb dX5_with_78 (lv_at hl 2 rfl) ?_
          refine lv_iload hx hb dX5_with_80 (lv_at hl 1 rfl) ?_
          refine lv_icmp_gt (tgt := 96) hx hb dX5_with_82 (by decide) (fun c_12 => ?_) (fun c_12 => ?_)
          · have h := oif_t h c_12
            refine lv_iload hx hb dX5_with_96 (lv_at hl 1 rfl) ?_
            refine lv_iload hx hb dX5_with_98 (lv_at hl 0 rfl) ?_
            refine lv_icmp_gt (tgt := 107) hx hb dX5_with_100 (by decide) (fun c_13 => ?_) (fun c_13 => ?_)
            · have h := oif_t h c_13
              refine lv_iload_n hx hb dX5_with_107 rfl (lv_at hl 7 rfl) ?_
              obtain rfl := Option.some.inj h
              exact xretiR C0 B dX5_with_108
            · have h := oif_f h c_13
              refine lv_iload_n hx hb dX5_with_103 rfl (lv_at hl 6 rfl) ?_
              refine lv_goto (tgt := 108) hx hb dX5_with_104 (by decide) ?_
              obtain rfl := Option.some.inj h
              exact xretiR C0 B dX5_with_108
          · have h := oif_f h c_12
            refine lv_iload hx hb dX5_with_85 (lv_at hl 2 rfl) ?_
            refine lv_iload hx hb dX5_with_87 (lv_at hl 0 rfl) ?_
            refine lv_icmp_gt (tgt := 96) hx hb dX5_with_89 (by decide) (fun c_14 => ?_) (fun c_14 => ?_)
            · have h := oif_t h c_14
              refine lv_iload hx hb dX5_with_96 (lv_at hl 1 rfl) ?_
              refine lv_iload hx hb dX5_with_98 (lv_at hl 0 rfl) ?_
              refine lv_icmp_gt (tgt := 107) hx hb dX5_with_100 (by decide) (fun c_15 => ?_) (fun c_15 => ?_)
              · have h := oif_t h c_15
                refine lv_iload_n hx hb dX5_with_107 rfl (lv_at hl 7 rfl) ?_
                obtain rfl := Option.some.inj h
                exact xretiR C0 B dX5_with_108
              · have h := oif_f h c_15
                refine lv_iload_n hx hb dX5_with_103 rfl (lv_at hl 6 rfl) ?_
                refine lv_goto (tgt := 108) hx hb dX5_with_104 (by decide) ?_
                obtain rfl := Option.some.inj h
                exact xretiR C0 B dX5_with_108
            · have h := oif_f h c_14
              refine lv_iload_n hx hb dX5_with_92 rfl (lv_at hl 5 rfl) ?_
              refine lv_goto (tgt := 108) hx hb dX5_with_93 (by decide) ?_
              obtain rfl := Option.some.inj h
              exact xretiR C0 B dX5_with_108
/-! FilterRowsModel.before([II)I -/
abbrev rm_X5_before : Room := { frames := 0, cells := 0, slots := 0, locals := 0 }
def f_X5_before (n : Nat) (o_step : Int32) (p1N : Nat) (p1F : Nat → Int32) (x2 : Int32) : Option Int32 := (if o_step ≤ x2 then xin (x2 - o_step) p1N (some (p1F ((x2 - o_step)).toNatClampNeg)) else some (0 : Int32))
set_option maxHeartbeats 4000000 in
set_option maxRecDepth 100000 in
theorem c_X5_before (l : Launch) (G : xG) (o : Nat) (o_thrown : Int32) (o_width : Int32) (o_height : Int32) (o_bits : Int32) (o_channels : Int32) (o_step : Int32) (o_firstColumns : Nat) (o_firstColumnsN : Nat) (o_firstColumnsF : Nat → Int32) (o_columnSteps : Nat) (o_columnStepsN : Nat) (o_columnStepsF : Nat → Int32) (o_firstRows : Nat) (o_firstRowsN : Nat) (o_firstRowsF : Nat → Int32) (o_rowSteps : Nat) (o_rowStepsN : Nat) (o_rowStepsF : Nat → Int32) (o_samples : Nat) (o_samplesN : Nat) (o_samplesF : Nat → Int32) (o_draft : Nat) (o_draftN : Nat) (o_draftF : Nat → Int32) (o_line : Nat) (o_lineN : Nat) (o_lineF : Nat → Int32) (o_above : Nat) (o_aboveN : Nat) (o_aboveF : Nat → Int32) (o_rest : Nat) (o_restN : Nat) (o_restF : Nat → Int32) (o_seen : Nat) (o_seenN : Nat) (o_seenF : Nat → Int32) (o_encoded : Nat) (o_encodedN : Nat) (o_encodedF : Nat → Int32) (o_encodedSize : Int32) (o_chosen : Nat) (o_chosenN : Nat) (o_chosenF : Nat → Int32) (o_feed : Nat) (o_feedN : Nat) (o_feedF : Nat → Int32) (o_feedSize : Int32) (o_colours : Nat) (o_coloursN : Nat) (o_coloursF : Nat → Int32) (o_colourCount : Int32) (p1 : Nat) (p1N : Nat) (p1F : Nat → Int32) (x2 : Int32) (n : Nat) (zr : Int32) (hF : f_X5_before n o_step p1N p1F x2 = some zr) (sz : Nat) : Met l yX5_before (xws yX5_before cX5_before 3 (some .int)) rm_X5_before (va_Pc [.ref o, .ref p1, .int x2] (xPre G [(o, .inr (5, [.int o_thrown, .int o_width, .int o_height, .int o_bits, .int o_channels, .int o_step, .ref o_firstColumns, .ref o_columnSteps, .ref o_firstRows, .ref o_rowSteps, .ref o_samples, .ref o_draft, .ref o_line, .ref o_above, .ref o_rest, .ref o_seen, .ref o_encoded, .int o_encodedSize, .ref o_chosen, .ref o_feed, .int o_feedSize, .ref o_colours, .int o_colourCount])), (o_firstColumns, .inl (G.2.1, o_firstColumnsN, .inl o_firstColumnsF)), (o_columnSteps, .inl (G.2.1, o_columnStepsN, .inl o_columnStepsF)), (o_firstRows, .inl (G.2.1, o_firstRowsN, .inl o_firstRowsF)), (o_rowSteps, .inl (G.2.1, o_rowStepsN, .inl o_rowStepsF)), (o_samples, .inl (G.2.1, o_samplesN, .inl o_samplesF)), (o_draft, .inl (G.2.1, o_draftN, .inl o_draftF)), (o_line, .inl (G.2.1, o_lineN, .inl o_lineF)), (o_above, .inl (G.2.1, o_aboveN, .inl o_aboveF)), (o_rest, .inl (G.2.1, o_restN, .inl o_restF)), (o_seen, .inl (G.2.2.1, o_seenN, .inl o_seenF)), (o_encoded, .inl (G.2.1, o_encodedN, .inl o_encodedF)), (o_chosen, .inl (G.2.1, o_chosenN, .inl o_chosenF)), (o_feed, .inl (G.2.1, o_feedN, .inl o_feedF)), (o_colours, .inl (G.2.1, o_coloursN, .inl o_coloursF)), (p1, .inl (G.2.1, p1N, .inl p1F))] sz)) (xQR (some (.int zr)) (fun q => sz ≤ q)) 0 0 (fun q => sz ≤ q) := by
  refine xMetR (by decide) (Nat.le_of_ble_eq_true rfl) ?_
  intro p e s m below meth c ls A H locs C0 hnm B hl
  have hl : lv_has ls 3 [(0, .ref o), (1, .ref p1), (2, .int x2)] := hl
  have h := hF
  unfold f_X5_before at h
  obtain ⟨hx, hb, hr, hml, hown, hts, hlk⟩ := id C0
  refine lv_iload_n hx hb dX5_before_0 rfl (lv_at hl 2 rfl) ?_
  refine lv_aload_n hx hb dX5_before_1 rfl (lv_at hl 0 rfl) ?_
  refine xget (v := .int o_step) C0 B inX5 0 rfl rfl 5 (by decide) wd_411 rfl dX5_before_2 ?_
  refine lv_icmp_ge (tgt := 12) hx hb dX5_before_5 (by decide) (fun c_1 => ?_) (fun c_1 => ?_)
  · have h := oif_t h c_1
    refine lv_aload_n hx hb dX5_before_12 rfl (lv_at hl 1 rfl) ?_
    refine lv_iload_n hx hb dX5_before_13 rfl (lv_at hl 2 rfl) ?_
    refine lv_aload_n hx hb dX5_before_14 rfl (lv_at hl 0 rfl) ?_
    refine xget (v := .int o_step) C0 B inX5 0 rfl rfl 5 (by decide) wd_411 rfl dX5_before_15 ?_
    refine lv_isub hx hb dX5_before_18 ?_
    obtain ⟨b_2, h⟩ := xin_spec h
    refine xiald C0 B 15 rfl b_2 dX5_before_19 ?_
    obtain rfl := Option.some.inj h
    exact xretiR C0 B dX5_before_20
  · have h := oif_f h c_1
    refine lv_iconst (v := 0) hx hb dX5_before_8 (by decide) ?_
    refine lv_goto (tgt := 20) hx hb dX5_before_9 (by decide) ?_
    obtain rfl := Option.some.inj h
    exact xretiR C0 B dX5_before_20
/-! FilterRowsModel.before([II)I -/
abbrev rm_X5_before_o_line : Room := { frames := 0, cells := 0, slots := 0, locals := 0 }
def f_X5_before_o_line (n : Nat) (o_step : Int32) (o_lineN : Nat) (o_lineF : Nat → Int32) (x2 : Int32) : Option Int32 := (if o_step ≤ x2 then xin (x2 - o_step) o_lineN (some (o_lineF ((x2 - o_step)).toNatClampNeg)) else some (0 : Int32))
set_option maxHeartbeats 4000000 in
set_option maxRecDepth 100000 in
theorem c_X5_before_o_line (l : Launch) (G : xG) (o : Nat) (o_thrown : Int32) (o_width : Int32) (o_height : Int32) (o_bits : Int32) (o_channels : Int32) (o_step : Int32) (o_firstColumns : Nat) (o_firstColumnsN : Nat) (o_firstColumnsF : Nat → Int32) (o_columnSteps : Nat) (o_columnStepsN : Nat) (o_columnStepsF : Nat → Int32) (o_firstRows : Nat) (o_firstRowsN : Nat) (o_firstRowsF : Nat → Int32) (o_rowSteps : Nat) (o_rowStepsN : Nat) (o_rowStepsF : Nat → Int32) (o_samples : Nat) (o_samplesN : Nat) (o_samplesF : Nat → Int32) (o_draft : Nat) (o_draftN : Nat) (o_draftF : Nat → Int32) (o_line : Nat) (o_lineN : Nat) (o_lineF : Nat → Int32) (o_above : Nat) (o_aboveN : Nat) (o_aboveF : Nat → Int32) (o_rest : Nat) (o_restN : Nat) (o_restF : Nat → Int32) (o_seen : Nat) (o_seenN : Nat) (o_seenF : Nat → Int32) (o_encoded : Nat) (o_encodedN : Nat) (o_encodedF : Nat → Int32) (o_encodedSize : Int32) (o_chosen : Nat) (o_chosenN : Nat) (o_chosenF : Nat → Int32) (o_feed : Nat) (o_feedN : Nat) (o_feedF : Nat → Int32) (o_feedSize : Int32) (o_colours : Nat) (o_coloursN : Nat) (o_coloursF : Nat → Int32) (o_colourCount : Int32) (x2 : Int32) (n : Nat) (zr : Int32) (hF : f_X5_before_o_line n o_step o_lineN o_lineF x2 = some zr) (sz : Nat) : Met l yX5_before (xws yX5_before cX5_before 3 (some .int)) rm_X5_before_o_line (va_Pc [.ref o, .ref o_line, .int x2] (xPre G [(o, .inr (5, [.int o_thrown, .int o_width, .int o_height, .int o_bits, .int o_channels, .int o_step, .ref o_firstColumns, .ref o_columnSteps, .ref o_firstRows, .ref o_rowSteps, .ref o_samples, .ref o_draft, .ref o_line, .ref o_above, .ref o_rest, .ref o_seen, .ref o_encoded, .int o_encodedSize, .ref o_chosen, .ref o_feed, .int o_feedSize, .ref o_colours, .int o_colourCount])), (o_firstColumns, .inl (G.2.1, o_firstColumnsN, .inl o_firstColumnsF)), (o_columnSteps, .inl (G.2.1, o_columnStepsN, .inl o_columnStepsF)), (o_firstRows, .inl (G.2.1, o_firstRowsN, .inl o_firstRowsF)), (o_rowSteps, .inl (G.2.1, o_rowStepsN, .inl o_rowStepsF)), (o_samples, .inl (G.2.1, o_samplesN, .inl o_samplesF)), (o_draft, .inl (G.2.1, o_draftN, .inl o_draftF)), (o_line, .inl (G.2.1, o_lineN, .inl o_lineF)), (o_above, .inl (G.2.1, o_aboveN, .inl o_aboveF)), (o_rest, .inl (G.2.1, o_restN, .inl o_restF)), (o_seen, .inl (G.2.2.1, o_seenN, .inl o_seenF)), (o_encoded, .inl (G.2.1, o_encodedN, .inl o_encodedF)), (o_chosen, .inl (G.2.1, o_chosenN, .inl o_chosenF)), (o_feed, .inl (G.2.1, o_feedN, .inl o_feedF)), (o_colours, .inl (G.2.1, o_coloursN, .inl o_coloursF))] sz)) (xQR (some (.int zr)) (fun q => sz ≤ q)) 0 0 (fun q => sz ≤ q) := by
  refine xMetR (by decide) (Nat.le_of_ble_eq_true rfl) ?_
  intro p e s m below meth c ls A H locs C0 hnm B hl
  have hl : lv_has ls 3 [(0, .ref o), (1, .ref o_line), (2, .int x2)] := hl
  have h := hF
  unfold f_X5_before_o_line at h
  obtain ⟨hx, hb, hr, hml, hown, hts, hlk⟩ := id C0
  refine lv_iload_n hx hb dX5_before_0 rfl (lv_at hl 2 rfl) ?_
  refine lv_aload_n hx hb dX5_before_1 rfl (lv_at hl 0 rfl) ?_
  refine xget (v := .int o_step) C0 B inX5 0 rfl rfl 5 (by decide) wd_411 rfl dX5_before_2 ?_
  refine lv_icmp_ge (tgt := 12) hx hb dX5_before_5 (by decide) (fun c_1 => ?_) (fun c_1 => ?_)
  · have h := oif_t h c_1
    refine lv_aload_n hx hb dX5_before_12 rfl (lv_at hl 1 rfl) ?_
    refine lv_iload_n hx hb dX5_before_13 rfl (lv_at hl 2 rfl) ?_
    refine lv_aload_n hx hb dX5_before_14 rfl (lv_at hl 0 rfl) ?_
    refine xget (v := .int o_step) C0 B inX5 0 rfl rfl 5 (by decide) wd_411 rfl dX5_before_15 ?_
    refine lv_isub hx hb dX5_before_18 ?_
    obtain ⟨b_2, h⟩ := xin_spec h
    refine xiald C0 B 7 rfl b_2 dX5_before_19 ?_
    obtain rfl := Option.some.inj h
    exact xretiR C0 B dX5_before_20
  · have h := oif_f h c_1
    refine lv_iconst (v := 0) hx hb dX5_before_8 (by decide) ?_
    refine lv_goto (tgt := 20) hx hb dX5_before_9 (by decide) ?_
    obtain rfl := Option.some.inj h
    exact xretiR C0 B dX5_before_20
/-! FilterRowsModel.before([II)I -/
abbrev rm_X5_before_o_above : Room := { frames := 0, cells := 0, slots := 0, locals := 0 }
def f_X5_before_o_above (n : Nat) (o_step : Int32) (o_aboveN : Nat) (o_aboveF : Nat → Int32) (x2 : Int32) : Option Int32 := (if o_step ≤ x2 then xin (x2 - o_step) o_aboveN (some (o_aboveF ((x2 - o_step)).toNatClampNeg)) else some (0 : Int32))
set_option maxHeartbeats 4000000 in
set_option maxRecDepth 100000 in
theorem c_X5_before_o_above (l : Launch) (G : xG) (o : Nat) (o_thrown : Int32) (o_width : Int32) (o_height : Int32) (o_bits : Int32) (o_channels : Int32) (o_step : Int32) (o_firstColumns : Nat) (o_firstColumnsN : Nat) (o_firstColumnsF : Nat → Int32) (o_columnSteps : Nat) (o_columnStepsN : Nat) (o_columnStepsF : Nat → Int32) (o_firstRows : Nat) (o_firstRowsN : Nat) (o_firstRowsF : Nat → Int32) (o_rowSteps : Nat) (o_rowStepsN : Nat) (o_rowStepsF : Nat → Int32) (o_samples : Nat) (o_samplesN : Nat) (o_samplesF : Nat → Int32) (o_draft : Nat) (o_draftN : Nat) (o_draftF : Nat → Int32) (o_line : Nat) (o_lineN : Nat) (o_lineF : Nat → Int32) (o_above : Nat) (o_aboveN : Nat) (o_aboveF : Nat → Int32) (o_rest : Nat) (o_restN : Nat) (o_restF : Nat → Int32) (o_seen : Nat) (o_seenN : Nat) (o_seenF : Nat → Int32) (o_encoded : Nat) (o_encodedN : Nat) (o_encodedF : Nat → Int32) (o_encodedSize : Int32) (o_chosen : Nat) (o_chosenN : Nat) (o_chosenF : Nat → Int32) (o_feed : Nat) (o_feedN : Nat) (o_feedF : Nat → Int32) (o_feedSize : Int32) (o_colours : Nat) (o_coloursN : Nat) (o_coloursF : Nat → Int32) (o_colourCount : Int32) (x2 : Int32) (n : Nat) (zr : Int32) (hF : f_X5_before_o_above n o_step o_aboveN o_aboveF x2 = some zr) (sz : Nat) : Met l yX5_before (xws yX5_before cX5_before 3 (some .int)) rm_X5_before_o_above (va_Pc [.ref o, .ref o_above, .int x2] (xPre G [(o, .inr (5, [.int o_thrown, .int o_width, .int o_height, .int o_bits, .int o_channels, .int o_step, .ref o_firstColumns, .ref o_columnSteps, .ref o_firstRows, .ref o_rowSteps, .ref o_samples, .ref o_draft, .ref o_line, .ref o_above, .ref o_rest, .ref o_seen, .ref o_encoded, .int o_encodedSize, .ref o_chosen, .ref o_feed, .int o_feedSize, .ref o_colours, .int o_colourCount])), (o_firstColumns, .inl (G.2.1, o_firstColumnsN, .inl o_firstColumnsF)), (o_columnSteps, .inl (G.2.1, o_columnStepsN, .inl o_columnStepsF)), (o_firstRows, .inl (G.2.1, o_firstRowsN, .inl o_firstRowsF)), (o_rowSteps, .inl (G.2.1, o_rowStepsN, .inl o_rowStepsF)), (o_samples, .inl (G.2.1, o_samplesN, .inl o_samplesF)), (o_draft, .inl (G.2.1, o_draftN, .inl o_draftF)), (o_line, .inl (G.2.1, o_lineN, .inl o_lineF)), (o_above, .inl (G.2.1, o_aboveN, .inl o_aboveF)), (o_rest, .inl (G.2.1, o_restN, .inl o_restF)), (o_seen, .inl (G.2.2.1, o_seenN, .inl o_seenF)), (o_encoded, .inl (G.2.1, o_encodedN, .inl o_encodedF)), (o_chosen, .inl (G.2.1, o_chosenN, .inl o_chosenF)), (o_feed, .inl (G.2.1, o_feedN, .inl o_feedF)), (o_colours, .inl (G.2.1, o_coloursN, .inl o_coloursF))] sz)) (xQR (some (.int zr)) (fun q => sz ≤ q)) 0 0 (fun q => sz ≤ q) := by
  refine xMetR (by decide) (Nat.le_of_ble_eq_true rfl) ?_
  intro p e s m below meth c ls A H locs C0 hnm B hl
  have hl : lv_has ls 3 [(0, .ref o), (1, .ref o_above), (2, .int x2)] := hl
  have h := hF
  unfold f_X5_before_o_above at h
  obtain ⟨hx, hb, hr, hml, hown, hts, hlk⟩ := id C0
  refine lv_iload_n hx hb dX5_before_0 rfl (lv_at hl 2 rfl) ?_
  refine lv_aload_n hx hb dX5_before_1 rfl (lv_at hl 0 rfl) ?_
  refine xget (v := .int o_step) C0 B inX5 0 rfl rfl 5 (by decide) wd_411 rfl dX5_before_2 ?_
  refine lv_icmp_ge (tgt := 12) hx hb dX5_before_5 (by decide) (fun c_1 => ?_) (fun c_1 => ?_)
  · have h := oif_t h c_1
    refine lv_aload_n hx hb dX5_before_12 rfl (lv_at hl 1 rfl) ?_
    refine lv_iload_n hx hb dX5_before_13 rfl (lv_at hl 2 rfl) ?_
    refine lv_aload_n hx hb dX5_before_14 rfl (lv_at hl 0 rfl) ?_
    refine xget (v := .int o_step) C0 B inX5 0 rfl rfl 5 (by decide) wd_411 rfl dX5_before_15 ?_
    refine lv_isub hx hb dX5_before_18 ?_
    obtain ⟨b_2, h⟩ := xin_spec h
    refine xiald C0 B 8 rfl b_2 dX5_before_19 ?_
    obtain rfl := Option.some.inj h
    exact xretiR C0 B dX5_before_20
  · have h := oif_f h c_1
    refine lv_iconst (v := 0) hx hb dX5_before_8 (by decide) ?_
    refine lv_goto (tgt := 20) hx hb dX5_before_9 (by decide) ?_
    obtain rfl := Option.some.inj h
    exact xretiR C0 B dX5_before_20
/-! FilterRowsModel.filter(II)V -/
abbrev rm_X5_filter : Room := { frames := 2, cells := 0, slots := 0, locals := 47 }
def fl_X5_filter_2 : Nat → Int32 → Nat → (Nat → Int32) → Nat → (Nat → Int32) → Nat → (Nat → Int32) → Int32 → Int32 → Int32 → Option (Int32 × (Nat → Int32))
  | 0, _, _, _, _, _, _, _, _, _, _ => none
  | n + 1, o_step, o_lineN, o_lineF, o_aboveN, o_aboveF, o_restN, o_restF, y1, y2, y3 => (if y2 ≤ y3 then some (y3, o_restF) else xin y3 o_lineN (xb (f_X5_before_o_line n o_step o_lineN o_lineF y3) (fun r_3 => xin y3 o_aboveN (xb (f_X5_before_o_above n o_step o_aboveN o_aboveF y3) (fun r_6 => xb (f_X5_with n y1 r_3 (o_aboveF (y3).toNatClampNeg) r_6) (fun r_8 => xin y3 o_restN (fl_X5_filter_2 n o_step o_lineN o_lineF o_aboveN o_aboveF o_restN (upd o_restF (y3).toNatClampNeg (((o_lineF (y3).toNatClampNeg) - r_8) &&& (255 : Int32))) y1 y2 (y3 + (1 : Int32)))))))))
def f_X5_filter (n : Nat) (o_step : Int32) (o_lineN : Nat) (o_lineF : Nat → Int32) (o_aboveN : Nat) (o_aboveF : Nat → Int32) (o_restN : Nat) (o_restF : Nat → Int32) (x1 : Int32) (x2 : Int32) : Option (Nat → Int32) := xb (fl_X5_filter_2 n o_step o_lineN o_lineF o_aboveN o_aboveF o_restN o_restF x1 x2 (0 : Int32)) (fun (v_1, w_2) => some w_2)
set_option maxHeartbeats 4000000 in
set_option maxRecDepth 100000 in
theorem lo_X5_filter_2 {p : Program} {l : Launch} {e : Env} {s : State} {m : MethodId} {args : Array Value} {below : List Frame} {meth : Method} {c : Code} {Q : State → Prop} {G : xG} {A : Nat → Prop} (C0 : xC p s m args meth c "FilterRowsModel" cX5_filter 4 none) : ∀ (n : Nat) (o : Nat) (o_thrown : Int32) (o_width : Int32) (o_height : Int32) (o_bits : Int32) (o_channels : Int32) (o_step : Int32) (o_firstColumns : Nat) (o_firstColumnsN : Nat) (o_firstColumnsF : Nat → Int32) (o_columnSteps : Nat) (o_columnStepsN : Nat) (o_columnStepsF : Nat → Int32) (o_firstRows : Nat) (o_firstRowsN : Nat) (o_firstRowsF : Nat → Int32) (o_rowSteps : Nat) (o_rowStepsN : Nat) (o_rowStepsF : Nat → Int32) (o_samples : Nat) (o_samplesN : Nat) (o_samplesF : Nat → Int32) (o_draft : Nat) (o_draftN : Nat) (o_draftF : Nat → Int32) (o_line : Nat) (o_lineN : Nat) (o_lineF : Nat → Int32) (o_above : Nat) (o_aboveN : Nat) (o_aboveF : Nat → Int32) (o_rest : Nat) (o_restN : Nat) (o_restF : Nat → Int32) (o_seen : Nat) (o_seenN : Nat) (o_seenF : Nat → Int32) (o_encoded : Nat) (o_encodedN : Nat) (o_encodedF : Nat → Int32) (o_encodedSize : Int32) (o_chosen : Nat) (o_chosenN : Nat) (o_chosenF : Nat → Int32) (o_feed : Nat) (o_feedN : Nat) (o_feedF : Nat → Int32) (o_feedSize : Int32) (o_colours : Nat) (o_coloursN : Nat) (o_coloursF : Nat → Int32) (o_colourCount : Int32) (y1 : Int32) (y2 : Int32) (y3 : Int32) (z3 : Int32) (z_o_restF : Nat → Int32), fl_X5_filter_2 n o_step o_lineN o_lineF o_aboveN o_aboveF o_restN o_restF y1 y2 y3 = some (z3, z_o_restF) → ∀ (H : Heap) (locs : List Loc) (ls : Array Slot), xW G true A s [(o, .inr (5, [.int o_thrown, .int o_width, .int o_height, .int o_bits, .int o_channels, .int o_step, .ref o_firstColumns, .ref o_columnSteps, .ref o_firstRows, .ref o_rowSteps, .ref o_samples, .ref o_draft, .ref o_line, .ref o_above, .ref o_rest, .ref o_seen, .ref o_encoded, .int o_encodedSize, .ref o_chosen, .ref o_feed, .int o_feedSize, .ref o_colours, .int o_colourCount])), (o_firstColumns, .inl (G.2.1, o_firstColumnsN, .inl o_firstColumnsF)), (o_columnSteps, .inl (G.2.1, o_columnStepsN, .inl o_columnStepsF)), (o_firstRows, .inl (G.2.1, o_firstRowsN, .inl o_firstRowsF)), (o_rowSteps, .inl (G.2.1, o_rowStepsN, .inl o_rowStepsF)), (o_samples, .inl (G.2.1, o_samplesN, .inl o_samplesF)), (o_draft, .inl (G.2.1, o_draftN, .inl o_draftF)), (o_line, .inl (G.2.1, o_lineN, .inl o_lineF)), (o_above, .inl (G.2.1, o_aboveN, .inl o_aboveF)), (o_rest, .inl (G.2.1, o_restN, .inl o_restF)), (o_seen, .inl (G.2.2.1, o_seenN, .inl o_seenF)), (o_encoded, .inl (G.2.1, o_encodedN, .inl o_encodedF)), (o_chosen, .inl (G.2.1, o_chosenN, .inl o_chosenF)), (o_feed, .inl (G.2.1, o_feedN, .inl o_feedF)), (o_colours, .inl (G.2.1, o_coloursN, .inl o_coloursF))] H locs → lv_has ls 4 [(0, .ref o), (1, .int y1), (2, .int y2), (3, .int y3)] → (∀ (H : Heap) (locs : List Loc) (ls : Array Slot), xW G true A s [(o, .inr (5, [.int o_thrown, .int o_width, .int o_height, .int o_bits, .int o_channels, .int o_step, .ref o_firstColumns, .ref o_columnSteps, .ref o_firstRows, .ref o_rowSteps, .ref o_samples, .ref o_draft, .ref o_line, .ref o_above, .ref o_rest, .ref o_seen, .ref o_encoded, .int o_encodedSize, .ref o_chosen, .ref o_feed, .int o_feedSize, .ref o_colours, .int o_colourCount])), (o_firstColumns, .inl (G.2.1, o_firstColumnsN, .inl o_firstColumnsF)), (o_columnSteps, .inl (G.2.1, o_columnStepsN, .inl o_columnStepsF)), (o_firstRows, .inl (G.2.1, o_firstRowsN, .inl o_firstRowsF)), (o_rowSteps, .inl (G.2.1, o_rowStepsN, .inl o_rowStepsF)), (o_samples, .inl (G.2.1, o_samplesN, .inl o_samplesF)), (o_draft, .inl (G.2.1, o_draftN, .inl o_draftF)), (o_line, .inl (G.2.1, o_lineN, .inl o_lineF)), (o_above, .inl (G.2.1, o_aboveN, .inl o_aboveF)), (o_rest, .inl (G.2.1, o_restN, .inl z_o_restF)), (o_seen, .inl (G.2.2.1, o_seenN, .inl o_seenF)), (o_encoded, .inl (G.2.1, o_encodedN, .inl o_encodedF)), (o_chosen, .inl (G.2.1, o_chosenN, .inl o_chosenF)), (o_feed, .inl (G.2.1, o_feedN, .inl o_feedF)), (o_colours, .inl (G.2.1, o_coloursN, .inl o_coloursF))] H locs → lv_has ls 4 [(0, .ref o), (1, .int y1), (2, .int y2), (3, .int z3)] → W p l e rm_X5_filter s m args below meth c H locs 0 0 Q (F0 m 58 ls [])) → W p l e rm_X5_filter s m args below meth c H locs 0 0 Q (F0 m 2 ls []) := by
  obtain ⟨hx, hb, hr, hml, hown, hts, hlk⟩ := id C0
  intro n
  induction n with
  | zero =>
    intro o o_thrown o_width o_height o_bits o_channels o_step o_firstColumns o_firstColumnsN o_firstColumnsF o_columnSteps o_columnStepsN o_columnStepsF o_firstRows o_firstRowsN o_firstRowsF o_rowSteps o_rowStepsN o_rowStepsF o_samples o_samplesN o_samplesF o_draft o_draftN o_draftF o_line o_lineN o_lineF o_above o_aboveN o_aboveF o_rest o_restN o_restF o_seen o_seenN o_seenF o_encoded o_encodedN o_encodedF o_encodedSize o_chosen o_chosenN o_chosenF o_feed o_feedN o_feedF o_feedSize o_colours o_coloursN o_coloursF o_colourCount y1 y2 y3 z3 z_o_restF h
    rw [fl_X5_filter_2] at h
    cases h
  | succ n ih =>
    intro o o_thrown o_width o_height o_bits o_channels o_step o_firstColumns o_firstColumnsN o_firstColumnsF o_columnSteps o_columnStepsN o_columnStepsF o_firstRows o_firstRowsN o_firstRowsF o_rowSteps o_rowStepsN o_rowStepsF o_samples o_samplesN o_samplesF o_draft o_draftN o_draftF o_line o_lineN o_lineF o_above o_aboveN o_aboveF o_rest o_restN o_restF o_seen o_seenN o_seenF o_encoded o_encodedN o_encodedF o_encodedSize o_chosen o_chosenN o_chosenF o_feed o_feedN o_feedF o_feedSize o_colours o_coloursN o_coloursF o_colourCount y1 y2 y3 z3 z_o_restF h H locs ls B hl K
    rw [fl_X5_filter_2] at h
    refine lv_iload_n hx hb dX5_filter_2 rfl (lv_at hl 3 rfl) ?_
    refine lv_iload_n hx hb dX5_filter_3 rfl (lv_at hl 2 rfl) ?_
    refine lv_icmp_ge (tgt := 58) hx hb dX5_filter_4 (by decide) (fun c_1 => ?_) (fun c_1 => ?_)
    · have h := oif_t h c_1
      obtain ⟨g1, k1⟩ := Prod.mk.inj (Option.some.inj h)
      subst g1 k1
      exact K H locs ls (B.sub [0, 1, 2, 3, 4, 5, 6, 7, 8, 9, 10, 11, 12, 13, 14] rfl rfl) (lv_sub hl [0, 1, 2, 3] rfl)
    · have h := oif_f h c_1
      refine lv_aload_n hx hb dX5_filter_7 rfl (lv_at hl 0 rfl) ?_
      refine xget (v := .ref o_rest) C0 B inX5 0 rfl rfl 14 (by decide) wd_397 rfl dX5_filter_8 ?_
      refine lv_iload_n hx hb dX5_filter_11 rfl (lv_at hl 3 rfl) ?_
      refine lv_aload_n hx hb dX5_filter_12 rfl (lv_at hl 0 rfl) ?_
      refine xget (v := .ref o_line) C0 B inX5 0 rfl rfl 12 (by decide) wd_395 rfl dX5_filter_13 ?_
      refine lv_iload_n hx hb dX5_filter_16 rfl (lv_at hl 3 rfl) ?_
      obtain ⟨b_2, h⟩ := xin_spec h
      refine xiald C0 B 7 rfl b_2 dX5_filter_17 ?_
      refine lv_iload_n hx hb dX5_filter_18 rfl (lv_at hl 1 rfl) ?_
      refine lv_aload_n hx hb dX5_filter_19 rfl (lv_at hl 0 rfl) ?_
      refine lv_aload_n hx hb dX5_filter_20 rfl (lv_at hl 0 rfl) ?_
      refine xget (v := .ref o_line) C0 B inX5 0 rfl rfl 12 (by decide) wd_395 rfl dX5_filter_21 ?_
      refine lv_iload_n hx hb dX5_filter_24 rfl (lv_at hl 3 rfl) ?_
      obtain ⟨r_3, e_4, h⟩ := xb_spec h
      refine xcallR (wc := [(o, .inr (5, [.int o_thrown, .int o_width, .int o_height, .int o_bits, .int o_channels, .int o_step, .ref o_firstColumns, .ref o_columnSteps, .ref o_firstRows, .ref o_rowSteps, .ref o_samples, .ref o_draft, .ref o_line, .ref o_above, .ref o_rest, .ref o_seen, .ref o_encoded, .int o_encodedSize, .ref o_chosen, .ref o_feed, .int o_feedSize, .ref o_colours, .int o_colourCount])), (o_firstColumns, .inl (G.2.1, o_firstColumnsN, .inl o_firstColumnsF)), (o_columnSteps, .inl (G.2.1, o_columnStepsN, .inl o_columnStepsF)), (o_firstRows, .inl (G.2.1, o_firstRowsN, .inl o_firstRowsF)), (o_rowSteps, .inl (G.2.1, o_rowStepsN, .inl o_rowStepsF)), (o_samples, .inl (G.2.1, o_samplesN, .inl o_samplesF)), (o_draft, .inl (G.2.1, o_draftN, .inl o_draftF)), (o_line, .inl (G.2.1, o_lineN, .inl o_lineF)), (o_above, .inl (G.2.1, o_aboveN, .inl o_aboveF)), (o_rest, .inl (G.2.1, o_restN, .inl o_restF)), (o_seen, .inl (G.2.2.1, o_seenN, .inl o_seenF)), (o_encoded, .inl (G.2.1, o_encodedN, .inl o_encodedF)), (o_chosen, .inl (G.2.1, o_chosenN, .inl o_chosenF)), (o_feed, .inl (G.2.1, o_feedN, .inl o_feedF)), (o_colours, .inl (G.2.1, o_coloursN, .inl o_coloursF))]) B [0, 1, 2, 3, 4, 5, 6, 7, 8, 9, 10, 11, 12, 13, 14] rfl rfl (xrunV C0 (c_X5_before_o_line l G o o_thrown o_width o_height o_bits o_channels o_step o_firstColumns o_firstColumnsN o_firstColumnsF o_columnSteps o_columnStepsN o_columnStepsF o_firstRows o_firstRowsN o_firstRowsF o_rowSteps o_rowStepsN o_rowStepsF o_samples o_samplesN o_samplesF o_draft o_draftN o_draftF o_line o_lineN o_lineF o_above o_aboveN o_aboveF o_rest o_restN o_restF o_seen o_seenN o_seenF o_encoded o_encodedN o_encodedF o_encodedSize o_chosen o_chosenN o_chosenF o_feed o_feedN o_feedF o_feedSize o_colours o_coloursN o_coloursF o_colourCount y3 n r_3 e_4 H.size) kb_X5_before kv_X5_before wd_467 (ci := 5) rfl rfl rfl rfl rfl ⟨Nat.le_of_ble_eq_true rfl, Nat.le_of_ble_eq_true rfl⟩ rfl hl rfl (Nat.le_of_ble_eq_true rfl) dX5_filter_25 ⟨Nat.le_of_ble_eq_true rfl, Nat.le_of_ble_eq_true rfl⟩) (fun H locs B => ?_)
      refine lv_aload_n hx hb dX5_filter_28 rfl (lv_at hl 0 rfl) ?_
      refine xget (v := .ref o_above) C0 B inX5 0 rfl rfl 13 (by decide) wd_396 rfl dX5_filter_29 ?_
      refine lv_iload_n hx hb dX5_filter_32 rfl (lv_at hl 3 rfl) ?_
      obtain ⟨b_5, h⟩ := xin_spec h
      refine xiald C0 B 8 rfl b_5 dX5_filter_33 ?_
      refine lv_aload_n hx hb dX5_filter_34 rfl (lv_at hl 0 rfl) ?_
      refine lv_aload_n hx hb dX5_filter_35 rfl (lv_at hl 0 rfl) ?_
      refine xget (v := .ref o_above) C0 B inX5 0 rfl rfl 13 (by decide) wd_396 rfl dX5_filter_36 ?_
      refine lv_iload_n hx hb dX5_filter_39 rfl (lv_at hl 3 rfl) ?_
      obtain ⟨r_6, e_7, h⟩ := xb_spec h
      refine xcallR (wc := [(o, .inr (5, [.int o_thrown, .int o_width, .int o_height, .int o_bits, .int o_channels, .int o_step, .ref o_firstColumns, .ref o_columnSteps, .ref o_firstRows, .ref o_rowSteps, .ref o_samples, .ref o_draft, .ref o_line, .ref o_above, .ref o_rest, .ref o_seen, .ref o_encoded, .int o_encodedSize, .ref o_chosen, .ref o_feed, .int o_feedSize, .ref o_colours, .int o_colourCount])), (o_firstColumns, .inl (G.2.1, o_firstColumnsN, .inl o_firstColumnsF)), (o_columnSteps, .inl (G.2.1, o_columnStepsN, .inl o_columnStepsF)), (o_firstRows, .inl (G.2.1, o_firstRowsN, .inl o_firstRowsF)), (o_rowSteps, .inl (G.2.1, o_rowStepsN, .inl o_rowStepsF)), (o_samples, .inl (G.2.1, o_samplesN, .inl o_samplesF)), (o_draft, .inl (G.2.1, o_draftN, .inl o_draftF)), (o_line, .inl (G.2.1, o_lineN, .inl o_lineF)), (o_above, .inl (G.2.1, o_aboveN, .inl o_aboveF)), (o_rest, .inl (G.2.1, o_restN, .inl o_restF)), (o_seen, .inl (G.2.2.1, o_seenN, .inl o_seenF)), (o_encoded, .inl (G.2.1, o_encodedN, .inl o_encodedF)), (o_chosen, .inl (G.2.1, o_chosenN, .inl o_chosenF)), (o_feed, .inl (G.2.1, o_feedN, .inl o_feedF)), (o_colours, .inl (G.2.1, o_coloursN, .inl o_coloursF))]) B [0, 1, 2, 3, 4, 5, 6, 7, 8, 9, 10, 11, 12, 13, 14] rfl rfl (xrunV C0 (c_X5_before_o_above l G o o_thrown o_width o_height o_bits o_channels o_step o_firstColumns o_firstColumnsN o_firstColumnsF o_columnSteps o_columnStepsN o_columnStepsF o_firstRows o_firstRowsN o_firstRowsF o_rowSteps o_rowStepsN o_rowStepsF o_samples o_samplesN o_samplesF o_draft o_draftN o_draftF o_line o_lineN o_lineF o_above o_aboveN o_aboveF o_rest o_restN o_restF o_seen o_seenN o_seenF o_encoded o_encodedN o_encodedF o_encodedSize o_chosen o_chosenN o_chosenF o_feed o_feedN o_feedF o_feedSize o_colours o_coloursN o_coloursF o_colourCount y3 n r_6 e_7 H.size) kb_X5_before kv_X5_before wd_467 (ci := 5) rfl rfl rfl rfl rfl ⟨Nat.le_of_ble_eq_true rfl, Nat.le_of_ble_eq_true rfl⟩ rfl hl rfl (Nat.le_of_ble_eq_true rfl) dX5_filter_40 ⟨Nat.le_of_ble_eq_true rfl, Nat.le_of_ble_eq_true rfl⟩) (fun H locs B => ?_)
      obtain ⟨r_8, e_9, h⟩ := xb_spec h
      refine xcallR (wc := []) B [] rfl rfl (xrunS C0 (c_X5_with l G  y1 r_3 (o_aboveF (y3).toNatClampNeg) r_6 n r_8 e_9 H.size) kb_X5_with kv_X5_with wd_468 rfl rfl ⟨Nat.le_of_ble_eq_true rfl, Nat.le_of_ble_eq_true rfl⟩ rfl hl rfl (Nat.le_of_ble_eq_true rfl) dX5_filter_43 ⟨Nat.le_of_ble_eq_true rfl, Nat.le_of_ble_eq_true rfl⟩) (fun H locs B => ?_)
      refine lv_isub hx hb dX5_filter_46 ?_
      refine lv_sipush (v := 255) hx hb dX5_filter_47 (by decide) ?_
      refine lv_iand hx hb dX5_filter_50 ?_
      obtain ⟨b_10, h⟩ := xin_spec h
      refine xiast (ws' := [(o, .inr (5, [.int o_thrown, .int o_width, .int o_height, .int o_bits, .int o_channels, .int o_step, .ref o_firstColumns, .ref o_columnSteps, .ref o_firstRows, .ref o_rowSteps, .ref o_samples, .ref o_draft, .ref o_line, .ref o_above, .ref o_rest, .ref o_seen, .ref o_encoded, .int o_encodedSize, .ref o_chosen, .ref o_feed, .int o_feedSize, .ref o_colours, .int o_colourCount])), (o_firstColumns, .inl (G.2.1, o_firstColumnsN, .inl o_firstColumnsF)), (o_columnSteps, .inl (G.2.1, o_columnStepsN, .inl o_columnStepsF)), (o_firstRows, .inl (G.2.1, o_firstRowsN, .inl o_firstRowsF)), (o_rowSteps, .inl (G.2.1, o_rowStepsN, .inl o_rowStepsF)), (o_samples, .inl (G.2.1, o_samplesN, .inl o_samplesF)), (o_draft, .inl (G.2.1, o_draftN, .inl o_draftF)), (o_line, .inl (G.2.1, o_lineN, .inl o_lineF)), (o_above, .inl (G.2.1, o_aboveN, .inl o_aboveF)), (o_rest, .inl (G.2.1, o_restN, .inl (upd o_restF (y3).toNatClampNeg (((o_lineF (y3).toNatClampNeg) - r_8) &&& (255 : Int32))))), (o_seen, .inl (G.2.2.1, o_seenN, .inl o_seenF)), (o_encoded, .inl (G.2.1, o_encodedN, .inl o_encodedF)), (o_chosen, .inl (G.2.1, o_chosenN, .inl o_chosenF)), (o_feed, .inl (G.2.1, o_feedN, .inl o_feedF)), (o_colours, .inl (G.2.1, o_coloursN, .inl o_coloursF))]) C0 B 9 rfl b_10 rfl dX5_filter_51 (fun H locs B => ?_)
      refine lv_iinc (v := (y3 + (1 : Int32))) (lv' := [(3, .int (y3 + (1 : Int32))), (0, .ref o), (1, .int y1), (2, .int y2)]) hx hb dX5_filter_52 hl (k := 3) rfl rfl (by decide) rfl (fun ls hl => ?_)
      refine lv_goto (tgt := 2) hx hb dX5_filter_55 (by decide) ?_
      exact ih o o_thrown o_width o_height o_bits o_channels o_step o_firstColumns o_firstColumnsN o_firstColumnsF o_columnSteps o_columnStepsN o_columnStepsF o_firstRows o_firstRowsN o_firstRowsF o_rowSteps o_rowStepsN o_rowStepsF o_samples o_samplesN o_samplesF o_draft o_draftN o_draftF o_line o_lineN o_lineF o_above o_aboveN o_aboveF o_rest o_restN (upd o_restF (y3).toNatClampNeg (((o_lineF (y3).toNatClampNeg) - r_8) &&& (255 : Int32))) o_seen o_seenN o_seenF o_encoded o_encodedN o_encodedF o_encodedSize o_chosen o_chosenN o_chosenF o_feed o_feedN o_feedF o_feedSize o_colours o_coloursN o_coloursF o_colourCount y1 y2 (y3 + (1 : Int32)) _ _ h H locs ls (B.sub [0, 1, 2, 3, 4, 5, 6, 7, 8, 9, 10, 11, 12, 13, 14] rfl rfl) (lv_sub hl [1, 2, 3, 0] rfl) K
set_option maxHeartbeats 4000000 in
set_option maxRecDepth 100000 in
theorem c_X5_filter (l : Launch) (G : xG) (o : Nat) (o_thrown : Int32) (o_width : Int32) (o_height : Int32) (o_bits : Int32) (o_channels : Int32) (o_step : Int32) (o_firstColumns : Nat) (o_firstColumnsN : Nat) (o_firstColumnsF : Nat → Int32) (o_columnSteps : Nat) (o_columnStepsN : Nat) (o_columnStepsF : Nat → Int32) (o_firstRows : Nat) (o_firstRowsN : Nat) (o_firstRowsF : Nat → Int32) (o_rowSteps : Nat) (o_rowStepsN : Nat) (o_rowStepsF : Nat → Int32) (o_samples : Nat) (o_samplesN : Nat) (o_samplesF : Nat → Int32) (o_draft : Nat) (o_draftN : Nat) (o_draftF : Nat → Int32) (o_line : Nat) (o_lineN : Nat) (o_lineF : Nat → Int32) (o_above : Nat) (o_aboveN : Nat) (o_aboveF : Nat → Int32) (o_rest : Nat) (o_restN : Nat) (o_restF : Nat → Int32) (o_seen : Nat) (o_seenN : Nat) (o_seenF : Nat → Int32) (o_encoded : Nat) (o_encodedN : Nat) (o_encodedF : Nat → Int32) (o_encodedSize : Int32) (o_chosen : Nat) (o_chosenN : Nat) (o_chosenF : Nat → Int32) (o_feed : Nat) (o_feedN : Nat) (o_feedF : Nat → Int32) (o_feedSize : Int32) (o_colours : Nat) (o_coloursN : Nat) (o_coloursF : Nat → Int32) (o_colourCount : Int32) (x1 : Int32) (x2 : Int32) (n : Nat) (z_o_restF : Nat → Int32) (hF : f_X5_filter n o_step o_lineN o_lineF o_aboveN o_aboveF o_restN o_restF x1 x2 = some z_o_restF) (sz : Nat) : Met l yX5_filter (xws yX5_filter cX5_filter 4 none) rm_X5_filter (va_Pc [.ref o, .int x1, .int x2] (xPre G [(o, .inr (5, [.int o_thrown, .int o_width, .int o_height, .int o_bits, .int o_channels, .int o_step, .ref o_firstColumns, .ref o_columnSteps, .ref o_firstRows, .ref o_rowSteps, .ref o_samples, .ref o_draft, .ref o_line, .ref o_above, .ref o_rest, .ref o_seen, .ref o_encoded, .int o_encodedSize, .ref o_chosen, .ref o_feed, .int o_feedSize, .ref o_colours, .int o_colourCount])), (o_firstColumns, .inl (G.2.1, o_firstColumnsN, .inl o_firstColumnsF)), (o_columnSteps, .inl (G.2.1, o_columnStepsN, .inl o_columnStepsF)), (o_firstRows, .inl (G.2.1, o_firstRowsN, .inl o_firstRowsF)), (o_rowSteps, .inl (G.2.1, o_rowStepsN, .inl o_rowStepsF)), (o_samples, .inl (G.2.1, o_samplesN, .inl o_samplesF)), (o_draft, .inl (G.2.1, o_draftN, .inl o_draftF)), (o_line, .inl (G.2.1, o_lineN, .inl o_lineF)), (o_above, .inl (G.2.1, o_aboveN, .inl o_aboveF)), (o_rest, .inl (G.2.1, o_restN, .inl o_restF)), (o_seen, .inl (G.2.2.1, o_seenN, .inl o_seenF)), (o_encoded, .inl (G.2.1, o_encodedN, .inl o_encodedF)), (o_chosen, .inl (G.2.1, o_chosenN, .inl o_chosenF)), (o_feed, .inl (G.2.1, o_feedN, .inl o_feedF)), (o_colours, .inl (G.2.1, o_coloursN, .inl o_coloursF))] sz)) (xQ G none [(o, .inr (5, [.int o_thrown, .int o_width, .int o_height, .int o_bits, .int o_channels, .int o_step, .ref o_firstColumns, .ref o_columnSteps, .ref o_firstRows, .ref o_rowSteps, .ref o_samples, .ref o_draft, .ref o_line, .ref o_above, .ref o_rest, .ref o_seen, .ref o_encoded, .int o_encodedSize, .ref o_chosen, .ref o_feed, .int o_feedSize, .ref o_colours, .int o_colourCount])), (o_firstColumns, .inl (G.2.1, o_firstColumnsN, .inl o_firstColumnsF)), (o_columnSteps, .inl (G.2.1, o_columnStepsN, .inl o_columnStepsF)), (o_firstRows, .inl (G.2.1, o_firstRowsN, .inl o_firstRowsF)), (o_rowSteps, .inl (G.2.1, o_rowStepsN, .inl o_rowStepsF)), (o_samples, .inl (G.2.1, o_samplesN, .inl o_samplesF)), (o_draft, .inl (G.2.1, o_draftN, .inl o_draftF)), (o_line, .inl (G.2.1, o_lineN, .inl o_lineF)), (o_above, .inl (G.2.1, o_aboveN, .inl o_aboveF)), (o_rest, .inl (G.2.1, o_restN, .inl z_o_restF)), (o_seen, .inl (G.2.2.1, o_seenN, .inl o_seenF)), (o_encoded, .inl (G.2.1, o_encodedN, .inl o_encodedF)), (o_chosen, .inl (G.2.1, o_chosenN, .inl o_chosenF)), (o_feed, .inl (G.2.1, o_feedN, .inl o_feedF)), (o_colours, .inl (G.2.1, o_coloursN, .inl o_coloursF))] (va_A [(o, .inr (5, [.int o_thrown, .int o_width, .int o_height, .int o_bits, .int o_channels, .int o_step, .ref o_firstColumns, .ref o_columnSteps, .ref o_firstRows, .ref o_rowSteps, .ref o_samples, .ref o_draft, .ref o_line, .ref o_above, .ref o_rest, .ref o_seen, .ref o_encoded, .int o_encodedSize, .ref o_chosen, .ref o_feed, .int o_feedSize, .ref o_colours, .int o_colourCount])), (o_firstColumns, .inl (G.2.1, o_firstColumnsN, .inl o_firstColumnsF)), (o_columnSteps, .inl (G.2.1, o_columnStepsN, .inl o_columnStepsF)), (o_firstRows, .inl (G.2.1, o_firstRowsN, .inl o_firstRowsF)), (o_rowSteps, .inl (G.2.1, o_rowStepsN, .inl o_rowStepsF)), (o_samples, .inl (G.2.1, o_samplesN, .inl o_samplesF)), (o_draft, .inl (G.2.1, o_draftN, .inl o_draftF)), (o_line, .inl (G.2.1, o_lineN, .inl o_lineF)), (o_above, .inl (G.2.1, o_aboveN, .inl o_aboveF)), (o_rest, .inl (G.2.1, o_restN, .inl o_restF)), (o_seen, .inl (G.2.2.1, o_seenN, .inl o_seenF)), (o_encoded, .inl (G.2.1, o_encodedN, .inl o_encodedF)), (o_chosen, .inl (G.2.1, o_chosenN, .inl o_chosenF)), (o_feed, .inl (G.2.1, o_feedN, .inl o_feedF)), (o_colours, .inl (G.2.1, o_coloursN, .inl o_coloursF))] sz)) 0 0 (va_A [(o, .inr (5, [.int o_thrown, .int o_width, .int o_height, .int o_bits, .int o_channels, .int o_step, .ref o_firstColumns, .ref o_columnSteps, .ref o_firstRows, .ref o_rowSteps, .ref o_samples, .ref o_draft, .ref o_line, .ref o_above, .ref o_rest, .ref o_seen, .ref o_encoded, .int o_encodedSize, .ref o_chosen, .ref o_feed, .int o_feedSize, .ref o_colours, .int o_colourCount])), (o_firstColumns, .inl (G.2.1, o_firstColumnsN, .inl o_firstColumnsF)), (o_columnSteps, .inl (G.2.1, o_columnStepsN, .inl o_columnStepsF)), (o_firstRows, .inl (G.2.1, o_firstRowsN, .inl o_firstRowsF)), (o_rowSteps, .inl (G.2.1, o_rowStepsN, .inl o_rowStepsF)), (o_samples, .inl (G.2.1, o_samplesN, .inl o_samplesF)), (o_draft, .inl (G.2.1, o_draftN, .inl o_draftF)), (o_line, .inl (G.2.1, o_lineN, .inl o_lineF)), (o_above, .inl (G.2.1, o_aboveN, .inl o_aboveF)), (o_rest, .inl (G.2.1, o_restN, .inl o_restF)), (o_seen, .inl (G.2.2.1, o_seenN, .inl o_seenF)), (o_encoded, .inl (G.2.1, o_encodedN, .inl o_encodedF)), (o_chosen, .inl (G.2.1, o_chosenN, .inl o_chosenF)), (o_feed, .inl (G.2.1, o_feedN, .inl o_feedF)), (o_colours, .inl (G.2.1, o_coloursN, .inl o_coloursF))] sz) := by
  refine xMetQ (by decide) (Nat.le_of_ble_eq_true rfl) ?_
  intro p e s m below meth c ls A H locs C0 hnm B hl
  have hl : lv_has ls 4 [(0, .ref o), (1, .int x1), (2, .int x2)] := hl
  have h := hF
  unfold f_X5_filter at h
  obtain ⟨hx, hb, hr, hml, hown, hts, hlk⟩ := id C0
  refine lv_iconst (v := 0) hx hb dX5_filter_0 (by decide) ?_
  refine lv_istore_n (lv' := [(3, .int (0 : Int32)), (0, .ref o), (1, .int x1), (2, .int x2)]) hx hb dX5_filter_1 rfl hl (by decide) rfl (fun ls hl => ?_)
  obtain ⟨⟨v_1, w_2⟩, e_3, h⟩ := xb_spec h
  refine lo_X5_filter_2 C0 n o o_thrown o_width o_height o_bits o_channels o_step o_firstColumns o_firstColumnsN o_firstColumnsF o_columnSteps o_columnStepsN o_columnStepsF o_firstRows o_firstRowsN o_firstRowsF o_rowSteps o_rowStepsN o_rowStepsF o_samples o_samplesN o_samplesF o_draft o_draftN o_draftF o_line o_lineN o_lineF o_above o_aboveN o_aboveF o_rest o_restN o_restF o_seen o_seenN o_seenF o_encoded o_encodedN o_encodedF o_encodedSize o_chosen o_chosenN o_chosenF o_feed o_feedN o_feedF o_feedSize o_colours o_coloursN o_coloursF o_colourCount x1 x2 (0 : Int32) v_1 w_2 e_3 H locs ls (B.sub [0, 1, 2, 3, 4, 5, 6, 7, 8, 9, 10, 11, 12, 13, 14] rfl rfl) (lv_sub hl [1, 2, 3, 0] rfl) (fun H locs ls B hl => ?_)
  obtain rfl := Option.some.inj h
  exact xretv C0 B [0, 1, 2, 3, 4, 5, 6, 7, 8, 9, 10, 11, 12, 13, 14] rfl rfl dX5_filter_58
/-! FilterRowsModel.build(II[I)V -/
abbrev rm_X5_build_o_line : Room := { frames := 1, cells := 0, slots := 0, locals := 21 }
def fl_X5_build_o_line_3 : Nat → Nat → (Nat → Int32) → Int32 → Int32 → Int32 → Option (Int32 × (Nat → Int32))
  | 0, _, _, _, _, _ => none
  | n + 1, o_lineN, o_lineF, y1, y2, y4 => (if (140 : Int32) ≤ y4 then some (y4, o_lineF) else xin y4 o_lineN (fl_X5_build_o_line_3 n o_lineN (upd o_lineF (y4).toNatClampNeg (0 : Int32)) y1 y2 (y4 + (1 : Int32))))
def fl_X5_build_o_line_97 : Nat → Nat → (Nat → Int32) → Nat → (Nat → Int32) → Int32 → Int32 → Int32 → Int32 → Int32 → Int32 → Int32 → Int32 → Option (Int32 × Int32 × (Nat → Int32))
  | 0, _, _, _, _, _, _, _, _, _, _, _, _ => none
  | n + 1, o_samplesN, o_samplesF, o_lineN, o_lineF, y1, y2, y4, y5, y6, y7, y8, y9 => (if y9 < 0 then some (y4, y9, o_lineF) else xb (f_X5_place n y6 y7) (fun r_2 => xin (r_2 + y8) o_samplesN (xl (((o_samplesF ((r_2 + y8)).toNatClampNeg) >>> (y9 &&& 31)) &&& (1 : Int32)) (fun s_5 => xnz (8 : Int32) (xnz (8 : Int32) (xin (y4 / (8 : Int32)) o_lineN (xnz (8 : Int32) (xin (y4 / (8 : Int32)) o_lineN (fl_X5_build_o_line_97 n o_samplesN o_samplesF o_lineN (upd o_lineF ((y4 / (8 : Int32))).toNatClampNeg ((o_lineF ((y4 / (8 : Int32))).toNatClampNeg) ||| (s_5 <<< (((7 : Int32) - (y4 - y4 / (8 : Int32) * (8 : Int32))) &&& 31)))) y1 y2 (y4 + (1 : Int32)) y5 y6 y7 y8 (y9 + (-1 : Int32)))))))))))
def fl_X5_build_o_line_80 : Nat → Int32 → Int32 → Nat → (Nat → Int32) → Nat → (Nat → Int32) → Int32 → Int32 → Int32 → Int32 → Int32 → Int32 → Int32 → Option (Int32 × Int32 × (Nat → Int32))
  | 0, _, _, _, _, _, _, _, _, _, _, _, _, _ => none
  | n + 1, o_bits, o_channels, o_samplesN, o_samplesF, o_lineN, o_lineF, y1, y2, y4, y5, y6, y7, y8 => (if o_channels ≤ y8 then some (y4, y8, o_lineF) else xb (fl_X5_build_o_line_97 n o_samplesN o_samplesF o_lineN o_lineF y1 y2 y4 y5 y6 y7 y8 (o_bits - (1 : Int32))) (fun (v_2, v_3, w_4) => fl_X5_build_o_line_80 n o_bits o_channels o_samplesN o_samplesF o_lineN w_4 y1 y2 v_2 y5 y6 y7 (y8 + (1 : Int32))))
def fl_X5_build_o_line_28 : Nat → Int32 → Int32 → Int32 → Nat → (Nat → Int32) → Nat → (Nat → Int32) → Nat → (Nat → Int32) → Nat → (Nat → Int32) → Nat → (Nat → Int32) → Nat → (Nat → Int32) → Int32 → Int32 → Int32 → Int32 → Option (Int32 × Int32 × (Nat → Int32))
  | 0, _, _, _, _, _, _, _, _, _, _, _, _, _, _, _, _, _, _, _ => none
  | n + 1, o_width, o_bits, o_channels, o_firstColumnsN, o_firstColumnsF, o_columnStepsN, o_columnStepsF, o_firstRowsN, o_firstRowsF, o_rowStepsN, o_rowStepsF, o_samplesN, o_samplesF, o_lineN, o_lineF, y1, y2, y4, y5 => xb (f_X5_wide n o_width o_firstColumnsN o_firstColumnsF o_columnStepsN o_columnStepsF y1) (fun r_1 => (if r_1 ≤ y5 then some (y4, y5, o_lineF) else (if y2 < 0 then some (y4, y5, o_lineF) else xin y1 o_firstColumnsN (xin y1 o_columnStepsN (xl ((o_firstColumnsF (y1).toNatClampNeg) + (y5 * (o_columnStepsF (y1).toNatClampNeg))) (fun s_7 => xin y1 o_firstRowsN (xin y1 o_rowStepsN (xl ((o_firstRowsF (y1).toNatClampNeg) + (y2 * (o_rowStepsF (y1).toNatClampNeg))) (fun s_10 => xb (fl_X5_build_o_line_80 n o_bits o_channels o_samplesN o_samplesF o_lineN o_lineF y1 y2 y4 y5 s_7 s_10 (0 : Int32)) (fun (v_11, v_12, w_13) => fl_X5_build_o_line_28 n o_width o_bits o_channels o_firstColumnsN o_firstColumnsF o_columnStepsN o_columnStepsF o_firstRowsN o_firstRowsF o_rowStepsN o_rowStepsF o_samplesN o_samplesF o_lineN w_13 y1 y2 v_11 (y5 + (1 : Int32))))))))))))
def f_X5_build_o_line (n : Nat) (o_width : Int32) (o_bits : Int32) (o_channels : Int32) (o_firstColumnsN : Nat) (o_firstColumnsF : Nat → Int32) (o_columnStepsN : Nat) (o_columnStepsF : Nat → Int32) (o_firstRowsN : Nat) (o_firstRowsF : Nat → Int32) (o_rowStepsN : Nat) (o_rowStepsF : Nat → Int32) (o_samplesN : Nat) (o_samplesF : Nat → Int32) (o_lineN : Nat) (o_lineF : Nat → Int32) (x1 : Int32) (x2 : Int32) : Option (Nat → Int32) := xb (fl_X5_build_o_line_3 n o_lineN o_lineF x1 x2 (0 : Int32)) (fun (v_1, w_2) => xb (fl_X5_build_o_line_28 n o_width o_bits o_channels o_firstColumnsN o_firstColumnsF o_columnStepsN o_columnStepsF o_firstRowsN o_firstRowsF o_rowStepsN o_rowStepsF o_samplesN o_samplesF o_lineN w_2 x1 x2 (0 : Int32) (0 : Int32)) (fun (v_3, v_4, w_5) => some w_5))
set_option maxHeartbeats 4000000 in
set_option maxRecDepth 100000 in
theorem lo_X5_build_o_line_3 {p : Program} {l : Launch} {e : Env} {s : State} {m : MethodId} {args : Array Value} {below : List Frame} {meth : Method} {c : Code} {Q : State → Prop} {G : xG} {A : Nat → Prop} (C0 : xC p s m args meth c "FilterRowsModel" cX5_build 11 none) : ∀ (n : Nat) (o : Nat) (o_thrown : Int32) (o_width : Int32) (o_height : Int32) (o_bits : Int32) (o_channels : Int32) (o_step : Int32) (o_firstColumns : Nat) (o_firstColumnsN : Nat) (o_firstColumnsF : Nat → Int32) (o_columnSteps : Nat) (o_columnStepsN : Nat) (o_columnStepsF : Nat → Int32) (o_firstRows : Nat) (o_firstRowsN : Nat) (o_firstRowsF : Nat → Int32) (o_rowSteps : Nat) (o_rowStepsN : Nat) (o_rowStepsF : Nat → Int32) (o_samples : Nat) (o_samplesN : Nat) (o_samplesF : Nat → Int32) (o_draft : Nat) (o_draftN : Nat) (o_draftF : Nat → Int32) (o_line : Nat) (o_lineN : Nat) (o_lineF : Nat → Int32) (o_above : Nat) (o_aboveN : Nat) (o_aboveF : Nat → Int32) (o_rest : Nat) (o_restN : Nat) (o_restF : Nat → Int32) (o_seen : Nat) (o_seenN : Nat) (o_seenF : Nat → Int32) (o_encoded : Nat) (o_encodedN : Nat) (o_encodedF : Nat → Int32) (o_encodedSize : Int32) (o_chosen : Nat) (o_chosenN : Nat) (o_chosenF : Nat → Int32) (o_feed : Nat) (o_feedN : Nat) (o_feedF : Nat → Int32) (o_feedSize : Int32) (o_colours : Nat) (o_coloursN : Nat) (o_coloursF : Nat → Int32) (o_colourCount : Int32) (y1 : Int32) (y2 : Int32) (y4 : Int32) (z4 : Int32) (z_o_lineF : Nat → Int32), fl_X5_build_o_line_3 n o_lineN o_lineF y1 y2 y4 = some (z4, z_o_lineF) → ∀ (H : Heap) (locs : List Loc) (ls : Array Slot), xW G true A s [(o, .inr (5, [.int o_thrown, .int o_width, .int o_height, .int o_bits, .int o_channels, .int o_step, .ref o_firstColumns, .ref o_columnSteps, .ref o_firstRows, .ref o_rowSteps, .ref o_samples, .ref o_draft, .ref o_line, .ref o_above, .ref o_rest, .ref o_seen, .ref o_encoded, .int o_encodedSize, .ref o_chosen, .ref o_feed, .int o_feedSize, .ref o_colours, .int o_colourCount])), (o_firstColumns, .inl (G.2.1, o_firstColumnsN, .inl o_firstColumnsF)), (o_columnSteps, .inl (G.2.1, o_columnStepsN, .inl o_columnStepsF)), (o_firstRows, .inl (G.2.1, o_firstRowsN, .inl o_firstRowsF)), (o_rowSteps, .inl (G.2.1, o_rowStepsN, .inl o_rowStepsF)), (o_samples, .inl (G.2.1, o_samplesN, .inl o_samplesF)), (o_draft, .inl (G.2.1, o_draftN, .inl o_draftF)), (o_line, .inl (G.2.1, o_lineN, .inl o_lineF)), (o_above, .inl (G.2.1, o_aboveN, .inl o_aboveF)), (o_rest, .inl (G.2.1, o_restN, .inl o_restF)), (o_seen, .inl (G.2.2.1, o_seenN, .inl o_seenF)), (o_encoded, .inl (G.2.1, o_encodedN, .inl o_encodedF)), (o_chosen, .inl (G.2.1, o_chosenN, .inl o_chosenF)), (o_feed, .inl (G.2.1, o_feedN, .inl o_feedF)), (o_colours, .inl (G.2.1, o_coloursN, .inl o_coloursF))] H locs → lv_has ls 11 [(0, .ref o), (1, .int y1), (2, .int y2), (3, .ref o_line), (4, .int y4)] → (∀ (H : Heap) (locs : List Loc) (ls : Array Slot), xW G true A s [(o, .inr (5, [.int o_thrown, .int o_width, .int o_height, .int o_bits, .int o_channels, .int o_step, .ref o_firstColumns, .ref o_columnSteps, .ref o_firstRows, .ref o_rowSteps, .ref o_samples, .ref o_draft, .ref o_line, .ref o_above, .ref o_rest, .ref o_seen, .ref o_encoded, .int o_encodedSize, .ref o_chosen, .ref o_feed, .int o_feedSize, .ref o_colours, .int o_colourCount])), (o_firstColumns, .inl (G.2.1, o_firstColumnsN, .inl o_firstColumnsF)), (o_columnSteps, .inl (G.2.1, o_columnStepsN, .inl o_columnStepsF)), (o_firstRows, .inl (G.2.1, o_firstRowsN, .inl o_firstRowsF)), (o_rowSteps, .inl (G.2.1, o_rowStepsN, .inl o_rowStepsF)), (o_samples, .inl (G.2.1, o_samplesN, .inl o_samplesF)), (o_draft, .inl (G.2.1, o_draftN, .inl o_draftF)), (o_line, .inl (G.2.1, o_lineN, .inl z_o_lineF)), (o_above, .inl (G.2.1, o_aboveN, .inl o_aboveF)), (o_rest, .inl (G.2.1, o_restN, .inl o_restF)), (o_seen, .inl (G.2.2.1, o_seenN, .inl o_seenF)), (o_encoded, .inl (G.2.1, o_encodedN, .inl o_encodedF)), (o_chosen, .inl (G.2.1, o_chosenN, .inl o_chosenF)), (o_feed, .inl (G.2.1, o_feedN, .inl o_feedF)), (o_colours, .inl (G.2.1, o_coloursN, .inl o_coloursF))] H locs → lv_has ls 11 [(0, .ref o), (1, .int y1), (2, .int y2), (3, .ref o_line), (4, .int z4)] → W p l e rm_X5_build_o_line s m args below meth c H locs 0 0 Q (F0 m 22 ls [])) → W p l e rm_X5_build_o_line s m args below meth c H locs 0 0 Q (F0 m 3 ls []) := by
  obtain ⟨hx, hb, hr, hml, hown, hts, hlk⟩ := id C0
  intro n
  induction n with
  | zero =>
    intro o o_thrown o_width o_height o_bits o_channels o_step o_firstColumns o_firstColumnsN o_firstColumnsF o_columnSteps o_columnStepsN o_columnStepsF o_firstRows o_firstRowsN o_firstRowsF o_rowSteps o_rowStepsN o_rowStepsF o_samples o_samplesN o_samplesF o_draft o_draftN o_draftF o_line o_lineN o_lineF o_above o_aboveN o_aboveF o_rest o_restN o_restF o_seen o_seenN o_seenF o_encoded o_encodedN o_encodedF o_encodedSize o_chosen o_chosenN o_chosenF o_feed o_feedN o_feedF o_feedSize o_colours o_coloursN o_coloursF o_colourCount y1 y2 y4 z4 z_o_lineF h
    rw [fl_X5_build_o_line_3] at h
    cases h
  | succ n ih =>
    intro o o_thrown o_width o_height o_bits o_channels o_step o_firstColumns o_firstColumnsN o_firstColumnsF o_columnSteps o_columnStepsN o_columnStepsF o_firstRows o_firstRowsN o_firstRowsF o_rowSteps o_rowStepsN o_rowStepsF o_samples o_samplesN o_samplesF o_draft o_draftN o_draftF o_line o_lineN o_lineF o_above o_aboveN o_aboveF o_rest o_restN o_restF o_seen o_seenN o_seenF o_encoded o_encodedN o_encodedF o_encodedSize o_chosen o_chosenN o_chosenF o_feed o_feedN o_feedF o_feedSize o_colours o_coloursN o_coloursF o_colourCount y1 y2 y4 z4 z_o_lineF h H locs ls B hl K
    rw [fl_X5_build_o_line_3] at h
    refine lv_iload hx hb dX5_build_3 (lv_at hl 4 rfl) ?_
    refine lv_sipush (v := 140) hx hb dX5_build_5 (by decide) ?_
    refine lv_icmp_ge (tgt := 22) hx hb dX5_build_8 (by decide) (fun c_1 => ?_) (fun c_1 => ?_)
    · have h := oif_t h c_1
      obtain ⟨g1, k1⟩ := Prod.mk.inj (Option.some.inj h)
      subst g1 k1
      exact K H locs ls (B.sub [0, 1, 2, 3, 4, 5, 6, 7, 8, 9, 10, 11, 12, 13, 14] rfl rfl) (lv_sub hl [0, 1, 2, 3, 4] rfl)
    · have h := oif_f h c_1
      refine lv_aload_n hx hb dX5_build_11 rfl (lv_at hl 3 rfl) ?_
      refine lv_iload hx hb dX5_build_12 (lv_at hl 4 rfl) ?_
      refine lv_iconst (v := 0) hx hb dX5_build_14 (by decide) ?_
      obtain ⟨b_2, h⟩ := xin_spec h
      refine xiast (ws' := [(o, .inr (5, [.int o_thrown, .int o_width, .int o_height, .int o_bits, .int o_channels, .int o_step, .ref o_firstColumns, .ref o_columnSteps, .ref o_firstRows, .ref o_rowSteps, .ref o_samples, .ref o_draft, .ref o_line, .ref o_above, .ref o_rest, .ref o_seen, .ref o_encoded, .int o_encodedSize, .ref o_chosen, .ref o_feed, .int o_feedSize, .ref o_colours, .int o_colourCount])), (o_firstColumns, .inl (G.2.1, o_firstColumnsN, .inl o_firstColumnsF)), (o_columnSteps, .inl (G.2.1, o_columnStepsN, .inl o_columnStepsF)), (o_firstRows, .inl (G.2.1, o_firstRowsN, .inl o_firstRowsF)), (o_rowSteps, .inl (G.2.1, o_rowStepsN, .inl o_rowStepsF)), (o_samples, .inl (G.2.1, o_samplesN, .inl o_samplesF)), (o_draft, .inl (G.2.1, o_draftN, .inl o_draftF)), (o_line, .inl (G.2.1, o_lineN, .inl (upd o_lineF (y4).toNatClampNeg (0 : Int32)))), (o_above, .inl (G.2.1, o_aboveN, .inl o_aboveF)), (o_rest, .inl (G.2.1, o_restN, .inl o_restF)), (o_seen, .inl (G.2.2.1, o_seenN, .inl o_seenF)), (o_encoded, .inl (G.2.1, o_encodedN, .inl o_encodedF)), (o_chosen, .inl (G.2.1, o_chosenN, .inl o_chosenF)), (o_feed, .inl (G.2.1, o_feedN, .inl o_feedF)), (o_colours, .inl (G.2.1, o_coloursN, .inl o_coloursF))]) C0 B 7 rfl b_2 rfl dX5_build_15 (fun H locs B => ?_)
      refine lv_iinc (v := (y4 + (1 : Int32))) (lv' := [(4, .int (y4 + (1 : Int32))), (0, .ref o), (1, .int y1), (2, .int y2), (3, .ref o_line)]) hx hb dX5_build_16 hl (k := 4) rfl rfl (by decide) rfl (fun ls hl => ?_)
      refine lv_goto (tgt := 3) hx hb dX5_build_19 (by decide) ?_
      exact ih o o_thrown o_width o_height o_bits o_channels o_step o_firstColumns o_firstColumnsN o_firstColumnsF o_columnSteps o_columnStepsN o_columnStepsF o_firstRows o_firstRowsN o_firstRowsF o_rowSteps o_rowStepsN o_rowStepsF o_samples o_samplesN o_samplesF o_draft o_draftN o_draftF o_line o_lineN (upd o_lineF (y4).toNatClampNeg (0 : Int32)) o_above o_aboveN o_aboveF o_rest o_restN o_restF o_seen o_seenN o_seenF o_encoded o_encodedN o_encodedF o_encodedSize o_chosen o_chosenN o_chosenF o_feed o_feedN o_feedF o_feedSize o_colours o_coloursN o_coloursF o_colourCount y1 y2 (y4 + (1 : Int32)) _ _ h H locs ls (B.sub [0, 1, 2, 3, 4, 5, 6, 7, 8, 9, 10, 11, 12, 13, 14] rfl rfl) (lv_sub hl [1, 2, 3, 4, 0] rfl) K
set_option maxHeartbeats 4000000 in
set_option maxRecDepth 100000 in
theorem lo_X5_build_o_line_97 {p : Program} {l : Launch} {e : Env} {s : State} {m : MethodId} {args : Array Value} {below : List Frame} {meth : Method} {c : Code} {Q : State → Prop} {G : xG} {A : Nat → Prop} (C0 : xC p s m args meth c "FilterRowsModel" cX5_build 11 none) : ∀ (n : Nat) (o : Nat) (o_thrown : Int32) (o_width : Int32) (o_height : Int32) (o_bits : Int32) (o_channels : Int32) (o_step : Int32) (o_firstColumns : Nat) (o_firstColumnsN : Nat) (o_firstColumnsF : Nat → Int32) (o_columnSteps : Nat) (o_columnStepsN : Nat) (o_columnStepsF : Nat → Int32) (o_firstRows : Nat) (o_firstRowsN : Nat) (o_firstRowsF : Nat → Int32) (o_rowSteps : Nat) (o_rowStepsN : Nat) (o_rowStepsF : Nat → Int32) (o_samples : Nat) (o_samplesN : Nat) (o_samplesF : Nat → Int32) (o_draft : Nat) (o_draftN : Nat) (o_draftF : Nat → Int32) (o_line : Nat) (o_lineN : Nat) (o_lineF : Nat → Int32) (o_above : Nat) (o_aboveN : Nat) (o_aboveF : Nat → Int32) (o_rest : Nat) (o_restN : Nat) (o_restF : Nat → Int32) (o_seen : Nat) (o_seenN : Nat) (o_seenF : Nat → Int32) (o_encoded : Nat) (o_encodedN : Nat) (o_encodedF : Nat → Int32) (o_encodedSize : Int32) (o_chosen : Nat) (o_chosenN : Nat) (o_chosenF : Nat → Int32) (o_feed : Nat) (o_feedN : Nat) (o_feedF : Nat → Int32) (o_feedSize : Int32) (o_colours : Nat) (o_coloursN : Nat) (o_coloursF : Nat → Int32) (o_colourCount : Int32) (y1 : Int32) (y2 : Int32) (y4 : Int32) (y5 : Int32) (y6 : Int32) (y7 : Int32) (y8 : Int32) (y9 : Int32) (z4 : Int32) (z9 : Int32) (z_o_lineF : Nat → Int32), fl_X5_build_o_line_97 n o_samplesN o_samplesF o_lineN o_lineF y1 y2 y4 y5 y6 y7 y8 y9 = some (z4, z9, z_o_lineF) → ∀ (H : Heap) (locs : List Loc) (ls : Array Slot), xW G true A s [(o, .inr (5, [.int o_thrown, .int o_width, .int o_height, .int o_bits, .int o_channels, .int o_step, .ref o_firstColumns, .ref o_columnSteps, .ref o_firstRows, .ref o_rowSteps, .ref o_samples, .ref o_draft, .ref o_line, .ref o_above, .ref o_rest, .ref o_seen, .ref o_encoded, .int o_encodedSize, .ref o_chosen, .ref o_feed, .int o_feedSize, .ref o_colours, .int o_colourCount])), (o_firstColumns, .inl (G.2.1, o_firstColumnsN, .inl o_firstColumnsF)), (o_columnSteps, .inl (G.2.1, o_columnStepsN, .inl o_columnStepsF)), (o_firstRows, .inl (G.2.1, o_firstRowsN, .inl o_firstRowsF)), (o_rowSteps, .inl (G.2.1, o_rowStepsN, .inl o_rowStepsF)), (o_samples, .inl (G.2.1, o_samplesN, .inl o_samplesF)), (o_draft, .inl (G.2.1, o_draftN, .inl o_draftF)), (o_line, .inl (G.2.1, o_lineN, .inl o_lineF)), (o_above, .inl (G.2.1, o_aboveN, .inl o_aboveF)), (o_rest, .inl (G.2.1, o_restN, .inl o_restF)), (o_seen, .inl (G.2.2.1, o_seenN, .inl o_seenF)), (o_encoded, .inl (G.2.1, o_encodedN, .inl o_encodedF)), (o_chosen, .inl (G.2.1, o_chosenN, .inl o_chosenF)), (o_feed, .inl (G.2.1, o_feedN, .inl o_feedF)), (o_colours, .inl (G.2.1, o_coloursN, .inl o_coloursF))] H locs → lv_has ls 11 [(0, .ref o), (1, .int y1), (2, .int y2), (3, .ref o_line), (4, .int y4), (5, .int y5), (6, .int y6), (7, .int y7), (8, .int y8), (9, .int y9)] → (∀ (H : Heap) (locs : List Loc) (ls : Array Slot), xW G true A s [(o, .inr (5, [.int o_thrown, .int o_width, .int o_height, .int o_bits, .int o_channels, .int o_step, .ref o_firstColumns, .ref o_columnSteps, .ref o_firstRows, .ref o_rowSteps, .ref o_samples, .ref o_draft, .ref o_line, .ref o_above, .ref o_rest, .ref o_seen, .ref o_encoded, .int o_encodedSize, .ref o_chosen, .ref o_feed, .int o_feedSize, .ref o_colours, .int o_colourCount])), (o_firstColumns, .inl (G.2.1, o_firstColumnsN, .inl o_firstColumnsF)), (o_columnSteps, .inl (G.2.1, o_columnStepsN, .inl o_columnStepsF)), (o_firstRows, .inl (G.2.1, o_firstRowsN, .inl o_firstRowsF)), (o_rowSteps, .inl (G.2.1, o_rowStepsN, .inl o_rowStepsF)), (o_samples, .inl (G.2.1, o_samplesN, .inl o_samplesF)), (o_draft, .inl (G.2.1, o_draftN, .inl o_draftF)), (o_line, .inl (G.2.1, o_lineN, .inl z_o_lineF)), (o_above, .inl (G.2.1, o_aboveN, .inl o_aboveF)), (o_rest, .inl (G.2.1, o_restN, .inl o_restF)), (o_seen, .inl (G.2.2.1, o_seenN, .inl o_seenF)), (o_encoded, .inl (G.2.1, o_encodedN, .inl o_encodedF)), (o_chosen, .inl (G.2.1, o_chosenN, .inl o_chosenF)), (o_feed, .inl (G.2.1, o_feedN, .inl o_feedF)), (o_colours, .inl (G.2.1, o_coloursN, .inl o_coloursF))] H locs → lv_has ls 11 [(0, .ref o), (1, .int y1), (2, .int y2), (3, .ref o_line), (4, .int z4), (5, .int y5), (6, .int y6), (7, .int y7), (8, .int y8), (9, .int z9)] → W p l e rm_X5_build_o_line s m args below meth c H locs 0 0 Q (F0 m 159 ls [])) → W p l e rm_X5_build_o_line s m args below meth c H locs 0 0 Q (F0 m 97 ls []) := by
  obtain ⟨hx, hb, hr, hml, hown, hts, hlk⟩ := id C0
  intro n
  induction n with
  | zero =>
    intro o o_thrown o_width o_height o_bits o_channels o_step o_firstColumns o_firstColumnsN o_firstColumnsF o_columnSteps o_columnStepsN o_columnStepsF o_firstRows o_firstRowsN o_firstRowsF o_rowSteps o_rowStepsN o_rowStepsF o_samples o_samplesN o_samplesF o_draft o_draftN o_draftF o_line o_lineN o_lineF o_above o_aboveN o_aboveF o_rest o_restN o_restF o_seen o_seenN o_seenF o_encoded o_encodedN o_encodedF o_encodedSize o_chosen o_chosenN o_chosenF o_feed o_feedN o_feedF o_feedSize o_colours o_coloursN o_coloursF o_colourCount y1 y2 y4 y5 y6 y7 y8 y9 z4 z9 z_o_lineF h
    rw [fl_X5_build_o_line_97] at h
    cases h
  | succ n ih =>
    intro o o_thrown o_width o_height o_bits o_channels o_step o_firstColumns o_firstColumnsN o_firstColumnsF o_columnSteps o_columnStepsN o_columnStepsF o_firstRows o_firstRowsN o_firstRowsF o_rowSteps o_rowStepsN o_rowStepsF o_samples o_samplesN o_samplesF o_draft o_draftN o_draftF o_line o_lineN o_lineF o_above o_aboveN o_aboveF o_rest o_restN o_restF o_seen o_seenN o_seenF o_encoded o_encodedN o_encodedF o_encodedSize o_chosen o_chosenN o_chosenF o_feed o_feedN o_feedF o_feedSize o_colours o_coloursN o_coloursF o_colourCount y1 y2 y4 y5 y6 y7 y8 y9 z4 z9 z_o_lineF h H locs ls B hl K
    rw [fl_X5_build_o_line_97] at h
    refine lv_iload hx hb dX5_build_97 (lv_at hl 9 rfl) ?_
    refine lv_if_lt (tgt := 159) hx hb dX5_build_99 (by decide) (fun c_1 => ?_) (fun c_1 => ?_)
    · have h := oif_t h c_1
      obtain ⟨g1, k1⟩ := Prod.mk.inj (Option.some.inj h)
      obtain ⟨g2, k2⟩ := Prod.mk.inj k1
      subst g1 g2 k2
      exact K H locs ls (B.sub [0, 1, 2, 3, 4, 5, 6, 7, 8, 9, 10, 11, 12, 13, 14] rfl rfl) (lv_sub hl [0, 1, 2, 3, 4, 5, 6, 7, 8, 9] rfl)
    · have h := oif_f h c_1
      refine lv_aload_n hx hb dX5_build_102 rfl (lv_at hl 0 rfl) ?_
      refine xget (v := .ref o_samples) C0 B inX5 0 rfl rfl 10 (by decide) wd_393 rfl dX5_build_103 ?_
      refine lv_iload hx hb dX5_build_106 (lv_at hl 6 rfl) ?_
      refine lv_iload hx hb dX5_build_108 (lv_at hl 7 rfl) ?_
      obtain ⟨r_2, e_3, h⟩ := xb_spec h
      refine xcallR (wc := []) B [] rfl rfl (xrunS C0 (c_X5_place l G  y6 y7 n r_2 e_3 H.size) kb_X5_place kv_X5_place wd_427 rfl rfl ⟨Nat.le_of_ble_eq_true rfl, Nat.le_of_ble_eq_true rfl⟩ rfl hl rfl (Nat.le_of_ble_eq_true rfl) dX5_build_110 ⟨Nat.le_of_ble_eq_true rfl, Nat.le_of_ble_eq_true rfl⟩) (fun H locs B => ?_)
      refine lv_iload hx hb dX5_build_113 (lv_at hl 8 rfl) ?_
      refine lv_iadd hx hb dX5_build_115 ?_
      obtain ⟨b_4, h⟩ := xin_spec h
      refine xiald C0 B 5 rfl b_4 dX5_build_116 ?_
      refine lv_iload hx hb dX5_build_117 (lv_at hl 9 rfl) ?_
      refine lv_ishr hx hb dX5_build_119 ?_
      refine lv_iconst (v := 1) hx hb dX5_build_120 (by decide) ?_
      refine lv_iand hx hb dX5_build_121 ?_
      refine lv_topi (fun s_5 es_5 => ?_)
      have h := xl_spec h es_5
      refine lv_istore (lv' := [(10, .int s_5), (0, .ref o), (1, .int y1), (2, .int y2), (3, .ref o_line), (4, .int y4), (5, .int y5), (6, .int y6), (7, .int y7), (8, .int y8), (9, .int y9)]) hx hb dX5_build_122 hl (by decide) rfl (fun ls hl => ?_)
      refine lv_aload_n hx hb dX5_build_124 rfl (lv_at hl 4 rfl) ?_
      refine lv_iload hx hb dX5_build_125 (lv_at hl 5 rfl) ?_
      refine lv_bipush (v := 8) hx hb dX5_build_127 (by decide) ?_
      obtain ⟨d_6, h⟩ := xnz_spec h
      refine lv_idiv hx hb dX5_build_129 d_6 ?_
      refine lv_aload_n hx hb dX5_build_130 rfl (lv_at hl 4 rfl) ?_
      refine lv_iload hx hb dX5_build_131 (lv_at hl 5 rfl) ?_
      refine lv_bipush (v := 8) hx hb dX5_build_133 (by decide) ?_
      obtain ⟨d_7, h⟩ := xnz_spec h
      refine lv_idiv hx hb dX5_build_135 d_7 ?_
      obtain ⟨b_8, h⟩ := xin_spec h
      refine xiald C0 B 7 rfl b_8 dX5_build_136 ?_
      refine lv_iload hx hb dX5_build_137 (lv_at hl 0 rfl) ?_
      refine lv_bipush (v := 7) hx hb dX5_build_139 (by decide) ?_
      refine lv_iload hx hb dX5_build_141 (lv_at hl 5 rfl) ?_
      refine lv_bipush (v := 8) hx hb dX5_build_143 (by decide) ?_
      obtain ⟨d_9, h⟩ := xnz_spec h
      refine lv_irem hx hb dX5_build_145 d_9 ?_
      refine lv_isub hx hb dX5_build_146 ?_
      refine lv_ishl hx hb dX5_build_147 ?_
      refine lv_ior hx hb dX5_build_148 ?_
      obtain ⟨b_10, h⟩ := xin_spec h
      refine xiast (ws' := [(o, .inr (5, [.int o_thrown, .int o_width, .int o_height, .int o_bits, .int o_channels, .int o_step, .ref o_firstColumns, .ref o_columnSteps, .ref o_firstRows, .ref o_rowSteps, .ref o_samples, .ref o_draft, .ref o_line, .ref o_above, .ref o_rest, .ref o_seen, .ref o_encoded, .int o_encodedSize, .ref o_chosen, .ref o_feed, .int o_feedSize, .ref o_colours, .int o_colourCount])), (o_firstColumns, .inl (G.2.1, o_firstColumnsN, .inl o_firstColumnsF)), (o_columnSteps, .inl (G.2.1, o_columnStepsN, .inl o_columnStepsF)), (o_firstRows, .inl (G.2.1, o_firstRowsN, .inl o_firstRowsF)), (o_rowSteps, .inl (G.2.1, o_rowStepsN, .inl o_rowStepsF)), (o_samples, .inl (G.2.1, o_samplesN, .inl o_samplesF)), (o_draft, .inl (G.2.1, o_draftN, .inl o_draftF)), (o_line, .inl (G.2.1, o_lineN, .inl (upd o_lineF ((y4 / (8 : Int32))).toNatClampNeg ((o_lineF ((y4 / (8 : Int32))).toNatClampNeg) ||| (s_5 <<< (((7 : Int32) - (y4 - y4 / (8 : Int32) * (8 : Int32))) &&& 31)))))), (o_above, .inl (G.2.1, o_aboveN, .inl o_aboveF)), (o_rest, .inl (G.2.1, o_restN, .inl o_restF)), (o_seen, .inl (G.2.2.1, o_seenN, .inl o_seenF)), (o_encoded, .inl (G.2.1, o_encodedN, .inl o_encodedF)), (o_chosen, .inl (G.2.1, o_chosenN, .inl o_chosenF)), (o_feed, .inl (G.2.1, o_feedN, .inl o_feedF)), (o_colours, .inl (G.2.1, o_coloursN, .inl o_coloursF))]) C0 B 7 rfl b_10 rfl dX5_build_149 (fun H locs B => ?_)
      refine lv_iinc (v := (y4 + (1 : Int32))) (lv' := [(4, .int (y4 + (1 : Int32))), (10, .int s_5), (0, .ref o), (1, .int y1), (2, .int y2), (3, .ref o_line), (5, .int y5), (6, .int y6), (7, .int y7), (8, .int y8), (9, .int y9)]) hx hb dX5_build_150 hl (k := 5) rfl rfl (by decide) rfl (fun ls hl => ?_)
      refine lv_iinc (v := (y9 + (-1 : Int32))) (lv' := [(9, .int (y9 + (-1 : Int32))), (4, .int (y4 + (1 : Int32))), (10, .int s_5), (0, .ref o), (1, .int y1), (2, .int y2), (3, .ref o_line), (5, .int y5), (6, .int y6), (7, .int y7), (8, .int y8)]) hx hb dX5_build_153 hl (k := 10) rfl rfl (by decide) rfl (fun ls hl => ?_)
      refine lv_goto (tgt := 97) hx hb dX5_build_156 (by decide) ?_
      exact ih o o_thrown o_width o_height o_bits o_channels o_step o_firstColumns o_firstColumnsN o_firstColumnsF o_columnSteps o_columnStepsN o_columnStepsF o_firstRows o_firstRowsN o_firstRowsF o_rowSteps o_rowStepsN o_rowStepsF o_samples o_samplesN o_samplesF o_draft o_draftN o_draftF o_line o_lineN (upd o_lineF ((y4 / (8 : Int32))).toNatClampNeg ((o_lineF ((y4 / (8 : Int32))).toNatClampNeg) ||| (s_5 <<< (((7 : Int32) - (y4 - y4 / (8 : Int32) * (8 : Int32))) &&& 31)))) o_above o_aboveN o_aboveF o_rest o_restN o_restF o_seen o_seenN o_seenF o_encoded o_encodedN o_encodedF o_encodedSize o_chosen o_chosenN o_chosenF o_feed o_feedN o_feedF o_feedSize o_colours o_coloursN o_coloursF o_colourCount y1 y2 (y4 + (1 : Int32)) y5 y6 y7 y8 (y9 + (-1 : Int32)) _ _ _ h H locs ls (B.sub [0, 1, 2, 3, 4, 5, 6, 7, 8, 9, 10, 11, 12, 13, 14] rfl rfl) (lv_sub hl [3, 4, 5, 6, 1, 7, 8, 9, 10, 0] rfl) K
set_option maxHeartbeats 4000000 in
set_option maxRecDepth 100000 in
theorem lo_X5_build_o_line_80 {p : Program} {l : Launch} {e : Env} {s : State} {m : MethodId} {args : Array Value} {below : List Frame} {meth : Method} {c : Code} {Q : State → Prop} {G : xG} {A : Nat → Prop} (C0 : xC p s m args meth c "FilterRowsModel" cX5_build 11 none) : ∀ (n : Nat) (o : Nat) (o_thrown : Int32) (o_width : Int32) (o_height : Int32) (o_bits : Int32) (o_channels : Int32) (o_step : Int32) (o_firstColumns : Nat) (o_firstColumnsN : Nat) (o_firstColumnsF : Nat → Int32) (o_columnSteps : Nat) (o_columnStepsN : Nat) (o_columnStepsF : Nat → Int32) (o_firstRows : Nat) (o_firstRowsN : Nat) (o_firstRowsF : Nat → Int32) (o_rowSteps : Nat) (o_rowStepsN : Nat) (o_rowStepsF : Nat → Int32) (o_samples : Nat) (o_samplesN : Nat) (o_samplesF : Nat → Int32) (o_draft : Nat) (o_draftN : Nat) (o_draftF : Nat → Int32) (o_line : Nat) (o_lineN : Nat) (o_lineF : Nat → Int32) (o_above : Nat) (o_aboveN : Nat) (o_aboveF : Nat → Int32) (o_rest : Nat) (o_restN : Nat) (o_restF : Nat → Int32) (o_seen : Nat) (o_seenN : Nat) (o_seenF : Nat → Int32) (o_encoded : Nat) (o_encodedN : Nat) (o_encodedF : Nat → Int32) (o_encodedSize : Int32) (o_chosen : Nat) (o_chosenN : Nat) (o_chosenF : Nat → Int32) (o_feed : Nat) (o_feedN : Nat) (o_feedF : Nat → Int32) (o_feedSize : Int32) (o_colours : Nat) (o_coloursN : Nat) (o_coloursF : Nat → Int32) (o_colourCount : Int32) (y1 : Int32) (y2 : Int32) (y4 : Int32) (y5 : Int32) (y6 : Int32) (y7 : Int32) (y8 : Int32) (z4 : Int32) (z8 : Int32) (z_o_lineF : Nat → Int32), fl_X5_build_o_line_80 n o_bits o_channels o_samplesN o_samplesF o_lineN o_lineF y1 y2 y4 y5 y6 y7 y8 = some (z4, z8, z_o_lineF) → ∀ (H : Heap) (locs : List Loc) (ls : Array Slot), xW G true A s [(o, .inr (5, [.int o_thrown, .int o_width, .int o_height, .int o_bits, .int o_channels, .int o_step, .ref o_firstColumns, .ref o_columnSteps, .ref o_firstRows, .ref o_rowSteps, .ref o_samples, .ref o_draft, .ref o_line, .ref o_above, .ref o_rest, .ref o_seen, .ref o_encoded, .int o_encodedSize, .ref o_chosen, .ref o_feed, .int o_feedSize, .ref o_colours, .int o_colourCount])), (o_firstColumns, .inl (G.2.1, o_firstColumnsN, .inl o_firstColumnsF)), (o_columnSteps, .inl (G.2.1, o_columnStepsN, .inl o_columnStepsF)), (o_firstRows, .inl (G.2.1, o_firstRowsN, .inl o_firstRowsF)), (o_rowSteps, .inl (G.2.1, o_rowStepsN, .inl o_rowStepsF)), (o_samples, .inl (G.2.1, o_samplesN, .inl o_samplesF)), (o_draft, .inl (G.2.1, o_draftN, .inl o_draftF)), (o_line, .inl (G.2.1, o_lineN, .inl o_lineF)), (o_above, .inl (G.2.1, o_aboveN, .inl o_aboveF)), (o_rest, .inl (G.2.1, o_restN, .inl o_restF)), (o_seen, .inl (G.2.2.1, o_seenN, .inl o_seenF)), (o_encoded, .inl (G.2.1, o_encodedN, .inl o_encodedF)), (o_chosen, .inl (G.2.1, o_chosenN, .inl o_chosenF)), (o_feed, .inl (G.2.1, o_feedN, .inl o_feedF)), (o_colours, .inl (G.2.1, o_coloursN, .inl o_coloursF))] H locs → lv_has ls 11 [(0, .ref o), (1, .int y1), (2, .int y2), (3, .ref o_line), (4, .int y4), (5, .int y5), (6, .int y6), (7, .int y7), (8, .int y8)] → (∀ (H : Heap) (locs : List Loc) (ls : Array Slot), xW G true A s [(o, .inr (5, [.int o_thrown, .int o_width, .int o_height, .int o_bits, .int o_channels, .int o_step, .ref o_firstColumns, .ref o_columnSteps, .ref o_firstRows, .ref o_rowSteps, .ref o_samples, .ref o_draft, .ref o_line, .ref o_above, .ref o_rest, .ref o_seen, .ref o_encoded, .int o_encodedSize, .ref o_chosen, .ref o_feed, .int o_feedSize, .ref o_colours, .int o_colourCount])), (o_firstColumns, .inl (G.2.1, o_firstColumnsN, .inl o_firstColumnsF)), (o_columnSteps, .inl (G.2.1, o_columnStepsN, .inl o_columnStepsF)), (o_firstRows, .inl (G.2.1, o_firstRowsN, .inl o_firstRowsF)), (o_rowSteps, .inl (G.2.1, o_rowStepsN, .inl o_rowStepsF)), (o_samples, .inl (G.2.1, o_samplesN, .inl o_samplesF)), (o_draft, .inl (G.2.1, o_draftN, .inl o_draftF)), (o_line, .inl (G.2.1, o_lineN, .inl z_o_lineF)), (o_above, .inl (G.2.1, o_aboveN, .inl o_aboveF)), (o_rest, .inl (G.2.1, o_restN, .inl o_restF)), (o_seen, .inl (G.2.2.1, o_seenN, .inl o_seenF)), (o_encoded, .inl (G.2.1, o_encodedN, .inl o_encodedF)), (o_chosen, .inl (G.2.1, o_chosenN, .inl o_chosenF)), (o_feed, .inl (G.2.1, o_feedN, .inl o_feedF)), (o_colours, .inl (G.2.1, o_coloursN, .inl o_coloursF))] H locs → lv_has ls 11 [(0, .ref o), (1, .int y1), (2, .int y2), (3, .ref o_line), (4, .int z4), (5, .int y5), (6, .int y6), (7, .int y7), (8, .int z8)] → W p l e rm_X5_build_o_line s m args below meth c H locs 0 0 Q (F0 m 165 ls [])) → W p l e rm_X5_build_o_line s m args below meth c H locs 0 0 Q (F0 m 80 ls []) := by
  obtain ⟨hx, hb, hr, hml, hown, hts, hlk⟩ := id C0
  intro n
  induction n with
  | zero =>
    intro o o_thrown o_width o_height o_bits o_channels o_step o_firstColumns o_firstColumnsN o_firstColumnsF o_columnSteps o_columnStepsN o_columnStepsF o_firstRows o_firstRowsN o_firstRowsF o_rowSteps o_rowStepsN o_rowStepsF o_samples o_samplesN o_samplesF o_draft o_draftN o_draftF o_line o_lineN o_lineF o_above o_aboveN o_aboveF o_rest o_restN o_restF o_seen o_seenN o_seenF o_encoded o_encodedN o_encodedF o_encodedSize o_chosen o_chosenN o_chosenF o_feed o_feedN o_feedF o_feedSize o_colours o_coloursN o_coloursF o_colourCount y1 y2 y4 y5 y6 y7 y8 z4 z8 z_o_lineF h
    rw [fl_X5_build_o_line_80] at h
    cases h
  | succ n ih =>
    intro o o_thrown o_width o_height o_bits o_channels o_step o_firstColumns o_firstColumnsN o_firstColumnsF o_columnSteps o_columnStepsN o_columnStepsF o_firstRows o_firstRowsN o_firstRowsF o_rowSteps o_rowStepsN o_rowStepsF o_samples o_samplesN o_samplesF o_draft o_draftN o_draftF o_line o_lineN o_lineF o_above o_aboveN o_aboveF o_rest o_restN o_restF o_seen o_seenN o_seenF o_encoded o_encodedN o_encodedF o_encodedSize o_chosen o_chosenN o_chosenF o_feed o_feedN o_feedF o_feedSize o_colours o_coloursN o_coloursF o_colourCount y1 y2 y4 y5 y6 y7 y8 z4 z8 z_o_lineF h H locs ls B hl K
    rw [fl_X5_build_o_line_80] at h
    refine lv_iload hx hb dX5_build_80 (lv_at hl 8 rfl) ?_
    refine lv_aload_n hx hb dX5_build_82 rfl (lv_at hl 0 rfl) ?_
    refine xget (v := .int o_channels) C0 B inX5 0 rfl rfl 4 (by decide) wd_409 rfl dX5_build_83 ?_
    refine lv_icmp_ge (tgt := 165) hx hb dX5_build_86 (by decide) (fun c_1 => ?_) (fun c_1 => ?_)
    · have h := oif_t h c_1
      obtain ⟨g1, k1⟩ := Prod.mk.inj (Option.some.inj h)
      obtain ⟨g2, k2⟩ := Prod.mk.inj k1
      subst g1 g2 k2
      exact K H locs ls (B.sub [0, 1, 2, 3, 4, 5, 6, 7, 8, 9, 10, 11, 12, 13, 14] rfl rfl) (lv_sub hl [0, 1, 2, 3, 4, 5, 6, 7, 8] rfl)
    · have h := oif_f h c_1
      refine lv_aload_n hx hb dX5_build_89 rfl (lv_at hl 0 rfl) ?_
      refine xget (v := .int o_bits) C0 B inX5 0 rfl rfl 3 (by decide) wd_410 rfl dX5_build_90 ?_
      refine lv_iconst (v := 1) hx hb dX5_build_93 (by decide) ?_
      refine lv_isub hx hb dX5_build_94 ?_
      refine lv_istore (lv' := [(9, .int (o_bits - (1 : Int32))), (0, .ref o), (1, .int y1), (2, .int y2), (3, .ref o_line), (4, .int y4), (5, .int y5), (6, .int y6), (7, .int y7), (8, .int y8)]) hx hb dX5_build_95 hl (by decide) rfl (fun ls hl => ?_)
      obtain ⟨⟨v_2, v_3, w_4⟩, e_5, h⟩ := xb_spec h
      refine lo_X5_build_o_line_97 C0 n o o_thrown o_width o_height o_bits o_channels o_step o_firstColumns o_firstColumnsN o_firstColumnsF o_columnSteps o_columnStepsN o_columnStepsF o_firstRows o_firstRowsN o_firstRowsF o_rowSteps o_rowStepsN o_rowStepsF o_samples o_samplesN o_samplesF o_draft o_draftN o_draftF o_line o_lineN o_lineF o_above o_aboveN o_aboveF o_rest o_restN o_restF o_seen o_seenN o_seenF o_encoded o_encodedN o_encodedF o_encodedSize o_chosen o_chosenN o_chosenF o_feed o_feedN o_feedF o_feedSize o_colours o_coloursN o_coloursF o_colourCount y1 y2 y4 y5 y6 y7 y8 (o_bits - (1 : Int32)) v_2 v_3 w_4 e_5 H locs ls (B.sub [0, 1, 2, 3, 4, 5, 6, 7, 8, 9, 10, 11, 12, 13, 14] rfl rfl) (lv_sub hl [1, 2, 3, 4, 5, 6, 7, 8, 9, 0] rfl) (fun H locs ls B hl => ?_)
      refine lv_iinc (v := (y8 + (1 : Int32))) (lv' := [(8, .int (y8 + (1 : Int32))), (0, .ref o), (1, .int y1), (2, .int y2), (3, .ref o_line), (4, .int v_2), (5, .int y5), (6, .int y6), (7, .int y7), (9, .int v_3)]) hx hb dX5_build_159 hl (k := 8) rfl rfl (by decide) rfl (fun ls hl => ?_)
      refine lv_goto (tgt := 80) hx hb dX5_build_162 (by decide) ?_
      exact ih o o_thrown o_width o_height o_bits o_channels o_step o_firstColumns o_firstColumnsN o_firstColumnsF o_columnSteps o_columnStepsN o_columnStepsF o_firstRows o_firstRowsN o_firstRowsF o_rowSteps o_rowStepsN o_rowStepsF o_samples o_samplesN o_samplesF o_draft o_draftN o_draftF o_line o_lineN w_4 o_above o_aboveN o_aboveF o_rest o_restN o_restF o_seen o_seenN o_seenF o_encoded o_encodedN o_encodedF o_encodedSize o_chosen o_chosenN o_chosenF o_feed o_feedN o_feedF o_feedSize o_colours o_coloursN o_coloursF o_colourCount y1 y2 v_2 y5 y6 y7 (y8 + (1 : Int32)) _ _ _ h H locs ls (B.sub [0, 1, 2, 3, 4, 5, 6, 7, 8, 9, 10, 11, 12, 13, 14] rfl rfl) (lv_sub hl [1, 2, 3, 4, 5, 6, 7, 8, 0] rfl) K
set_option maxHeartbeats 4000000 in
set_option maxRecDepth 100000 in
theorem lo_X5_build_o_line_28 {p : Program} {l : Launch} {e : Env} {s : State} {m : MethodId} {args : Array Value} {below : List Frame} {meth : Method} {c : Code} {Q : State → Prop} {G : xG} {A : Nat → Prop} (C0 : xC p s m args meth c "FilterRowsModel" cX5_build 11 none) : ∀ (n : Nat) (o : Nat) (o_thrown : Int32) (o_width : Int32) (o_height : Int32) (o_bits : Int32) (o_channels : Int32) (o_step : Int32) (o_firstColumns : Nat) (o_firstColumnsN : Nat) (o_firstColumnsF : Nat → Int32) (o_columnSteps : Nat) (o_columnStepsN : Nat) (o_columnStepsF : Nat → Int32) (o_firstRows : Nat) (o_firstRowsN : Nat) (o_firstRowsF : Nat → Int32) (o_rowSteps : Nat) (o_rowStepsN : Nat) (o_rowStepsF : Nat → Int32) (o_samples : Nat) (o_samplesN : Nat) (o_samplesF : Nat → Int32) (o_draft : Nat) (o_draftN : Nat) (o_draftF : Nat → Int32) (o_line : Nat) (o_lineN : Nat) (o_lineF : Nat → Int32) (o_above : Nat) (o_aboveN : Nat) (o_aboveF : Nat → Int32) (o_rest : Nat) (o_restN : Nat) (o_restF : Nat → Int32) (o_seen : Nat) (o_seenN : Nat) (o_seenF : Nat → Int32) (o_encoded : Nat) (o_encodedN : Nat) (o_encodedF : Nat → Int32) (o_encodedSize : Int32) (o_chosen : Nat) (o_chosenN : Nat) (o_chosenF : Nat → Int32) (o_feed : Nat) (o_feedN : Nat) (o_feedF : Nat → Int32) (o_feedSize : Int32) (o_colours : Nat) (o_coloursN : Nat) (o_coloursF : Nat → Int32) (o_colourCount : Int32) (y1 : Int32) (y2 : Int32) (y4 : Int32) (y5 : Int32) (z4 : Int32) (z5 : Int32) (z_o_lineF : Nat → Int32), fl_X5_build_o_line_28 n o_width o_bits o_channels o_firstColumnsN o_firstColumnsF o_columnStepsN o_columnStepsF o_firstRowsN o_firstRowsF o_rowStepsN o_rowStepsF o_samplesN o_samplesF o_lineN o_lineF y1 y2 y4 y5 = some (z4, z5, z_o_lineF) → ∀ (H : Heap) (locs : List Loc) (ls : Array Slot), xW G true A s [(o, .inr (5, [.int o_thrown, .int o_width, .int o_height, .int o_bits, .int o_channels, .int o_step, .ref o_firstColumns, .ref o_columnSteps, .ref o_firstRows, .ref o_rowSteps, .ref o_samples, .ref o_draft, .ref o_line, .ref o_above, .ref o_rest, .ref o_seen, .ref o_encoded, .int o_encodedSize, .ref o_chosen, .ref o_feed, .int o_feedSize, .ref o_colours, .int o_colourCount])), (o_firstColumns, .inl (G.2.1, o_firstColumnsN, .inl o_firstColumnsF)), (o_columnSteps, .inl (G.2.1, o_columnStepsN, .inl o_columnStepsF)), (o_firstRows, .inl (G.2.1, o_firstRowsN, .inl o_firstRowsF)), (o_rowSteps, .inl (G.2.1, o_rowStepsN, .inl o_rowStepsF)), (o_samples, .inl (G.2.1, o_samplesN, .inl o_samplesF)), (o_draft, .inl (G.2.1, o_draftN, .inl o_draftF)), (o_line, .inl (G.2.1, o_lineN, .inl o_lineF)), (o_above, .inl (G.2.1, o_aboveN, .inl o_aboveF)), (o_rest, .inl (G.2.1, o_restN, .inl o_restF)), (o_seen, .inl (G.2.2.1, o_seenN, .inl o_seenF)), (o_encoded, .inl (G.2.1, o_encodedN, .inl o_encodedF)), (o_chosen, .inl (G.2.1, o_chosenN, .inl o_chosenF)), (o_feed, .inl (G.2.1, o_feedN, .inl o_feedF)), (o_colours, .inl (G.2.1, o_coloursN, .inl o_coloursF))] H locs → lv_has ls 11 [(0, .ref o), (1, .int y1), (2, .int y2), (3, .ref o_line), (4, .int y4), (5, .int y5)] → (∀ (H : Heap) (locs : List Loc) (ls : Array Slot), xW G true A s [(o, .inr (5, [.int o_thrown, .int o_width, .int o_height, .int o_bits, .int o_channels, .int o_step, .ref o_firstColumns, .ref o_columnSteps, .ref o_firstRows, .ref o_rowSteps, .ref o_samples, .ref o_draft, .ref o_line, .ref o_above, .ref o_rest, .ref o_seen, .ref o_encoded, .int o_encodedSize, .ref o_chosen, .ref o_feed, .int o_feedSize, .ref o_colours, .int o_colourCount])), (o_firstColumns, .inl (G.2.1, o_firstColumnsN, .inl o_firstColumnsF)), (o_columnSteps, .inl (G.2.1, o_columnStepsN, .inl o_columnStepsF)), (o_firstRows, .inl (G.2.1, o_firstRowsN, .inl o_firstRowsF)), (o_rowSteps, .inl (G.2.1, o_rowStepsN, .inl o_rowStepsF)), (o_samples, .inl (G.2.1, o_samplesN, .inl o_samplesF)), (o_draft, .inl (G.2.1, o_draftN, .inl o_draftF)), (o_line, .inl (G.2.1, o_lineN, .inl z_o_lineF)), (o_above, .inl (G.2.1, o_aboveN, .inl o_aboveF)), (o_rest, .inl (G.2.1, o_restN, .inl o_restF)), (o_seen, .inl (G.2.2.1, o_seenN, .inl o_seenF)), (o_encoded, .inl (G.2.1, o_encodedN, .inl o_encodedF)), (o_chosen, .inl (G.2.1, o_chosenN, .inl o_chosenF)), (o_feed, .inl (G.2.1, o_feedN, .inl o_feedF)), (o_colours, .inl (G.2.1, o_coloursN, .inl o_coloursF))] H locs → lv_has ls 11 [(0, .ref o), (1, .int y1), (2, .int y2), (3, .ref o_line), (4, .int z4), (5, .int z5)] → W p l e rm_X5_build_o_line s m args below meth c H locs 0 0 Q (F0 m 171 ls [])) → W p l e rm_X5_build_o_line s m args below meth c H locs 0 0 Q (F0 m 28 ls []) := by
  obtain ⟨hx, hb, hr, hml, hown, hts, hlk⟩ := id C0
  intro n
  induction n with
  | zero =>
    intro o o_thrown o_width o_height o_bits o_channels o_step o_firstColumns o_firstColumnsN o_firstColumnsF o_columnSteps o_columnStepsN o_columnStepsF o_firstRows o_firstRowsN o_firstRowsF o_rowSteps o_rowStepsN o_rowStepsF o_samples o_samplesN o_samplesF o_draft o_draftN o_draftF o_line o_lineN o_lineF o_above o_aboveN o_aboveF o_rest o_restN o_restF o_seen o_seenN o_seenF o_encoded o_encodedN o_encodedF o_encodedSize o_chosen o_chosenN o_chosenF o_feed o_feedN o_feedF o_feedSize o_colours o_coloursN o_coloursF o_colourCount y1 y2 y4 y5 z4 z5 z_o_lineF h
    rw [fl_X5_build_o_line_28] at h
    cases h
  | succ n ih =>
    intro o o_thrown o_width o_height o_bits o_channels o_step o_firstColumns o_firstColumnsN o_firstColumnsF o_columnSteps o_columnStepsN o_columnStepsF o_firstRows o_firstRowsN o_firstRowsF o_rowSteps o_rowStepsN o_rowStepsF o_samples o_samplesN o_samplesF o_draft o_draftN o_draftF o_line o_lineN o_lineF o_above o_aboveN o_aboveF o_rest o_restN o_restF o_seen o_seenN o_seenF o_encoded o_encodedN o_encodedF o_encodedSize o_chosen o_chosenN o_chosenF o_feed o_feedN o_feedF o_feedSize o_colours o_coloursN o_coloursF o_colourCount y1 y2 y4 y5 z4 z5 z_o_lineF h H locs ls B hl K
    rw [fl_X5_build_o_line_28] at h
    refine lv_iload hx hb dX5_build_28 (lv_at hl 5 rfl) ?_
    refine lv_aload_n hx hb dX5_build_30 rfl (lv_at hl 0 rfl) ?_
    refine lv_iload_n hx hb dX5_build_31 rfl (lv_at hl 1 rfl) ?_
    obtain ⟨r_1, e_2, h⟩ := xb_spec h
    refine xcallR (wc := [(o, .inr (5, [.int o_thrown, .int o_width, .int o_height, .int o_bits, .int o_channels, .int o_step, .ref o_firstColumns, .ref o_columnSteps, .ref o_firstRows, .ref o_rowSteps, .ref o_samples, .ref o_draft, .ref o_line, .ref o_above, .ref o_rest, .ref o_seen, .ref o_encoded, .int o_encodedSize, .ref o_chosen, .ref o_feed, .int o_feedSize, .ref o_colours, .int o_colourCount])), (o_firstColumns, .inl (G.2.1, o_firstColumnsN, .inl o_firstColumnsF)), (o_columnSteps, .inl (G.2.1, o_columnStepsN, .inl o_columnStepsF)), (o_firstRows, .inl (G.2.1, o_firstRowsN, .inl o_firstRowsF)), (o_rowSteps, .inl (G.2.1, o_rowStepsN, .inl o_rowStepsF)), (o_samples, .inl (G.2.1, o_samplesN, .inl o_samplesF)), (o_draft, .inl (G.2.1, o_draftN, .inl o_draftF)), (o_line, .inl (G.2.1, o_lineN, .inl o_lineF)), (o_above, .inl (G.2.1, o_aboveN, .inl o_aboveF)), (o_rest, .inl (G.2.1, o_restN, .inl o_restF)), (o_seen, .inl (G.2.2.1, o_seenN, .inl o_seenF)), (o_encoded, .inl (G.2.1, o_encodedN, .inl o_encodedF)), (o_chosen, .inl (G.2.1, o_chosenN, .inl o_chosenF)), (o_feed, .inl (G.2.1, o_feedN, .inl o_feedF)), (o_colours, .inl (G.2.1, o_coloursN, .inl o_coloursF))]) B [0, 1, 2, 3, 4, 5, 6, 7, 8, 9, 10, 11, 12, 13, 14] rfl rfl (xrunV C0 (c_X5_wide l G o o_thrown o_width o_height o_bits o_channels o_step o_firstColumns o_firstColumnsN o_firstColumnsF o_columnSteps o_columnStepsN o_columnStepsF o_firstRows o_firstRowsN o_firstRowsF o_rowSteps o_rowStepsN o_rowStepsF o_samples o_samplesN o_samplesF o_draft o_draftN o_draftF o_line o_lineN o_lineF o_above o_aboveN o_aboveF o_rest o_restN o_restF o_seen o_seenN o_seenF o_encoded o_encodedN o_encodedF o_encodedSize o_chosen o_chosenN o_chosenF o_feed o_feedN o_feedF o_feedSize o_colours o_coloursN o_coloursF o_colourCount y1 n r_1 e_2 H.size) kb_X5_wide kv_X5_wide wd_443 (ci := 5) rfl rfl rfl rfl rfl ⟨Nat.le_of_ble_eq_true rfl, Nat.le_of_ble_eq_true rfl⟩ rfl hl rfl (Nat.le_of_ble_eq_true rfl) dX5_build_32 ⟨Nat.le_of_ble_eq_true rfl, Nat.le_of_ble_eq_true rfl⟩) (fun H locs B => ?_)
    refine lv_icmp_ge (tgt := 171) hx hb dX5_build_35 (by decide) (fun c_3 => ?_) (fun c_3 => ?_)
    · have h := oif_t h c_3
      obtain ⟨g1, k1⟩ := Prod.mk.inj (Option.some.inj h)
      obtain ⟨g2, k2⟩ := Prod.mk.inj k1
      subst g1 g2 k2
      exact K H locs ls (B.sub [0, 1, 2, 3, 4, 5, 6, 7, 8, 9, 10, 11, 12, 13, 14] rfl rfl) (lv_sub hl [0, 1, 2, 3, 4, 5] rfl)
    · have h := oif_f h c_3
      refine lv_iload_n hx hb dX5_build_38 rfl (lv_at hl 2 rfl) ?_
      refine lv_if_lt (tgt := 171) hx hb dX5_build_39 (by decide) (fun c_4 => ?_) (fun c_4 => ?_)
      · have h := oif_t h c_4
        obtain ⟨g1, k1⟩ := Prod.mk.inj (Option.some.inj h)
        obtain ⟨g2, k2⟩ := Prod.mk.inj k1
        subst g1 g2 k2
        exact K H locs ls (B.sub [0, 1, 2, 3, 4, 5, 6, 7, 8, 9, 10, 11, 12, 13, 14] rfl rfl) (lv_sub hl [0, 1, 2, 3, 4, 5] rfl)
      · have h := oif_f h c_4
        refine lv_aload_n hx hb dX5_build_42 rfl (lv_at hl 0 rfl) ?_
        refine xget (v := .ref o_firstColumns) C0 B inX5 0 rfl rfl 6 (by decide) wd_389 rfl dX5_build_43 ?_
        refine lv_iload_n hx hb dX5_build_46 rfl (lv_at hl 1 rfl) ?_
        obtain ⟨b_5, h⟩ := xin_spec h
        refine xiald C0 B 1 rfl b_5 dX5_build_47 ?_
        refine lv_iload hx hb dX5_build_48 (lv_at hl 5 rfl) ?_
        refine lv_aload_n hx hb dX5_build_50 rfl (lv_at hl 0 rfl) ?_
        refine xget (v := .ref o_columnSteps) C0 B inX5 0 rfl rfl 7 (by decide) wd_390 rfl dX5_build_51 ?_
        refine lv_iload_n hx hb dX5_build_54 rfl (lv_at hl 1 rfl) ?_
        obtain ⟨b_6, h⟩ := xin_spec h
        refine xiald C0 B 2 rfl b_6 dX5_build_55 ?_
        refine lv_imul hx hb dX5_build_56 ?_
        refine lv_iadd hx hb dX5_build_57 ?_
        refine lv_topi (fun s_7 es_7 => ?_)
        have h := xl_spec h es_7
        refine lv_istore (lv' := [(6, .int s_7), (0, .ref o), (1, .int y1), (2, .int y2), (3, .ref o_line), (4, .int y4), (5, .int y5)]) hx hb dX5_build_58 hl (by decide) rfl (fun ls hl => ?_)
        refine lv_aload_n hx hb dX5_build_60 rfl (lv_at hl 1 rfl) ?_
        refine xget (v := .ref o_firstRows) C0 B inX5 0 rfl rfl 8 (by decide) wd_391 rfl dX5_build_61 ?_
        refine lv_iload_n hx hb dX5_build_64 rfl (lv_at hl 2 rfl) ?_
        obtain ⟨b_8, h⟩ := xin_spec h
        refine xiald C0 B 3 rfl b_8 dX5_build_65 ?_
        refine lv_iload_n hx hb dX5_build_66 rfl (lv_at hl 3 rfl) ?_
        refine lv_aload_n hx hb dX5_build_67 rfl (lv_at hl 1 rfl) ?_
        refine xget (v := .ref o_rowSteps) C0 B inX5 0 rfl rfl 9 (by decide) wd_392 rfl dX5_build_68 ?_
        refine lv_iload_n hx hb dX5_build_71 rfl (lv_at hl 2 rfl) ?_
        obtain ⟨b_9, h⟩ := xin_spec h
        refine xiald C0 B 4 rfl b_9 dX5_build_72 ?_
        refine lv_imul hx hb dX5_build_73 ?_
        refine lv_iadd hx hb dX5_build_74 ?_
        refine lv_topi (fun s_10 es_10 => ?_)
        have h := xl_spec h es_10
        refine lv_istore (lv' := [(7, .int s_10), (6, .int s_7), (0, .ref o), (1, .int y1), (2, .int y2), (3, .ref o_line), (4, .int y4), (5, .int y5)]) hx hb dX5_build_75 hl (by decide) rfl (fun ls hl => ?_)
        refine lv_iconst (v := 0) hx hb dX5_build_77 (by decide) ?_
        refine lv_istore (lv' := [(8, .int (0 : Int32)), (7, .int s_10), (6, .int s_7), (0, .ref o), (1, .int y1), (2, .int y2), (3, .ref o_line), (4, .int y4), (5, .int y5)]) hx hb dX5_build_78 hl (by decide) rfl (fun ls hl => ?_)
        obtain ⟨⟨v_11, v_12, w_13⟩, e_14, h⟩ := xb_spec h
        refine lo_X5_build_o_line_80 C0 n o o_thrown o_width o_height o_bits o_channels o_step o_firstColumns o_firstColumnsN o_firstColumnsF o_columnSteps o_columnStepsN o_columnStepsF o_firstRows o_firstRowsN o_firstRowsF o_rowSteps o_rowStepsN o_rowStepsF o_samples o_samplesN o_samplesF o_draft o_draftN o_draftF o_line o_lineN o_lineF o_above o_aboveN o_aboveF o_rest o_restN o_restF o_seen o_seenN o_seenF o_encoded o_encodedN o_encodedF o_encodedSize o_chosen o_chosenN o_chosenF o_feed o_feedN o_feedF o_feedSize o_colours o_coloursN o_coloursF o_colourCount y1 y2 y4 y5 s_7 s_10 (0 : Int32) v_11 v_12 w_13 e_14 H locs ls (B.sub [0, 1, 2, 3, 4, 5, 6, 7, 8, 9, 10, 11, 12, 13, 14] rfl rfl) (lv_sub hl [3, 4, 5, 6, 7, 8, 2, 1, 0] rfl) (fun H locs ls B hl => ?_)
        refine lv_iinc (v := (y5 + (1 : Int32))) (lv' := [(5, .int (y5 + (1 : Int32))), (0, .ref o), (1, .int y1), (2, .int y2), (3, .ref o_line), (4, .int v_11), (6, .int s_7), (7, .int s_10), (8, .int v_12)]) hx hb dX5_build_165 hl (k := 5) rfl rfl (by decide) rfl (fun ls hl => ?_)
        refine lv_goto (tgt := 28) hx hb dX5_build_168 (by decide) ?_
        exact ih o o_thrown o_width o_height o_bits o_channels o_step o_firstColumns o_firstColumnsN o_firstColumnsF o_columnSteps o_columnStepsN o_columnStepsF o_firstRows o_firstRowsN o_firstRowsF o_rowSteps o_rowStepsN o_rowStepsF o_samples o_samplesN o_samplesF o_draft o_draftN o_draftF o_line o_lineN w_13 o_above o_aboveN o_aboveF o_rest o_restN o_restF o_seen o_seenN o_seenF o_encoded o_encodedN o_encodedF o_encodedSize o_chosen o_chosenN o_chosenF o_feed o_feedN o_feedF o_feedSize o_colours o_coloursN o_coloursF o_colourCount y1 y2 v_11 (y5 + (1 : Int32)) _ _ _ h H locs ls (B.sub [0, 1, 2, 3, 4, 5, 6, 7, 8, 9, 10, 11, 12, 13, 14] rfl rfl) (lv_sub hl [1, 2, 3, 4, 5, 0] rfl) K
set_option maxHeartbeats 4000000 in
set_option maxRecDepth 100000 in
theorem c_X5_build_o_line (l : Launch) (G : xG) (o : Nat) (o_thrown : Int32) (o_width : Int32) (o_height : Int32) (o_bits : Int32) (o_channels : Int32) (o_step : Int32) (o_firstColumns : Nat) (o_firstColumnsN : Nat) (o_firstColumnsF : Nat → Int32) (o_columnSteps : Nat) (o_columnStepsN : Nat) (o_columnStepsF : Nat → Int32) (o_firstRows : Nat) (o_firstRowsN : Nat) (o_firstRowsF : Nat → Int32) (o_rowSteps : Nat) (o_rowStepsN : Nat) (o_rowStepsF : Nat → Int32) (o_samples : Nat) (o_samplesN : Nat) (o_samplesF : Nat → Int32) (o_draft : Nat) (o_draftN : Nat) (o_draftF : Nat → Int32) (o_line : Nat) (o_lineN : Nat) (o_lineF : Nat → Int32) (o_above : Nat) (o_aboveN : Nat) (o_aboveF : Nat → Int32) (o_rest : Nat) (o_restN : Nat) (o_restF : Nat → Int32) (o_seen : Nat) (o_seenN : Nat) (o_seenF : Nat → Int32) (o_encoded : Nat) (o_encodedN : Nat) (o_encodedF : Nat → Int32) (o_encodedSize : Int32) (o_chosen : Nat) (o_chosenN : Nat) (o_chosenF : Nat → Int32) (o_feed : Nat) (o_feedN : Nat) (o_feedF : Nat → Int32) (o_feedSize : Int32) (o_colours : Nat) (o_coloursN : Nat) (o_coloursF : Nat → Int32) (o_colourCount : Int32) (x1 : Int32) (x2 : Int32) (n : Nat) (z_o_lineF : Nat → Int32) (hF : f_X5_build_o_line n o_width o_bits o_channels o_firstColumnsN o_firstColumnsF o_columnStepsN o_columnStepsF o_firstRowsN o_firstRowsF o_rowStepsN o_rowStepsF o_samplesN o_samplesF o_lineN o_lineF x1 x2 = some z_o_lineF) (sz : Nat) : Met l yX5_build (xws yX5_build cX5_build 11 none) rm_X5_build_o_line (va_Pc [.ref o, .int x1, .int x2, .ref o_line] (xPre G [(o, .inr (5, [.int o_thrown, .int o_width, .int o_height, .int o_bits, .int o_channels, .int o_step, .ref o_firstColumns, .ref o_columnSteps, .ref o_firstRows, .ref o_rowSteps, .ref o_samples, .ref o_draft, .ref o_line, .ref o_above, .ref o_rest, .ref o_seen, .ref o_encoded, .int o_encodedSize, .ref o_chosen, .ref o_feed, .int o_feedSize, .ref o_colours, .int o_colourCount])), (o_firstColumns, .inl (G.2.1, o_firstColumnsN, .inl o_firstColumnsF)), (o_columnSteps, .inl (G.2.1, o_columnStepsN, .inl o_columnStepsF)), (o_firstRows, .inl (G.2.1, o_firstRowsN, .inl o_firstRowsF)), (o_rowSteps, .inl (G.2.1, o_rowStepsN, .inl o_rowStepsF)), (o_samples, .inl (G.2.1, o_samplesN, .inl o_samplesF)), (o_draft, .inl (G.2.1, o_draftN, .inl o_draftF)), (o_line, .inl (G.2.1, o_lineN, .inl o_lineF)), (o_above, .inl (G.2.1, o_aboveN, .inl o_aboveF)), (o_rest, .inl (G.2.1, o_restN, .inl o_restF)), (o_seen, .inl (G.2.2.1, o_seenN, .inl o_seenF)), (o_encoded, .inl (G.2.1, o_encodedN, .inl o_encodedF)), (o_chosen, .inl (G.2.1, o_chosenN, .inl o_chosenF)), (o_feed, .inl (G.2.1, o_feedN, .inl o_feedF)), (o_colours, .inl (G.2.1, o_coloursN, .inl o_coloursF))] sz)) (xQ G none [(o, .inr (5, [.int o_thrown, .int o_width, .int o_height, .int o_bits, .int o_channels, .int o_step, .ref o_firstColumns, .ref o_columnSteps, .ref o_firstRows, .ref o_rowSteps, .ref o_samples, .ref o_draft, .ref o_line, .ref o_above, .ref o_rest, .ref o_seen, .ref o_encoded, .int o_encodedSize, .ref o_chosen, .ref o_feed, .int o_feedSize, .ref o_colours, .int o_colourCount])), (o_firstColumns, .inl (G.2.1, o_firstColumnsN, .inl o_firstColumnsF)), (o_columnSteps, .inl (G.2.1, o_columnStepsN, .inl o_columnStepsF)), (o_firstRows, .inl (G.2.1, o_firstRowsN, .inl o_firstRowsF)), (o_rowSteps, .inl (G.2.1, o_rowStepsN, .inl o_rowStepsF)), (o_samples, .inl (G.2.1, o_samplesN, .inl o_samplesF)), (o_draft, .inl (G.2.1, o_draftN, .inl o_draftF)), (o_line, .inl (G.2.1, o_lineN, .inl z_o_lineF)), (o_above, .inl (G.2.1, o_aboveN, .inl o_aboveF)), (o_rest, .inl (G.2.1, o_restN, .inl o_restF)), (o_seen, .inl (G.2.2.1, o_seenN, .inl o_seenF)), (o_encoded, .inl (G.2.1, o_encodedN, .inl o_encodedF)), (o_chosen, .inl (G.2.1, o_chosenN, .inl o_chosenF)), (o_feed, .inl (G.2.1, o_feedN, .inl o_feedF)), (o_colours, .inl (G.2.1, o_coloursN, .inl o_coloursF))] (va_A [(o, .inr (5, [.int o_thrown, .int o_width, .int o_height, .int o_bits, .int o_channels, .int o_step, .ref o_firstColumns, .ref o_columnSteps, .ref o_firstRows, .ref o_rowSteps, .ref o_samples, .ref o_draft, .ref o_line, .ref o_above, .ref o_rest, .ref o_seen, .ref o_encoded, .int o_encodedSize, .ref o_chosen, .ref o_feed, .int o_feedSize, .ref o_colours, .int o_colourCount])), (o_firstColumns, .inl (G.2.1, o_firstColumnsN, .inl o_firstColumnsF)), (o_columnSteps, .inl (G.2.1, o_columnStepsN, .inl o_columnStepsF)), (o_firstRows, .inl (G.2.1, o_firstRowsN, .inl o_firstRowsF)), (o_rowSteps, .inl (G.2.1, o_rowStepsN, .inl o_rowStepsF)), (o_samples, .inl (G.2.1, o_samplesN, .inl o_samplesF)), (o_draft, .inl (G.2.1, o_draftN, .inl o_draftF)), (o_line, .inl (G.2.1, o_lineN, .inl o_lineF)), (o_above, .inl (G.2.1, o_aboveN, .inl o_aboveF)), (o_rest, .inl (G.2.1, o_restN, .inl o_restF)), (o_seen, .inl (G.2.2.1, o_seenN, .inl o_seenF)), (o_encoded, .inl (G.2.1, o_encodedN, .inl o_encodedF)), (o_chosen, .inl (G.2.1, o_chosenN, .inl o_chosenF)), (o_feed, .inl (G.2.1, o_feedN, .inl o_feedF)), (o_colours, .inl (G.2.1, o_coloursN, .inl o_coloursF))] sz)) 0 0 (va_A [(o, .inr (5, [.int o_thrown, .int o_width, .int o_height, .int o_bits, .int o_channels, .int o_step, .ref o_firstColumns, .ref o_columnSteps, .ref o_firstRows, .ref o_rowSteps, .ref o_samples, .ref o_draft, .ref o_line, .ref o_above, .ref o_rest, .ref o_seen, .ref o_encoded, .int o_encodedSize, .ref o_chosen, .ref o_feed, .int o_feedSize, .ref o_colours, .int o_colourCount])), (o_firstColumns, .inl (G.2.1, o_firstColumnsN, .inl o_firstColumnsF)), (o_columnSteps, .inl (G.2.1, o_columnStepsN, .inl o_columnStepsF)), (o_firstRows, .inl (G.2.1, o_firstRowsN, .inl o_firstRowsF)), (o_rowSteps, .inl (G.2.1, o_rowStepsN, .inl o_rowStepsF)), (o_samples, .inl (G.2.1, o_samplesN, .inl o_samplesF)), (o_draft, .inl (G.2.1, o_draftN, .inl o_draftF)), (o_line, .inl (G.2.1, o_lineN, .inl o_lineF)), (o_above, .inl (G.2.1, o_aboveN, .inl o_aboveF)), (o_rest, .inl (G.2.1, o_restN, .inl o_restF)), (o_seen, .inl (G.2.2.1, o_seenN, .inl o_seenF)), (o_encoded, .inl (G.2.1, o_encodedN, .inl o_encodedF)), (o_chosen, .inl (G.2.1, o_chosenN, .inl o_chosenF)), (o_feed, .inl (G.2.1, o_feedN, .inl o_feedF)), (o_colours, .inl (G.2.1, o_coloursN, .inl o_coloursF))] sz) := by
  refine xMetQ (by decide) (Nat.le_of_ble_eq_true rfl) ?_
  intro p e s m below meth c ls A H locs C0 hnm B hl
  have hl : lv_has ls 11 [(0, .ref o), (1, .int x1), (2, .int x2), (3, .ref o_line)] := hl
  have h := hF
  unfold f_X5_build_o_line at h
  obtain ⟨hx, hb, hr, hml, hown, hts, hlk⟩ := id C0
  refine lv_iconst (v := 0) hx hb dX5_build_0 (by decide) ?_
  refine lv_istore (lv' := [(4, .int (0 : Int32)), (0, .ref o), (1, .int x1), (2, .int x2), (3, .ref o_line)]) hx hb dX5_build_1 hl (by decide) rfl (fun ls hl => ?_)
  obtain ⟨⟨v_1, w_2⟩, e_7, h⟩ := xb_spec h
  refine lo_X5_build_o_line_3 C0 n o o_thrown o_width o_height o_bits o_channels o_step o_firstColumns o_firstColumnsN o_firstColumnsF o_columnSteps o_columnStepsN o_columnStepsF o_firstRows o_firstRowsN o_firstRowsF o_rowSteps o_rowStepsN o_rowStepsF o_samples o_samplesN o_samplesF o_draft o_draftN o_draftF o_line o_lineN o_lineF o_above o_aboveN o_aboveF o_rest o_restN o_restF o_seen o_seenN o_seenF o_encoded o_encodedN o_encodedF o_encodedSize o_chosen o_chosenN o_chosenF o_feed o_feedN o_feedF o_feedSize o_colours o_coloursN o_coloursF o_colourCount x1 x2 (0 : Int32) v_1 w_2 e_7 H locs ls (B.sub [0, 1, 2, 3, 4, 5, 6, 7, 8, 9, 10, 11, 12, 13, 14] rfl rfl) (lv_sub hl [1, 2, 3, 4, 0] rfl) (fun H locs ls B hl => ?_)
  refine lv_iconst (v := 0) hx hb dX5_build_22 (by decide) ?_
  refine lv_istore (lv' := [(4, .int (0 : Int32)), (0, .ref o), (1, .int x1), (2, .int x2), (3, .ref o_line)]) hx hb dX5_build_23 hl (by decide) rfl (fun ls hl => ?_)
  refine lv_iconst (v := 0) hx hb dX5_build_25 (by decide) ?_
  refine lv_istore (lv' := [(5, .int (0 : Int32)), (4, .int (0 : Int32)), (0, .ref o), (1, .int x1), (2, .int x2), (3, .ref o_line)]) hx hb dX5_build_26 hl (by decide) rfl (fun ls hl => ?_)
  obtain ⟨⟨v_3, v_4, w_5⟩, e_6, h⟩ := xb_spec h
  refine lo_X5_build_o_line_28 C0 n o o_thrown o_width o_height o_bits o_channels o_step o_firstColumns o_firstColumnsN o_firstColumnsF o_columnSteps o_columnStepsN o_columnStepsF o_firstRows o_firstRowsN o_firstRowsF o_rowSteps o_rowStepsN o_rowStepsF o_samples o_samplesN o_samplesF o_draft o_draftN o_draftF o_line o_lineN w_2 o_above o_aboveN o_aboveF o_rest o_restN o_restF o_seen o_seenN o_seenF o_encoded o_encodedN o_encodedF o_encodedSize o_chosen o_chosenN o_chosenF o_feed o_feedN o_feedF o_feedSize o_colours o_coloursN o_coloursF o_colourCount x1 x2 (0 : Int32) (0 : Int32) v_3 v_4 w_5 e_6 H locs ls (B.sub [0, 1, 2, 3, 4, 5, 6, 7, 8, 9, 10, 11, 12, 13, 14] rfl rfl) (lv_sub hl [2, 3, 4, 5, 1, 0] rfl) (fun H locs ls B hl => ?_)
  obtain rfl := Option.some.inj h
  exact xretv C0 B [0, 1, 2, 3, 4, 5, 6, 7, 8, 9, 10, 11, 12, 13, 14] rfl rfl dX5_build_171
