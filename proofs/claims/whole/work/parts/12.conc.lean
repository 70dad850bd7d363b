/-! FilterRows$Picture.hasLine(II)Z -/
abbrev rm_X2_hasLine : Room := { frames := 3, cells := 0, slots := 0, locals := 64 }
def f_X2_hasLine (n : Nat) (o_width : Int32) (o_height : Int32) (x1 : Int32) (x2 : Int32) : Option Int32 := (if x2 < 0 then some (0 : Int32) else xb (f_X2_linesOf n o_width o_height x1) (fun r_2 => (if r_2 ≤ x2 then some (0 : Int32) else some (1 : Int32))))
set_option maxHeartbeats 4000000 in
set_option maxRecDepth 100000 in
theorem c_X2_hasLine (l : Launch) (G : xG) (o : Nat) (o_width : Int32) (o_height : Int32) (o_bits : Int32) (o_channels : Int32) (o_step : Int32) (o_mostSample : Int32) (o_samples : Nat) (o_samplesN : Nat) (o_samplesF : Nat → Int32) (o_draft : Nat) (o_draftN : Nat) (o_draftF : Nat → Int32) (x1 : Int32) (x2 : Int32) (n : Nat) (zr : Int32) (hF : f_X2_hasLine n o_width o_height x1 x2 = some zr) (sz : Nat) : Met l yX2_hasLine (xws yX2_hasLine cX2_hasLine 3 (some .boolean)) rm_X2_hasLine (va_Pc [.ref o, .int x1, .int x2] (xPre G [(o, .inr (2, [.int o_width, .int o_height, .int o_bits, .int o_channels, .int o_step, .int o_mostSample, .ref o_samples, .ref o_draft])), (o_samples, .inl (G.2.1, o_samplesN, .inl o_samplesF)), (o_draft, .inl (G.2.1, o_draftN, .inl o_draftF))] sz)) (xQR (some (.int zr)) (fun q => sz ≤ q)) 0 0 (fun q => sz ≤ q) := by
  refine xMetR (by decide) (Nat.le_of_ble_eq_true rfl) ?_
  intro p e s m below meth c ls A H locs C0 hnm B hl
  have hl : lv_has ls 3 [(0, .ref o), (1, .int x1), (2, .int x2)] := hl
  have h := hF
  unfold f_X2_hasLine at h
  obtain ⟨hx, hb, hr, hml, hown, hts, hlk⟩ := id C0
  refine lv_iload_n hx hb dX2_hasLine_0 rfl (lv_at hl 2 rfl) ?_
  refine lv_if_lt (tgt := 17) hx hb dX2_hasLine_1 (by decide) (fun c_1 => ?_) (fun c_1 => ?_)
  · have h := oif_t h c_1
    refine lv_iconst (v := 0) hx hb dX2_hasLine_17 (by decide) ?_
    obtain rfl := Option.some.inj h
    exact xretzR C0 B rfl dX2_hasLine_18
  · have h := oif_f h c_1
    refine lv_iload_n hx hb dX2_hasLine_4 rfl (lv_at hl 2 rfl) ?_
    refine lv_aload_n hx hb dX2_hasLine_5 rfl (lv_at hl 0 rfl) ?_
    refine lv_iload_n hx hb dX2_hasLine_6 rfl (lv_at hl 1 rfl) ?_
    obtain ⟨r_2, e_3, h⟩ := xb_spec h
    refine xcallR (wc := [(o, .inr (2, [.int o_width, .int o_height, .int o_bits, .int o_channels, .int o_step, .int o_mostSample, .ref o_samples, .ref o_draft])), (o_samples, .inl (G.2.1, o_samplesN, .inl o_samplesF)), (o_draft, .inl (G.2.1, o_draftN, .inl o_draftF))]) B [0, 1, 2] rfl rfl (xrunV C0 (c_X2_linesOf l G o o_width o_height o_bits o_channels o_step o_mostSample o_samples o_samplesN o_samplesF o_draft o_draftN o_draftF x1 n r_2 e_3 H.size) kb_X2_linesOf kv_X2_linesOf wd_149 (ci := 2) rfl rfl rfl rfl rfl ⟨Nat.le_of_ble_eq_true rfl, Nat.le_of_ble_eq_true rfl⟩ rfl hl rfl (Nat.le_of_ble_eq_true rfl) dX2_hasLine_7 ⟨Nat.le_of_ble_eq_true rfl, Nat.le_of_ble_eq_true rfl⟩) (fun H locs B => ?_)
    refine lv_icmp_ge (tgt := 17) hx hb dX2_hasLine_10 (by decide) (fun c_4 => ?_) (fun c_4 => ?_)
    · have h := oif_t h c_4
      refine lv_iconst (v := 0) hx hb dX2_hasLine_17 (by decide) ?_
      obtain rfl := Option.some.inj h
      exact xretzR C0 B rfl dX2_hasLine_18
    · have h := oif_f h c_4
      refine lv_iconst (v := 1) hx hb dX2_hasLine_13 (by decide) ?_
      refine lv_goto (tgt := 18) hx hb dX2_hasLine_14 (by decide) ?_
      obtain rfl := Option.some.inj h
      exact xretzR C0 B rfl dX2_hasLine_18
/-! FilterRows$Picture.sampleOfLine(III)I -/
abbrev rm_X2_sampleOfLine : Room := { frames := 1, cells := 0, slots := 0, locals := 23 }
def f_X2_sampleOfLine (n : Nat) (o_width : Int32) (o_channels : Int32) (x1 : Int32) (x2 : Int32) (x3 : Int32) : Option Int32 := xin x1 8 (xin x1 8 (xl ((tb_FIRST_COLUMN (x1).toNatClampNeg) + (x3 <<< ((tb_COLUMN_SHIFT (x1).toNatClampNeg) &&& 31))) (fun s_5 => xin x1 8 (xin x1 8 (xl ((tb_FIRST_ROW (x1).toNatClampNeg) + (x2 <<< ((tb_ROW_SHIFT (x1).toNatClampNeg) &&& 31))) (fun s_10 => xb (f_X2_indexOf n o_width o_channels s_5 s_10 (0 : Int32)) (fun r_11 => some r_11)))))))
set_option maxHeartbeats 4000000 in
set_option maxRecDepth 100000 in
theorem c_X2_sampleOfLine (l : Launch) (G : xG) (o : Nat) (o_width : Int32) (o_height : Int32) (o_bits : Int32) (o_channels : Int32) (o_step : Int32) (o_mostSample : Int32) (o_samples : Nat) (o_samplesN : Nat) (o_samplesF : Nat → Int32) (o_draft : Nat) (o_draftN : Nat) (o_draftF : Nat → Int32) (x1 : Int32) (x2 : Int32) (x3 : Int32) (n : Nat) (zr : Int32) (hF : f_X2_sampleOfLine n o_width o_channels x1 x2 x3 = some zr) (sz : Nat) : Met l yX2_sampleOfLine (xws yX2_sampleOfLine cX2_sampleOfLine 6 (some .int)) rm_X2_sampleOfLine (va_Pc [.ref o, .int x1, .int x2, .int x3] (xPre G [(o, .inr (2, [.int o_width, .int o_height, .int o_bits, .int o_channels, .int o_step, .int o_mostSample, .ref o_samples, .ref o_draft])), (o_samples, .inl (G.2.1, o_samplesN, .inl o_samplesF)), (o_draft, .inl (G.2.1, o_draftN, .inl o_draftF))] sz)) (xQR (some (.int zr)) (fun q => sz ≤ q)) 0 0 (fun q => sz ≤ q) := by
  refine xMetR (by decide) (Nat.le_of_ble_eq_true rfl) ?_
  intro p e s m below meth c ls A H locs C0 hnm B hl
  have hl : lv_has ls 6 [(0, .ref o), (1, .int x1), (2, .int x2), (3, .int x3)] := hl
  have h := hF
  unfold f_X2_sampleOfLine at h
  obtain ⟨hx, hb, hr, hml, hown, hts, hlk⟩ := id C0
  obtain ⟨t_1, hz_t_1, ht_t_1⟩ := xZ.FIRST_COLUMN B.Z
  refine va_gets hx hb hz_t_1 B.2.2.2.1 hown (hts _ wd_127) (fun _ h => h) dX2_sampleOfLine_0 ?_
  refine lv_iload_n hx hb dX2_sampleOfLine_3 rfl (lv_at hl 1 rfl) ?_
  obtain ⟨b_2, h⟩ := xin_spec h
  refine va_ti hx hb ht_t_1 B.2.2.2.1 b_2 rfl dX2_sampleOfLine_4 ?_
  refine lv_iload_n hx hb dX2_sampleOfLine_5 rfl (lv_at hl 3 rfl) ?_
  obtain ⟨t_3, hz_t_3, ht_t_3⟩ := xZ.COLUMN_SHIFT B.Z
  refine va_gets hx hb hz_t_3 B.2.2.2.1 hown (hts _ wd_128) (fun _ h => h) dX2_sampleOfLine_6 ?_
  refine lv_iload_n hx hb dX2_sampleOfLine_9 rfl (lv_at hl 1 rfl) ?_
  obtain ⟨b_4, h⟩ := xin_spec h
  refine va_ti hx hb ht_t_3 B.2.2.2.1 b_4 rfl dX2_sampleOfLine_10 ?_
  refine lv_ishl hx hb dX2_sampleOfLine_11 ?_
  refine lv_iadd hx hb dX2_sampleOfLine_12 ?_
  refine lv_topi (fun s_5 es_5 => ?_)
  have h := xl_spec h es_5
  refine lv_istore (lv' := [(4, .int s_5), (0, .ref o), (1, .int x1), (2, .int x2), (3, .int x3)]) hx hb dX2_sampleOfLine_13 hl (by decide) rfl (fun ls hl => ?_)
  obtain ⟨t_6, hz_t_6, ht_t_6⟩ := xZ.FIRST_ROW B.Z
  refine va_gets hx hb hz_t_6 B.2.2.2.1 hown (hts _ wd_133) (fun _ h => h) dX2_sampleOfLine_15 ?_
  refine lv_iload_n hx hb dX2_sampleOfLine_18 rfl (lv_at hl 2 rfl) ?_
  obtain ⟨b_7, h⟩ := xin_spec h
  refine va_ti hx hb ht_t_6 B.2.2.2.1 b_7 rfl dX2_sampleOfLine_19 ?_
  refine lv_iload_n hx hb dX2_sampleOfLine_20 rfl (lv_at hl 3 rfl) ?_
  obtain ⟨t_8, hz_t_8, ht_t_8⟩ := xZ.ROW_SHIFT B.Z
  refine va_gets hx hb hz_t_8 B.2.2.2.1 hown (hts _ wd_134) (fun _ h => h) dX2_sampleOfLine_21 ?_
  refine lv_iload_n hx hb dX2_sampleOfLine_24 rfl (lv_at hl 2 rfl) ?_
  obtain ⟨b_9, h⟩ := xin_spec h
  refine va_ti hx hb ht_t_8 B.2.2.2.1 b_9 rfl dX2_sampleOfLine_25 ?_
  refine lv_ishl hx hb dX2_sampleOfLine_26 ?_
  refine lv_iadd hx hb dX2_sampleOfLine_27 ?_
  refine lv_topi (fun s_10 es_10 => ?_)
  have h := xl_spec h es_10
  refine lv_istore (lv' := [(5, .int s_10), (4, .int s_5), (0, .ref o), (1, .int x1), (2, .int x2), (3, .int x3)]) hx hb dX2_sampleOfLine_28 hl (by decide) rfl (fun ls hl => ?_)
  refine lv_aload_n hx hb dX2_sampleOfLine_30 rfl (lv_at hl 2 rfl) ?_
  refine lv_iload hx hb dX2_sampleOfLine_31 (lv_at hl 1 rfl) ?_
  refine lv_iload hx hb dX2_sampleOfLine_33 (lv_at hl 0 rfl) ?_
  refine lv_iconst (v := 0) hx hb dX2_sampleOfLine_35 (by decide) ?_
  obtain ⟨r_11, e_12, h⟩ := xb_spec h
  refine xcallR (wc := [(o, .inr (2, [.int o_width, .int o_height, .int o_bits, .int o_channels, .int o_step, .int o_mostSample, .ref o_samples, .ref o_draft])), (o_samples, .inl (G.2.1, o_samplesN, .inl o_samplesF)), (o_draft, .inl (G.2.1, o_draftN, .inl o_draftF))]) B [0, 1, 2] rfl rfl (xrunV C0 (c_X2_indexOf l G o o_width o_height o_bits o_channels o_step o_mostSample o_samples o_samplesN o_samplesF o_draft o_draftN o_draftF s_5 s_10 (0 : Int32) n r_11 e_12 H.size) kb_X2_indexOf kv_X2_indexOf wd_93 (ci := 2) rfl rfl rfl rfl rfl ⟨Nat.le_of_ble_eq_true rfl, Nat.le_of_ble_eq_true rfl⟩ rfl hl rfl (Nat.le_of_ble_eq_true rfl) dX2_sampleOfLine_36 ⟨Nat.le_of_ble_eq_true rfl, Nat.le_of_ble_eq_true rfl⟩) (fun H locs B => ?_)
  obtain rfl := Option.some.inj h
  exact xretiR C0 B dX2_sampleOfLine_39
/-! FilterRows$Picture.packSample([III)V -/
abbrev rm_X2_packSample : Room := { frames := 0, cells := 0, slots := 0, locals := 0 }
def f_X2_packSample (n : Nat) (o_bits : Int32) (p1N : Nat) (p1F : Nat → Int32) (x2 : Int32) (x3 : Int32) : Option (Nat → Int32) := xl (x2 >>> ((3 : Int32) &&& 31)) (fun s_1 => (if o_bits ≤ (8 : Int32) then xin s_1 p1N (xin s_1 p1N (some (upd p1F (s_1).toNatClampNeg ((p1F (s_1).toNatClampNeg) ||| (x3 <<< ((((8 : Int32) - o_bits) - (x2 &&& (7 : Int32))) &&& 31)))))) else xin s_1 p1N (xin (s_1 + (1 : Int32)) p1N (some (upd (upd p1F (s_1).toNatClampNeg (x3 >>> ((8 : Int32) &&& 31))) ((s_1 + (1 : Int32))).toNatClampNeg (x3 &&& (255 : Int32)))))))
set_option maxHeartbeats 4000000 in
set_option maxRecDepth 100000 in
theorem c_X2_packSample (l : Launch) (G : xG) (o : Nat) (o_width : Int32) (o_height : Int32) (o_bits : Int32) (o_channels : Int32) (o_step : Int32) (o_mostSample : Int32) (o_samples : Nat) (o_samplesN : Nat) (o_samplesF : Nat → Int32) (o_draft : Nat) (o_draftN : Nat) (o_draftF : Nat → Int32) (p1 : Nat) (p1N : Nat) (p1F : Nat → Int32) (x2 : Int32) (x3 : Int32) (n : Nat) (z_p1F : Nat → Int32) (hF : f_X2_packSample n o_bits p1N p1F x2 x3 = some z_p1F) (sz : Nat) : Met l yX2_packSample (xws yX2_packSample cX2_packSample 5 none) rm_X2_packSample (va_Pc [.ref o, .ref p1, .int x2, .int x3] (xPre G [(o, .inr (2, [.int o_width, .int o_height, .int o_bits, .int o_channels, .int o_step, .int o_mostSample, .ref o_samples, .ref o_draft])), (o_samples, .inl (G.2.1, o_samplesN, .inl o_samplesF)), (o_draft, .inl (G.2.1, o_draftN, .inl o_draftF)), (p1, .inl (G.2.1, p1N, .inl p1F))] sz)) (xQ G none [(o, .inr (2, [.int o_width, .int o_height, .int o_bits, .int o_channels, .int o_step, .int o_mostSample, .ref o_samples, .ref o_draft])), (o_samples, .inl (G.2.1, o_samplesN, .inl o_samplesF)), (o_draft, .inl (G.2.1, o_draftN, .inl o_draftF)), (p1, .inl (G.2.1, p1N, .inl z_p1F))] (va_A [(o, .inr (2, [.int o_width, .int o_height, .int o_bits, .int o_channels, .int o_step, .int o_mostSample, .ref o_samples, .ref o_draft])), (o_samples, .inl (G.2.1, o_samplesN, .inl o_samplesF)), (o_draft, .inl (G.2.1, o_draftN, .inl o_draftF)), (p1, .inl (G.2.1, p1N, .inl p1F))] sz)) 0 0 (va_A [(o, .inr (2, [.int o_width, .int o_height, .int o_bits, .int o_channels, .int o_step, .int o_mostSample, .ref o_samples, .ref o_draft])), (o_samples, .inl (G.2.1, o_samplesN, .inl o_samplesF)), (o_draft, .inl (G.2.1, o_draftN, .inl o_draftF)), (p1, .inl (G.2.1, p1N, .inl p1F))] sz) := by
  refine xMetQ (by decide) (Nat.le_of_ble_eq_true rfl) ?_
  intro p e s m below meth c ls A H locs C0 hnm B hl
  have hl : lv_has ls 5 [(0, .ref o), (1, .ref p1), (2, .int x2), (3, .int x3)] := hl
  have h := hF
  unfold f_X2_packSample at h
  obtain ⟨hx, hb, hr, hml, hown, hts, hlk⟩ := id C0
  refine lv_iload_n hx hb dX2_packSample_0 rfl (lv_at hl 2 rfl) ?_
  refine lv_iconst (v := 3) hx hb dX2_packSample_1 (by decide) ?_
  refine lv_ishr hx hb dX2_packSample_2 ?_
  refine lv_topi (fun s_1 es_1 => ?_)
  have h := xl_spec h es_1
  refine lv_istore (lv' := [(4, .int s_1), (0, .ref o), (1, .ref p1), (2, .int x2), (3, .int x3)]) hx hb dX2_packSample_3 hl (by decide) rfl (fun ls hl => ?_)
  refine lv_aload_n hx hb dX2_packSample_5 rfl (lv_at hl 1 rfl) ?_
  refine xget (v := .int o_bits) C0 B inX2 0 rfl rfl 2 (by decide) wd_79 rfl dX2_packSample_6 ?_
  refine lv_bipush (v := 8) hx hb dX2_packSample_9 (by decide) ?_
  refine lv_icmp_le (tgt := 36) hx hb dX2_packSample_11 (by decide) (fun c_2 => ?_) (fun c_2 => ?_)
  · have h := oif_t h c_2
    refine lv_aload_n hx hb dX2_packSample_36 rfl (lv_at hl 2 rfl) ?_
    refine lv_iload hx hb dX2_packSample_37 (lv_at hl 0 rfl) ?_
    refine lv_dup2_11 hx hb dX2_packSample_39 rfl rfl ?_
    obtain ⟨b_3, h⟩ := xin_spec h
    refine xiald C0 B 3 rfl b_3 dX2_packSample_40 ?_
    refine lv_iload_n hx hb dX2_packSample_41 rfl (lv_at hl 4 rfl) ?_
    refine lv_bipush (v := 8) hx hb dX2_packSample_42 (by decide) ?_
    refine lv_aload_n hx hb dX2_packSample_44 rfl (lv_at hl 1 rfl) ?_
    refine xget (v := .int o_bits) C0 B inX2 0 rfl rfl 2 (by decide) wd_79 rfl dX2_packSample_45 ?_
    refine lv_isub hx hb dX2_packSample_48 ?_
    refine lv_iload_n hx hb dX2_packSample_49 rfl (lv_at hl 3 rfl) ?_
    refine lv_bipush (v := 7) hx hb dX2_packSample_50 (by decide) ?_
    refine lv_iand hx hb dX2_packSample_52 ?_
    refine lv_isub hx hb dX2_packSample_53 ?_
    refine lv_ishl hx hb dX2_packSample_54 ?_
    refine lv_ior hx hb dX2_packSample_55 ?_
    obtain ⟨b_4, h⟩ := xin_spec h
    refine xiast (ws' := [(o, .inr (2, [.int o_width, .int o_height, .int o_bits, .int o_channels, .int o_step, .int o_mostSample, .ref o_samples, .ref o_draft])), (o_samples, .inl (G.2.1, o_samplesN, .inl o_samplesF)), (o_draft, .inl (G.2.1, o_draftN, .inl o_draftF)), (p1, .inl (G.2.1, p1N, .inl (upd p1F (s_1).toNatClampNeg ((p1F (s_1).toNatClampNeg) ||| (x3 <<< ((((8 : Int32) - o_bits) - (x2 &&& (7 : Int32))) &&& 31))))))]) C0 B 3 rfl b_4 rfl dX2_packSample_56 (fun H locs B => ?_)
    obtain rfl := Option.some.inj h
    exact xretv C0 B [0, 1, 2, 3] rfl rfl dX2_packSample_57
  · have h := oif_f h c_2
    refine lv_aload_n hx hb dX2_packSample_14 rfl (lv_at hl 2 rfl) ?_
    refine lv_iload hx hb dX2_packSample_15 (lv_at hl 0 rfl) ?_
    refine lv_iload_n hx hb dX2_packSample_17 rfl (lv_at hl 4 rfl) ?_
    refine lv_bipush (v := 8) hx hb dX2_packSample_18 (by decide) ?_
    refine lv_ishr hx hb dX2_packSample_20 ?_
    obtain ⟨b_5, h⟩ := xin_spec h
    refine xiast (ws' := [(o, .inr (2, [.int o_width, .int o_height, .int o_bits, .int o_channels, .int o_step, .int o_mostSample, .ref o_samples, .ref o_draft])), (o_samples, .inl (G.2.1, o_samplesN, .inl o_samplesF)), (o_draft, .inl (G.2.1, o_draftN, .inl o_draftF)), (p1, .inl (G.2.1, p1N, .inl (upd p1F (s_1).toNatClampNeg (x3 >>> ((8 : Int32) &&& 31)))))]) C0 B 3 rfl b_5 rfl dX2_packSample_21 (fun H locs B => ?_)
    refine lv_aload_n hx hb dX2_packSample_22 rfl (lv_at hl 2 rfl) ?_
    refine lv_iload hx hb dX2_packSample_23 (lv_at hl 0 rfl) ?_
    refine lv_iconst (v := 1) hx hb dX2_packSample_25 (by decide) ?_
    refine lv_iadd hx hb dX2_packSample_26 ?_
    refine lv_iload_n hx hb dX2_packSample_27 rfl (lv_at hl 4 rfl) ?_
    refine lv_sipush (v := 255) hx hb dX2_packSample_28 (by decide) ?_
    refine lv_iand hx hb dX2_packSample_31 ?_
    obtain ⟨b_6, h⟩ := xin_spec h
    refine xiast (ws' := [(o, .inr (2, [.int o_width, .int o_height, .int o_bits, .int o_channels, .int o_step, .int o_mostSample, .ref o_samples, .ref o_draft])), (o_samples, .inl (G.2.1, o_samplesN, .inl o_samplesF)), (o_draft, .inl (G.2.1, o_draftN, .inl o_draftF)), (p1, .inl (G.2.1, p1N, .inl (upd (upd p1F (s_1).toNatClampNeg (x3 >>> ((8 : Int32) &&& 31))) ((s_1 + (1 : Int32))).toNatClampNeg (x3 &&& (255 : Int32)))))]) C0 B 3 rfl b_6 rfl dX2_packSample_32 (fun H locs B => ?_)
    refine lv_goto (tgt := 57) hx hb dX2_packSample_33 (by decide) ?_
    obtain rfl := Option.some.inj h
    exact xretv C0 B [0, 1, 2, 3] rfl rfl dX2_packSample_57
/-! FilterRows$Picture.packLine(II[I)V -/
abbrev rm_X2_packLine : Room := { frames := 4, cells := 0, slots := 0, locals := 86 }
def fl_X2_packLine_58 : Nat → Int32 → Int32 → Nat → (Nat → Int32) → Nat → (Nat → Int32) → Int32 → Int32 → Int32 → Int32 → Int32 → Int32 → Int32 → Option (Int32 × Int32 × (Nat → Int32))
  | 0, _, _, _, _, _, _, _, _, _, _, _, _, _ => none
  | n + 1, o_bits, o_channels, o_samplesN, o_samplesF, p3N, p3F, y1, y2, y4, y5, y6, y7, y8 => (if o_channels ≤ y8 then some (y5, y8, p3F) else xin (y7 + y8) o_samplesN (xb (f_X2_packSample n o_bits p3N p3F y5 (o_samplesF ((y7 + y8)).toNatClampNeg)) (fun w_3 => fl_X2_packLine_58 n o_bits o_channels o_samplesN o_samplesF p3N w_3 y1 y2 y4 (y5 + o_bits) y6 y7 (y8 + (1 : Int32)))))
def fl_X2_packLine_38 : Nat → Int32 → Int32 → Int32 → Nat → (Nat → Int32) → Nat → (Nat → Int32) → Int32 → Int32 → Int32 → Int32 → Int32 → Option (Int32 × Int32 × (Nat → Int32))
  | 0, _, _, _, _, _, _, _, _, _, _, _, _ => none
  | n + 1, o_width, o_bits, o_channels, o_samplesN, o_samplesF, p3N, p3F, y1, y2, y4, y5, y6 => (if y4 ≤ y6 then some (y5, y6, p3F) else xb (f_X2_sampleOfLine n o_width o_channels y1 y2 y6) (fun r_2 => xb (fl_X2_packLine_58 n o_bits o_channels o_samplesN o_samplesF p3N p3F y1 y2 y4 y5 y6 r_2 (0 : Int32)) (fun (v_4, v_5, w_6) => fl_X2_packLine_38 n o_width o_bits o_channels o_samplesN o_samplesF p3N w_6 y1 y2 y4 v_4 (y6 + (1 : Int32)))))
def f_X2_packLine (n : Nat) (o_width : Int32) (o_height : Int32) (o_bits : Int32) (o_channels : Int32) (o_samplesN : Nat) (o_samplesF : Nat → Int32) (p3N : Nat) (p3F : Nat → Int32) (x1 : Int32) (x2 : Int32) : Option (Nat → Int32) := xb (f_JA_fill n p3N p3F (0 : Int32)) (fun w_1 => xb (f_X2_hasLine n o_width o_height x1 x2) (fun r_3 => (if r_3 = 0 then some w_1 else xb (f_X2_lineBytes n o_width o_height o_bits o_channels x1) (fun r_6 => (if r_6 ≤ (nI p3N) then xb (f_X2_columnsOf n o_width x1) (fun r_9 => xb (fl_X2_packLine_38 n o_width o_bits o_channels o_samplesN o_samplesF p3N w_1 x1 x2 r_9 (0 : Int32) (0 : Int32)) (fun (v_11, v_12, w_13) => some w_13)) else some w_1)))))
set_option maxHeartbeats 4000000 in
set_option maxRecDepth 100000 in
theorem lo_X2_packLine_58 {p : Program} {l : Launch} {e : Env} {s : State} {m : MethodId} {args : Array Value} {below : List Frame} {meth : Method} {c : Code} {Q : State → Prop} {G : xG} {A : Nat → Prop} (C0 : xC p s m args meth c "FilterRows$Picture" cX2_packLine 9 none) : ∀ (n : Nat) (o : Nat) (o_width : Int32) (o_height : Int32) (o_bits : Int32) (o_channels : Int32) (o_step : Int32) (o_mostSample : Int32) (o_samples : Nat) (o_samplesN : Nat) (o_samplesF : Nat → Int32) (o_draft : Nat) (o_draftN : Nat) (o_draftF : Nat → Int32) (p3 : Nat) (p3N : Nat) (p3F : Nat → Int32) (y1 : Int32) (y2 : Int32) (y4 : Int32) (y5 : Int32) (y6 : Int32) (y7 : Int32) (y8 : Int32) (z5 : Int32) (z8 : Int32) (z_p3F : Nat → Int32), fl_X2_packLine_58 n o_bits o_channels o_samplesN o_samplesF p3N p3F y1 y2 y4 y5 y6 y7 y8 = some (z5, z8, z_p3F) → ∀ (H : Heap) (locs : List Loc) (ls : Array Slot), xW G true A s [(o, .inr (2, [.int o_width, .int o_height, .int o_bits, .int o_channels, .int o_step, .int o_mostSample, .ref o_samples, .ref o_draft])), (o_samples, .inl (G.2.1, o_samplesN, .inl o_samplesF)), (o_draft, .inl (G.2.1, o_draftN, .inl o_draftF)), (p3, .inl (G.2.1, p3N, .inl p3F))] H locs → lv_has ls 9 [(0, .ref o), (1, .int y1), (2, .int y2), (3, .ref p3), (4, .int y4), (5, .int y5), (6, .int y6), (7, .int y7), (8, .int y8)] → (∀ (H : Heap) (locs : List Loc) (ls : Array Slot), xW G true A s [(o, .inr (2, [.int o_width, .int o_height, .int o_bits, .int o_channels, .int o_step, .int o_mostSample, .ref o_samples, .ref o_draft])), (o_samples, .inl (G.2.1, o_samplesN, .inl o_samplesF)), (o_draft, .inl (G.2.1, o_draftN, .inl o_draftF)), (p3, .inl (G.2.1, p3N, .inl z_p3F))] H locs → lv_has ls 9 [(0, .ref o), (1, .int y1), (2, .int y2), (3, .ref p3), (4, .int y4), (5, .int z5), (6, .int y6), (7, .int y7), (8, .int z8)] → W p l e rm_X2_packLine s m args below meth c H locs 0 0 Q (F0 m 99 ls [])) → W p l e rm_X2_packLine s m args below meth c H locs 0 0 Q (F0 m 58 ls []) := by
  obtain ⟨hx, hb, hr, hml, hown, hts, hlk⟩ := id C0
  intro n
  induction n with
  | zero =>
    intro o o_width o_height o_bits o_channels o_step o_mostSample o_samples o_samplesN o_samplesF o_draft o_draftN o_draftF p3 p3N p3F y1 y2 y4 y5 y6 y7 y8 z5 z8 z_p3F h
    rw [fl_X2_packLine_58] at h
    cases h
  | succ n ih =>
    intro o o_width o_height o_bits o_channels o_step o_mostSample o_samples o_samplesN o_samplesF o_draft o_draftN o_draftF p3 p3N p3F y1 y2 y4 y5 y6 y7 y8 z5 z8 z_p3F h H locs ls B hl K
    rw [fl_X2_packLine_58] at h
    refine lv_iload hx hb dX2_packLine_58 (lv_at hl 8 rfl) ?_
    refine lv_aload_n hx hb dX2_packLine_60 rfl (lv_at hl 0 rfl) ?_
    refine xget (v := .int o_channels) C0 B inX2 0 rfl rfl 3 (by decide) wd_78 rfl dX2_packLine_61 ?_
    refine lv_icmp_ge (tgt := 99) hx hb dX2_packLine_64 (by decide) (fun c_1 => ?_) (fun c_1 => ?_)
    · have h := oif_t h c_1
      obtain ⟨g1, k1⟩ := Prod.mk.inj (Option.some.inj h)
      obtain ⟨g2, k2⟩ := Prod.mk.inj k1
      subst g1 g2 k2
      exact K H locs ls (B.sub [0, 1, 2, 3] rfl rfl) (lv_sub hl [0, 1, 2, 3, 4, 5, 6, 7, 8] rfl)
    · have h := oif_f h c_1
      refine lv_aload_n hx hb dX2_packLine_67 rfl (lv_at hl 0 rfl) ?_
      refine lv_aload_n hx hb dX2_packLine_68 rfl (lv_at hl 3 rfl) ?_
      refine lv_iload hx hb dX2_packLine_69 (lv_at hl 5 rfl) ?_
      refine lv_aload_n hx hb dX2_packLine_71 rfl (lv_at hl 0 rfl) ?_
      refine xget (v := .ref o_samples) C0 B inX2 0 rfl rfl 6 (by decide) wd_82 rfl dX2_packLine_72 ?_
      refine lv_iload hx hb dX2_packLine_75 (lv_at hl 7 rfl) ?_
      refine lv_iload hx hb dX2_packLine_77 (lv_at hl 8 rfl) ?_
      refine lv_iadd hx hb dX2_packLine_79 ?_
      obtain ⟨b_2, h⟩ := xin_spec h
      refine xiald C0 B 1 rfl b_2 dX2_packLine_80 ?_
      obtain ⟨w_3, e_4, h⟩ := xb_spec h
      refine xcall0 (wc := [(o, .inr (2, [.int o_width, .int o_height, .int o_bits, .int o_channels, .int o_step, .int o_mostSample, .ref o_samples, .ref o_draft])), (o_samples, .inl (G.2.1, o_samplesN, .inl o_samplesF)), (o_draft, .inl (G.2.1, o_draftN, .inl o_draftF)), (p3, .inl (G.2.1, p3N, .inl p3F))]) (wr := []) (w1 := [(o, .inr (2, [.int o_width, .int o_height, .int o_bits, .int o_channels, .int o_step, .int o_mostSample, .ref o_samples, .ref o_draft])), (o_samples, .inl (G.2.1, o_samplesN, .inl o_samplesF)), (o_draft, .inl (G.2.1, o_draftN, .inl o_draftF)), (p3, .inl (G.2.1, p3N, .inl w_3))]) (ws' := [(o, .inr (2, [.int o_width, .int o_height, .int o_bits, .int o_channels, .int o_step, .int o_mostSample, .ref o_samples, .ref o_draft])), (o_samples, .inl (G.2.1, o_samplesN, .inl o_samplesF)), (o_draft, .inl (G.2.1, o_draftN, .inl o_draftF)), (p3, .inl (G.2.1, p3N, .inl w_3))]) B [0, 1, 2, 3] [] [0, 1, 2, 3] rfl rfl rfl rfl (by decide) rfl rfl (xrunV C0 (c_X2_packSample l G o o_width o_height o_bits o_channels o_step o_mostSample o_samples o_samplesN o_samplesF o_draft o_draftN o_draftF p3 p3N p3F y5 (o_samplesF ((y7 + y8)).toNatClampNeg) n w_3 e_4 H.size) kb_X2_packSample kv_X2_packSample wd_162 (ci := 2) rfl rfl rfl rfl rfl ⟨Nat.le_of_ble_eq_true rfl, Nat.le_of_ble_eq_true rfl⟩ rfl hl rfl (Nat.le_of_ble_eq_true rfl) dX2_packLine_81 ⟨Nat.le_of_ble_eq_true rfl, Nat.le_of_ble_eq_true rfl⟩) (fun H locs B => ?_)
      refine lv_iload hx hb dX2_packLine_84 (lv_at hl 5 rfl) ?_
      refine lv_aload_n hx hb dX2_packLine_86 rfl (lv_at hl 0 rfl) ?_
      refine xget (v := .int o_bits) C0 B inX2 0 rfl rfl 2 (by decide) wd_79 rfl dX2_packLine_87 ?_
      refine lv_iadd hx hb dX2_packLine_90 ?_
      refine lv_istore (lv' := [(5, .int (y5 + o_bits)), (0, .ref o), (1, .int y1), (2, .int y2), (3, .ref p3), (4, .int y4), (6, .int y6), (7, .int y7), (8, .int y8)]) hx hb dX2_packLine_91 hl (by decide) rfl (fun ls hl => ?_)
      refine lv_iinc (v := (y8 + (1 : Int32))) (lv' := [(8, .int (y8 + (1 : Int32))), (5, .int (y5 + o_bits)), (0, .ref o), (1, .int y1), (2, .int y2), (3, .ref p3), (4, .int y4), (6, .int y6), (7, .int y7)]) hx hb dX2_packLine_93 hl (k := 8) rfl rfl (by decide) rfl (fun ls hl => ?_)
      refine lv_goto (tgt := 58) hx hb dX2_packLine_96 (by decide) ?_
      exact ih o o_width o_height o_bits o_channels o_step o_mostSample o_samples o_samplesN o_samplesF o_draft o_draftN o_draftF p3 p3N w_3 y1 y2 y4 (y5 + o_bits) y6 y7 (y8 + (1 : Int32)) _ _ _ h H locs ls (B.sub [0, 1, 2, 3] rfl rfl) (lv_sub hl [2, 3, 4, 5, 6, 1, 7, 8, 0] rfl) K
set_option maxHeartbeats 4000000 in
set_option maxRecDepth 100000 in
theorem lo_X2_packLine_38 {p : Program} {l : Launch} {e : Env} {s : State} {m : MethodId} {args : Array Value} {below : List Frame} {meth : Method} {c : Code} {Q : State → Prop} {G : xG} {A : Nat → Prop} (C0 : xC p s m args meth c "FilterRows$Picture" cX2_packLine 9 none) : ∀ (n : Nat) (o : Nat) (o_width : Int32) (o_height : Int32) (o_bits : Int32) (o_channels : Int32) (o_step : Int32) (o_mostSample : Int32) (o_samples : Nat) (o_samplesN : Nat) (o_samplesF : Nat → Int32) (o_draft : Nat) (o_draftN : Nat) (o_draftF : Nat → Int32) (p3 : Nat) (p3N : Nat) (p3F : Nat → Int32) (y1 : Int32) (y2 : Int32) (y4 : Int32) (y5 : Int32) (y6 : Int32) (z5 : Int32) (z6 : Int32) (z_p3F : Nat → Int32), fl_X2_packLine_38 n o_width o_bits o_channels o_samplesN o_samplesF p3N p3F y1 y2 y4 y5 y6 = some (z5, z6, z_p3F) → ∀ (H : Heap) (locs : List Loc) (ls : Array Slot), xW G true A s [(o, .inr (2, [.int o_width, .int o_height, .int o_bits, .int o_channels, .int o_step, .int o_mostSample, .ref o_samples, .ref o_draft])), (o_samples, .inl (G.2.1, o_samplesN, .inl o_samplesF)), (o_draft, .inl (G.2.1, o_draftN, .inl o_draftF)), (p3, .inl (G.2.1, p3N, .inl p3F))] H locs → lv_has ls 9 [(0, .ref o), (1, .int y1), (2, .int y2), (3, .ref p3), (4, .int y4), (5, .int y5), (6, .int y6)] → (∀ (H : Heap) (locs : List Loc) (ls : Array Slot), xW G true A s [(o, .inr (2, [.int o_width, .int o_height, .int o_bits, .int o_channels, .int o_step, .int o_mostSample, .ref o_samples, .ref o_draft])), (o_samples, .inl (G.2.1, o_samplesN, .inl o_samplesF)), (o_draft, .inl (G.2.1, o_draftN, .inl o_draftF)), (p3, .inl (G.2.1, p3N, .inl z_p3F))] H locs → lv_has ls 9 [(0, .ref o), (1, .int y1), (2, .int y2), (3, .ref p3), (4, .int y4), (5, .int z5), (6, .int z6)] → W p l e rm_X2_packLine s m args below meth c H locs 0 0 Q (F0 m 105 ls [])) → W p l e rm_X2_packLine s m args below meth c H locs 0 0 Q (F0 m 38 ls []) := by
  obtain ⟨hx, hb, hr, hml, hown, hts, hlk⟩ := id C0
  intro n
  induction n with
  | zero =>
    intro o o_width o_height o_bits o_channels o_step o_mostSample o_samples o_samplesN o_samplesF o_draft o_draftN o_draftF p3 p3N p3F y1 y2 y4 y5 y6 z5 z6 z_p3F h
    rw [fl_X2_packLine_38] at h
    cases h
  | succ n ih =>
    intro o o_width o_height o_bits o_channels o_step o_mostSample o_samples o_samplesN o_samplesF o_draft o_draftN o_draftF p3 p3N p3F y1 y2 y4 y5 y6 z5 z6 z_p3F h H locs ls B hl K
    rw [fl_X2_packLine_38] at h
    refine lv_iload hx hb dX2_packLine_38 (lv_at hl 6 rfl) ?_
    refine lv_iload hx hb dX2_packLine_40 (lv_at hl 4 rfl) ?_
    refine lv_icmp_ge (tgt := 105) hx hb dX2_packLine_42 (by decide) (fun c_1 => ?_) (fun c_1 => ?_)
    · have h := oif_t h c_1
      obtain ⟨g1, k1⟩ := Prod.mk.inj (Option.some.inj h)
      obtain ⟨g2, k2⟩ := Prod.mk.inj k1
      subst g1 g2 k2
      exact K H locs ls (B.sub [0, 1, 2, 3] rfl rfl) (lv_sub hl [0, 1, 2, 3, 4, 5, 6] rfl)
    · have h := oif_f h c_1
      refine lv_aload_n hx hb dX2_packLine_45 rfl (lv_at hl 0 rfl) ?_
      refine lv_iload_n hx hb dX2_packLine_46 rfl (lv_at hl 1 rfl) ?_
      refine lv_iload_n hx hb dX2_packLine_47 rfl (lv_at hl 2 rfl) ?_
      refine lv_iload hx hb dX2_packLine_48 (lv_at hl 6 rfl) ?_
      obtain ⟨r_2, e_3, h⟩ := xb_spec h
      refine xcallR (wc := [(o, .inr (2, [.int o_width, .int o_height, .int o_bits, .int o_channels, .int o_step, .int o_mostSample, .ref o_samples, .ref o_draft])), (o_samples, .inl (G.2.1, o_samplesN, .inl o_samplesF)), (o_draft, .inl (G.2.1, o_draftN, .inl o_draftF))]) B [0, 1, 2] rfl rfl (xrunV C0 (c_X2_sampleOfLine l G o o_width o_height o_bits o_channels o_step o_mostSample o_samples o_samplesN o_samplesF o_draft o_draftN o_draftF y1 y2 y6 n r_2 e_3 H.size) kb_X2_sampleOfLine kv_X2_sampleOfLine wd_158 (ci := 2) rfl rfl rfl rfl rfl ⟨Nat.le_of_ble_eq_true rfl, Nat.le_of_ble_eq_true rfl⟩ rfl hl rfl (Nat.le_of_ble_eq_true rfl) dX2_packLine_50 ⟨Nat.le_of_ble_eq_true rfl, Nat.le_of_ble_eq_true rfl⟩) (fun H locs B => ?_)
      refine lv_istore (lv' := [(7, .int r_2), (0, .ref o), (1, .int y1), (2, .int y2), (3, .ref p3), (4, .int y4), (5, .int y5), (6, .int y6)]) hx hb dX2_packLine_53 hl (by decide) rfl (fun ls hl => ?_)
      refine lv_iconst (v := 0) hx hb dX2_packLine_55 (by decide) ?_
      refine lv_istore (lv' := [(8, .int (0 : Int32)), (7, .int r_2), (0, .ref o), (1, .int y1), (2, .int y2), (3, .ref p3), (4, .int y4), (5, .int y5), (6, .int y6)]) hx hb dX2_packLine_56 hl (by decide) rfl (fun ls hl => ?_)
      obtain ⟨⟨v_4, v_5, w_6⟩, e_7, h⟩ := xb_spec h
      refine lo_X2_packLine_58 C0 n o o_width o_height o_bits o_channels o_step o_mostSample o_samples o_samplesN o_samplesF o_draft o_draftN o_draftF p3 p3N p3F y1 y2 y4 y5 y6 r_2 (0 : Int32) v_4 v_5 w_6 e_7 H locs ls (B.sub [0, 1, 2, 3] rfl rfl) (lv_sub hl [2, 3, 4, 5, 6, 7, 8, 1, 0] rfl) (fun H locs ls B hl => ?_)
      refine lv_iinc (v := (y6 + (1 : Int32))) (lv' := [(6, .int (y6 + (1 : Int32))), (0, .ref o), (1, .int y1), (2, .int y2), (3, .ref p3), (4, .int y4), (5, .int v_4), (7, .int r_2), (8, .int v_5)]) hx hb dX2_packLine_99 hl (k := 6) rfl rfl (by decide) rfl (fun ls hl => ?_)
      refine lv_goto (tgt := 38) hx hb dX2_packLine_102 (by decide) ?_
      exact ih o o_width o_height o_bits o_channels o_step o_mostSample o_samples o_samplesN o_samplesF o_draft o_draftN o_draftF p3 p3N w_6 y1 y2 y4 v_4 (y6 + (1 : Int32)) _ _ _ h H locs ls (B.sub [0, 1, 2, 3] rfl rfl) (lv_sub hl [1, 2, 3, 4, 5, 6, 0] rfl) K
set_option maxHeartbeats 4000000 in
set_option maxRecDepth 100000 in
theorem c_X2_packLine (l : Launch) (G : xG) (o : Nat) (o_width : Int32) (o_height : Int32) (o_bits : Int32) (o_channels : Int32) (o_step : Int32) (o_mostSample : Int32) (o_samples : Nat) (o_samplesN : Nat) (o_samplesF : Nat → Int32) (o_draft : Nat) (o_draftN : Nat) (o_draftF : Nat → Int32) (p3 : Nat) (p3N : Nat) (p3F : Nat → Int32) (x1 : Int32) (x2 : Int32) (n : Nat) (z_p3F : Nat → Int32) (hF : f_X2_packLine n o_width o_height o_bits o_channels o_samplesN o_samplesF p3N p3F x1 x2 = some z_p3F) (sz : Nat) : Met l yX2_packLine (xws yX2_packLine cX2_packLine 9 none) rm_X2_packLine (va_Pc [.ref o, .int x1, .int x2, .ref p3] (xPre G [(o, .inr (2, [.int o_width, .int o_height, .int o_bits, .int o_channels, .int o_step, .int o_mostSample, .ref o_samples, .ref o_draft])), (o_samples, .inl (G.2.1, o_samplesN, .inl o_samplesF)), (o_draft, .inl (G.2.1, o_draftN, .inl o_draftF)), (p3, .inl (G.2.1, p3N, .inl p3F))] sz)) (xQ G none [(o, .inr (2, [.int o_width, .int o_height, .int o_bits, .int o_channels, .int o_step, .int o_mostSample, .ref o_samples, .ref o_draft])), (o_samples, .inl (G.2.1, o_samplesN, .inl o_samplesF)), (o_draft, .inl (G.2.1, o_draftN, .inl o_draftF)), (p3, .inl (G.2.1, p3N, .inl z_p3F))] (va_A [(o, .inr (2, [.int o_width, .int o_height, .int o_bits, .int o_channels, .int o_step, .int o_mostSample, .ref o_samples, .ref o_draft])), (o_samples, .inl (G.2.1, o_samplesN, .inl o_samplesF)), (o_draft, .inl (G.2.1, o_draftN, .inl o_draftF)), (p3, .inl (G.2.1, p3N, .inl p3F))] sz)) 0 0 (va_A [(o, .inr (2, [.int o_width, .int o_height, .int o_bits, .int o_channels, .int o_step, .int o_mostSample, .ref o_samples, .ref o_draft])), (o_samples, .inl (G.2.1, o_samplesN, .inl o_samplesF)), (o_draft, .inl (G.2.1, o_draftN, .inl o_draftF)), (p3, .inl (G.2.1, p3N, .inl p3F))] sz) := by
  refine xMetQ (by decide) (Nat.le_of_ble_eq_true rfl) ?_
  intro p e s m below meth c ls A H locs C0 hnm B hl
  have hl : lv_has ls 9 [(0, .ref o), (1, .int x1), (2, .int x2), (3, .ref p3)] := hl
  have h := hF
  unfold f_X2_packLine at h
  obtain ⟨hx, hb, hr, hml, hown, hts, hlk⟩ := id C0
  refine lv_aload_n hx hb dX2_packLine_0 rfl (lv_at hl 3 rfl) ?_
  refine lv_iconst (v := 0) hx hb dX2_packLine_1 (by decide) ?_
  obtain ⟨w_1, e_2, h⟩ := xb_spec h
  refine xcall0 (wc := [(p3, .inl (G.2.1, p3N, .inl p3F))]) (wr := [(o, .inr (2, [.int o_width, .int o_height, .int o_bits, .int o_channels, .int o_step, .int o_mostSample, .ref o_samples, .ref o_draft])), (o_samples, .inl (G.2.1, o_samplesN, .inl o_samplesF)), (o_draft, .inl (G.2.1, o_draftN, .inl o_draftF))]) (w1 := [(p3, .inl (G.2.1, p3N, .inl w_1))]) (ws' := [(o, .inr (2, [.int o_width, .int o_height, .int o_bits, .int o_channels, .int o_step, .int o_mostSample, .ref o_samples, .ref o_draft])), (o_samples, .inl (G.2.1, o_samplesN, .inl o_samplesF)), (o_draft, .inl (G.2.1, o_draftN, .inl o_draftF)), (p3, .inl (G.2.1, p3N, .inl w_1))]) B [3] [0, 1, 2] [0, 1, 2, 3] rfl rfl rfl rfl (by decide) rfl rfl (xrunS C0 (c_JA_fill l G p3 p3N p3F (0 : Int32) n w_1 e_2 H.size) kb_JA_fill kv_JA_fill wd_107 rfl rfl ⟨Nat.le_of_ble_eq_true rfl, Nat.le_of_ble_eq_true rfl⟩ rfl hl rfl (Nat.le_of_ble_eq_true rfl) dX2_packLine_2 ⟨Nat.le_of_ble_eq_true rfl, Nat.le_of_ble_eq_true rfl⟩) (fun H locs B => ?_)
  refine lv_aload_n hx hb dX2_packLine_5 rfl (lv_at hl 0 rfl) ?_
  refine lv_iload_n hx hb dX2_packLine_6 rfl (lv_at hl 1 rfl) ?_
  refine lv_iload_n hx hb dX2_packLine_7 rfl (lv_at hl 2 rfl) ?_
  obtain ⟨r_3, e_4, h⟩ := xb_spec h
  refine xcallR (wc := [(o, .inr (2, [.int o_width, .int o_height, .int o_bits, .int o_channels, .int o_step, .int o_mostSample, .ref o_samples, .ref o_draft])), (o_samples, .inl (G.2.1, o_samplesN, .inl o_samplesF)), (o_draft, .inl (G.2.1, o_draftN, .inl o_draftF))]) B [0, 1, 2] rfl rfl (xrunV C0 (c_X2_hasLine l G o o_width o_height o_bits o_channels o_step o_mostSample o_samples o_samplesN o_samplesF o_draft o_draftN o_draftF x1 x2 n r_3 e_4 H.size) kb_X2_hasLine kv_X2_hasLine wd_156 (ci := 2) rfl rfl rfl rfl rfl ⟨Nat.le_of_ble_eq_true rfl, Nat.le_of_ble_eq_true rfl⟩ rfl hl rfl (Nat.le_of_ble_eq_true rfl) dX2_packLine_8 ⟨Nat.le_of_ble_eq_true rfl, Nat.le_of_ble_eq_true rfl⟩) (fun H locs B => ?_)
  refine lv_if_eq (tgt := 24) hx hb dX2_packLine_11 (by decide) (fun c_5 => ?_) (fun c_5 => ?_)
  · have h := oif_t h c_5
    obtain rfl := Option.some.inj h
    exact xretv C0 B [0, 1, 2, 3] rfl rfl dX2_packLine_24
  · have h := oif_f h c_5
    refine lv_aload_n hx hb dX2_packLine_14 rfl (lv_at hl 3 rfl) ?_
    refine xalen C0 B 3 0 rfl rfl dX2_packLine_15 ?_
    refine lv_aload_n hx hb dX2_packLine_16 rfl (lv_at hl 0 rfl) ?_
    refine lv_iload_n hx hb dX2_packLine_17 rfl (lv_at hl 1 rfl) ?_
    obtain ⟨r_6, e_7, h⟩ := xb_spec h
    refine xcallR (wc := [(o, .inr (2, [.int o_width, .int o_height, .int o_bits, .int o_channels, .int o_step, .int o_mostSample, .ref o_samples, .ref o_draft])), (o_samples, .inl (G.2.1, o_samplesN, .inl o_samplesF)), (o_draft, .inl (G.2.1, o_draftN, .inl o_draftF))]) B [0, 1, 2] rfl rfl (xrunV C0 (c_X2_lineBytes l G o o_width o_height o_bits o_channels o_step o_mostSample o_samples o_samplesN o_samplesF o_draft o_draftN o_draftF x1 n r_6 e_7 H.size) kb_X2_lineBytes kv_X2_lineBytes wd_157 (ci := 2) rfl rfl rfl rfl rfl ⟨Nat.le_of_ble_eq_true rfl, Nat.le_of_ble_eq_true rfl⟩ rfl hl rfl (Nat.le_of_ble_eq_true rfl) dX2_packLine_18 ⟨Nat.le_of_ble_eq_true rfl, Nat.le_of_ble_eq_true rfl⟩) (fun H locs B => ?_)
    refine lv_icmp_ge (tgt := 25) hx hb dX2_packLine_21 (by decide) (fun c_8 => ?_) (fun c_8 => ?_)
    · have h := oif_t h c_8
      refine lv_aload_n hx hb dX2_packLine_25 rfl (lv_at hl 0 rfl) ?_
      refine lv_iload_n hx hb dX2_packLine_26 rfl (lv_at hl 1 rfl) ?_
      obtain ⟨r_9, e_10, h⟩ := xb_spec h
      refine xcallR (wc := [(o, .inr (2, [.int o_width, .int o_height, .int o_bits, .int o_channels, .int o_step, .int o_mostSample, .ref o_samples, .ref o_draft])), (o_samples, .inl (G.2.1, o_samplesN, .inl o_samplesF)), (o_draft, .inl (G.2.1, o_draftN, .inl o_draftF))]) B [0, 1, 2] rfl rfl (xrunV C0 (c_X2_columnsOf l G o o_width o_height o_bits o_channels o_step o_mostSample o_samples o_samplesN o_samplesF o_draft o_draftN o_draftF x1 n r_9 e_10 H.size) kb_X2_columnsOf kv_X2_columnsOf wd_138 (ci := 2) rfl rfl rfl rfl rfl ⟨Nat.le_of_ble_eq_true rfl, Nat.le_of_ble_eq_true rfl⟩ rfl hl rfl (Nat.le_of_ble_eq_true rfl) dX2_packLine_27 ⟨Nat.le_of_ble_eq_true rfl, Nat.le_of_ble_eq_true rfl⟩) (fun H locs B => ?_)
      refine lv_istore (lv' := [(4, .int r_9), (0, .ref o), (1, .int x1), (2, .int x2), (3, .ref p3)]) hx hb dX2_packLine_30 hl (by decide) rfl (fun ls hl => ?_)
      refine lv_iconst (v := 0) hx hb dX2_packLine_32 (by decide) ?_
      refine lv_istore (lv' := [(5, .int (0 : Int32)), (4, .int r_9), (0, .ref o), (1, .int x1), (2, .int x2), (3, .ref p3)]) hx hb dX2_packLine_33 hl (by decide) rfl (fun ls hl => ?_)
      refine lv_iconst (v := 0) hx hb dX2_packLine_35 (by decide) ?_
      refine lv_istore (lv' := [(6, .int (0 : Int32)), (5, .int (0 : Int32)), (4, .int r_9), (0, .ref o), (1, .int x1), (2, .int x2), (3, .ref p3)]) hx hb dX2_packLine_36 hl (by decide) rfl (fun ls hl => ?_)
      obtain ⟨⟨v_11, v_12, w_13⟩, e_14, h⟩ := xb_spec h
      refine lo_X2_packLine_38 C0 n o o_width o_height o_bits o_channels o_step o_mostSample o_samples o_samplesN o_samplesF o_draft o_draftN o_draftF p3 p3N w_1 x1 x2 r_9 (0 : Int32) (0 : Int32) v_11 v_12 w_13 e_14 H locs ls (B.sub [0, 1, 2, 3] rfl rfl) (lv_sub hl [3, 4, 5, 6, 2, 1, 0] rfl) (fun H locs ls B hl => ?_)
      obtain rfl := Option.some.inj h
      exact xretv C0 B [0, 1, 2, 3] rfl rfl dX2_packLine_105
    · have h := oif_f h c_8
      obtain rfl := Option.some.inj h
      exact xretv C0 B [0, 1, 2, 3] rfl rfl dX2_packLine_24
/-! FilterRows$Picture.unpackSample([II)I -/
abbrev rm_X2_unpackSample : Room := { frames := 0, cells := 0, slots := 0, locals := 0 }
def f_X2_unpackSample (n : Nat) (o_bits : Int32) (o_mostSample : Int32) (p1N : Nat) (p1F : Nat → Int32) (x2 : Int32) : Option Int32 := xl (x2 >>> ((3 : Int32) &&& 31)) (fun s_1 => (if o_bits ≤ (8 : Int32) then xin s_1 p1N (some (((p1F (s_1).toNatClampNeg) >>> ((((8 : Int32) - o_bits) - (x2 &&& (7 : Int32))) &&& 31)) &&& o_mostSample)) else xin s_1 p1N (xin (s_1 + (1 : Int32)) p1N (some (((p1F (s_1).toNatClampNeg) <<< ((8 : Int32) &&& 31)) ||| (p1F ((s_1 + (1 : Int32))).toNatClampNeg))))))
set_option maxHeartbeats 4000000 in
set_option maxRecDepth 100000 in
theorem c_X2_unpackSample (l : Launch) (G : xG) (o : Nat) (o_width : Int32) (o_height : Int32) (o_bits : Int32) (o_channels : Int32) (o_step : Int32) (o_mostSample : Int32) (o_samples : Nat) (o_samplesN : Nat) (o_samplesF : Nat → Int32) (o_draft : Nat) (o_draftN : Nat) (o_draftF : Nat → Int32) (p1 : Nat) (p1N : Nat) (p1F : Nat → Int32) (x2 : Int32) (n : Nat) (zr : Int32) (hF : f_X2_unpackSample n o_bits o_mostSample p1N p1F x2 = some zr) (sz : Nat) : Met l yX2_unpackSample (xws yX2_unpackSample cX2_unpackSample 4 (some .int)) rm_X2_unpackSample (va_Pc [.ref o, .ref p1, .int x2] (xPre G [(o, .inr (2, [.int o_width, .int o_height, .int o_bits, .int o_channels, .int o_step, .int o_mostSample, .ref o_samples, .ref o_draft])), (o_samples, .inl (G.2.1, o_samplesN, .inl o_samplesF)), (o_draft, .inl (G.2.1, o_draftN, .inl o_draftF)), (p1, .inl (G.2.1, p1N, .inl p1F))] sz)) (xQR (some (.int zr)) (fun q => sz ≤ q)) 0 0 (fun q => sz ≤ q) := by
  refine xMetR (by decide) (Nat.le_of_ble_eq_true rfl) ?_
  intro p e s m below meth c ls A H locs C0 hnm B hl
  have hl : lv_has ls 4 [(0, .ref o), (1, .ref p1), (2, .int x2)] := hl
  have h := hF
  unfold f_X2_unpackSample at h
  obtain ⟨hx, hb, hr, hml, hown, hts, hlk⟩ := id C0
  refine lv_iload_n hx hb dX2_unpackSample_0 rfl (lv_at hl 2 rfl) ?_
  refine lv_iconst (v := 3) hx hb dX2_unpackSample_1 (by decide) ?_
  refine lv_ishr hx hb dX2_unpackSample_2 ?_
  refine lv_topi (fun s_1 es_1 => ?_)
  have h := xl_spec h es_1
  refine lv_istore_n (lv' := [(3, .int s_1), (0, .ref o), (1, .ref p1), (2, .int x2)]) hx hb dX2_unpackSample_3 rfl hl (by decide) rfl (fun ls hl => ?_)
  refine lv_aload_n hx hb dX2_unpackSample_4 rfl (lv_at hl 1 rfl) ?_
  refine xget (v := .int o_bits) C0 B inX2 0 rfl rfl 2 (by decide) wd_79 rfl dX2_unpackSample_5 ?_
  refine lv_bipush (v := 8) hx hb dX2_unpackSample_8 (by decide) ?_
  refine lv_icmp_le (tgt := 26) hx hb dX2_unpackSample_10 (by decide) (fun c_2 => ?_) (fun c_2 => ?_)
  · have h := oif_t h c_2
    refine lv_aload_n hx hb dX2_unpackSample_26 rfl (lv_at hl 2 rfl) ?_
    refine lv_iload_n hx hb dX2_unpackSample_27 rfl (lv_at hl 0 rfl) ?_
    obtain ⟨b_3, h⟩ := xin_spec h
    refine xiald C0 B 3 rfl b_3 dX2_unpackSample_28 ?_
    refine lv_bipush (v := 8) hx hb dX2_unpackSample_29 (by decide) ?_
    refine lv_aload_n hx hb dX2_unpackSample_31 rfl (lv_at hl 1 rfl) ?_
    refine xget (v := .int o_bits) C0 B inX2 0 rfl rfl 2 (by decide) wd_79 rfl dX2_unpackSample_32 ?_
    refine lv_isub hx hb dX2_unpackSample_35 ?_
    refine lv_iload_n hx hb dX2_unpackSample_36 rfl (lv_at hl 3 rfl) ?_
    refine lv_bipush (v := 7) hx hb dX2_unpackSample_37 (by decide) ?_
    refine lv_iand hx hb dX2_unpackSample_39 ?_
    refine lv_isub hx hb dX2_unpackSample_40 ?_
    refine lv_ishr hx hb dX2_unpackSample_41 ?_
    refine lv_aload_n hx hb dX2_unpackSample_42 rfl (lv_at hl 1 rfl) ?_
    refine xget (v := .int o_mostSample) C0 B inX2 0 rfl rfl 5 (by decide) wd_81 rfl dX2_unpackSample_43 ?_
    refine lv_iand hx hb dX2_unpackSample_46 ?_
    obtain rfl := Option.some.inj h
    exact xretiR C0 B dX2_unpackSample_47
  · have h := oif_f h c_2
    refine lv_aload_n hx hb dX2_unpackSample_13 rfl (lv_at hl 2 rfl) ?_
    refine lv_iload_n hx hb dX2_unpackSample_14 rfl (lv_at hl 0 rfl) ?_
    obtain ⟨b_4, h⟩ := xin_spec h
    refine xiald C0 B 3 rfl b_4 dX2_unpackSample_15 ?_
    refine lv_bipush (v := 8) hx hb dX2_unpackSample_16 (by decide) ?_
    refine lv_ishl hx hb dX2_unpackSample_18 ?_
    refine lv_aload_n hx hb dX2_unpackSample_19 rfl (lv_at hl 2 rfl) ?_
    refine lv_iload_n hx hb dX2_unpackSample_20 rfl (lv_at hl 0 rfl) ?_
    refine lv_iconst (v := 1) hx hb dX2_unpackSample_21 (by decide) ?_
    refine lv_iadd hx hb dX2_unpackSample_22 ?_
    obtain ⟨b_5, h⟩ := xin_spec h
    refine xiald C0 B 3 rfl b_5 dX2_unpackSample_23 ?_
    refine lv_ior hx hb dX2_unpackSample_24 ?_
    obtain rfl := Option.some.inj h
    exact xretiR C0 B dX2_unpackSample_25
/-! FilterRows$Picture.unpackDraft(II[I)V -/
abbrev rm_X2_unpackDraft : Room := { frames := 4, cells := 0, slots := 0, locals := 86 }
def fl_X2_unpackDraft_53 : Nat → Int32 → Int32 → Int32 → Nat → (Nat → Int32) → Nat → (Nat → Int32) → Int32 → Int32 → Int32 → Int32 → Int32 → Int32 → Int32 → Option (Int32 × Int32 × (Nat → Int32))
  | 0, _, _, _, _, _, _, _, _, _, _, _, _, _, _ => none
  | n + 1, o_bits, o_channels, o_mostSample, o_draftN, o_draftF, p3N, p3F, y1, y2, y4, y5, y6, y7, y8 => (if o_channels ≤ y8 then some (y5, y8, o_draftF) else xb (f_X2_unpackSample n o_bits o_mostSample p3N p3F y5) (fun r_2 => xin (y7 + y8) o_draftN (fl_X2_unpackDraft_53 n o_bits o_channels o_mostSample o_draftN (upd o_draftF ((y7 + y8)).toNatClampNeg r_2) p3N p3F y1 y2 y4 (y5 + o_bits) y6 y7 (y8 + (1 : Int32)))))
def fl_X2_unpackDraft_33 : Nat → Int32 → Int32 → Int32 → Int32 → Nat → (Nat → Int32) → Nat → (Nat → Int32) → Int32 → Int32 → Int32 → Int32 → Int32 → Option (Int32 × Int32 × (Nat → Int32))
  | 0, _, _, _, _, _, _, _, _, _, _, _, _, _ => none
  | n + 1, o_width, o_bits, o_channels, o_mostSample, o_draftN, o_draftF, p3N, p3F, y1, y2, y4, y5, y6 => (if y4 ≤ y6 then some (y5, y6, o_draftF) else xb (f_X2_sampleOfLine n o_width o_channels y1 y2 y6) (fun r_2 => xb (fl_X2_unpackDraft_53 n o_bits o_channels o_mostSample o_draftN o_draftF p3N p3F y1 y2 y4 y5 y6 r_2 (0 : Int32)) (fun (v_4, v_5, w_6) => fl_X2_unpackDraft_33 n o_width o_bits o_channels o_mostSample o_draftN w_6 p3N p3F y1 y2 y4 v_4 (y6 + (1 : Int32)))))
def f_X2_unpackDraft (n : Nat) (o_width : Int32) (o_height : Int32) (o_bits : Int32) (o_channels : Int32) (o_mostSample : Int32) (o_draftN : Nat) (o_draftF : Nat → Int32) (p3N : Nat) (p3F : Nat → Int32) (x1 : Int32) (x2 : Int32) : Option (Nat → Int32) := xb (f_X2_hasLine n o_width o_height x1 x2) (fun r_1 => (if r_1 = 0 then some o_draftF else xb (f_X2_lineBytes n o_width o_height o_bits o_channels x1) (fun r_4 => (if r_4 ≤ (nI p3N) then xb (f_X2_columnsOf n o_width x1) (fun r_7 => xb (fl_X2_unpackDraft_33 n o_width o_bits o_channels o_mostSample o_draftN o_draftF p3N p3F x1 x2 r_7 (0 : Int32) (0 : Int32)) (fun (v_9, v_10, w_11) => some w_11)) else some o_draftF))))
set_option maxHeartbeats 4000000 in
set_option maxRecDepth 100000 in
theorem lo_X2_unpackDraft_53 {p : Program} {l : Launch} {e : Env} {s : State} {m : MethodId} {args : Array Value} {below : List Frame} {meth : Method} {c : Code} {Q : State → Prop} {G : xG} {A : Nat → Prop} (C0 : xC p s m args meth c "FilterRows$Picture" cX2_unpackDraft 9 none) : ∀ (n : Nat) (o : Nat) (o_width : Int32) (o_height : Int32) (o_bits : Int32) (o_channels : Int32) (o_step : Int32) (o_mostSample : Int32) (o_samples : Nat) (o_samplesN : Nat) (o_samplesF : Nat → Int32) (o_draft : Nat) (o_draftN : Nat) (o_draftF : Nat → Int32) (p3 : Nat) (p3N : Nat) (p3F : Nat → Int32) (y1 : Int32) (y2 : Int32) (y4 : Int32) (y5 : Int32) (y6 : Int32) (y7 : Int32) (y8 : Int32) (z5 : Int32) (z8 : Int32) (z_o_draftF : Nat → Int32), fl_X2_unpackDraft_53 n o_bits o_channels o_mostSample o_draftN o_draftF p3N p3F y1 y2 y4 y5 y6 y7 y8 = some (z5, z8, z_o_draftF) → ∀ (H : Heap) (locs : List Loc) (ls : Array Slot), xW G true A s [(o, .inr (2, [.int o_width, .int o_height, .int o_bits, .int o_channels, .int o_step, .int o_mostSample, .ref o_samples, .ref o_draft])), (o_samples, .inl (G.2.1, o_samplesN, .inl o_samplesF)), (o_draft, .inl (G.2.1, o_draftN, .inl o_draftF)), (p3, .inl (G.2.1, p3N, .inl p3F))] H locs → lv_has ls 9 [(0, .ref o), (1, .int y1), (2, .int y2), (3, .ref p3), (4, .int y4), (5, .int y5), (6, .int y6), (7, .int y7), (8, .int y8)] → (∀ (H : Heap) (locs : List Loc) (ls : Array Slot), xW G true A s [(o, .inr (2, [.int o_width, .int o_height, .int o_bits, .int o_channels, .int o_step, .int o_mostSample, .ref o_samples, .ref o_draft])), (o_samples, .inl (G.2.1, o_samplesN, .inl o_samplesF)), (o_draft, .inl (G.2.1, o_draftN, .inl z_o_draftF)), (p3, .inl (G.2.1, p3N, .inl p3F))] H locs → lv_has ls 9 [(0, .ref o), (1, .int y1), (2, .int y2), (3, .ref p3), (4, .int y4), (5, .int z5), (6, .int y6), (7, .int y7), (8, .int z8)] → W p l e rm_X2_unpackDraft s m args below meth c H locs 0 0 Q (F0 m 94 ls [])) → W p l e rm_X2_unpackDraft s m args below meth c H locs 0 0 Q (F0 m 53 ls []) := by
  obtain ⟨hx, hb, hr, hml, hown, hts, hlk⟩ := id C0
  intro n
  induction n with
  | zero =>
    intro o o_width o_height o_bits o_channels o_step o_mostSample o_samples o_samplesN o_samplesF o_draft o_draftN o_draftF p3 p3N p3F y1 y2 y4 y5 y6 y7 y8 z5 z8 z_o_draftF h
    rw [fl_X2_unpackDraft_53] at h
    cases h
  | succ n ih =>
    intro o o_width o_height o_bits o_channels o_step o_mostSample o_samples o_samplesN o_samplesF o_draft o_draftN o_draftF p3 p3N p3F y1 y2 y4 y5 y6 y7 y8 z5 z8 z_o_draftF h H locs ls B hl K
    rw [fl_X2_unpackDraft_53] at h
    refine lv_iload hx hb dX2_unpackDraft_53 (lv_at hl 8 rfl) ?_
    refine lv_aload_n hx hb dX2_unpackDraft_55 rfl (lv_at hl 0 rfl) ?_
    refine xget (v := .int o_channels) C0 B inX2 0 rfl rfl 3 (by decide) wd_78 rfl dX2_unpackDraft_56 ?_
    refine lv_icmp_ge (tgt := 94) hx hb dX2_unpackDraft_59 (by decide) (fun c_1 => ?_) (fun c_1 => ?_)
    · have h := oif_t h c_1
      obtain ⟨g1, k1⟩ := Prod.mk.inj (Option.some.inj h)
      obtain ⟨g2, k2⟩ := Prod.mk.inj k1
      subst g1 g2 k2
      exact K H locs ls (B.sub [0, 1, 2, 3] rfl rfl) (lv_sub hl [0, 1, 2, 3, 4, 5, 6, 7, 8] rfl)
    · have h := oif_f h c_1
      refine lv_aload_n hx hb dX2_unpackDraft_62 rfl (lv_at hl 0 rfl) ?_
      refine xget (v := .ref o_draft) C0 B inX2 0 rfl rfl 7 (by decide) wd_83 rfl dX2_unpackDraft_63 ?_
      refine lv_iload hx hb dX2_unpackDraft_66 (lv_at hl 7 rfl) ?_
      refine lv_iload hx hb dX2_unpackDraft_68 (lv_at hl 8 rfl) ?_
      refine lv_iadd hx hb dX2_unpackDraft_70 ?_
      refine lv_aload_n hx hb dX2_unpackDraft_71 rfl (lv_at hl 0 rfl) ?_
      refine lv_aload_n hx hb dX2_unpackDraft_72 rfl (lv_at hl 3 rfl) ?_
      refine lv_iload hx hb dX2_unpackDraft_73 (lv_at hl 5 rfl) ?_
      obtain ⟨r_2, e_3, h⟩ := xb_spec h
      refine xcallR (wc := [(o, .inr (2, [.int o_width, .int o_height, .int o_bits, .int o_channels, .int o_step, .int o_mostSample, .ref o_samples, .ref o_draft])), (o_samples, .inl (G.2.1, o_samplesN, .inl o_samplesF)), (o_draft, .inl (G.2.1, o_draftN, .inl o_draftF)), (p3, .inl (G.2.1, p3N, .inl p3F))]) B [0, 1, 2, 3] rfl rfl (xrunV C0 (c_X2_unpackSample l G o o_width o_height o_bits o_channels o_step o_mostSample o_samples o_samplesN o_samplesF o_draft o_draftN o_draftF p3 p3N p3F y5 n r_2 e_3 H.size) kb_X2_unpackSample kv_X2_unpackSample wd_169 (ci := 2) rfl rfl rfl rfl rfl ⟨Nat.le_of_ble_eq_true rfl, Nat.le_of_ble_eq_true rfl⟩ rfl hl rfl (Nat.le_of_ble_eq_true rfl) dX2_unpackDraft_75 ⟨Nat.le_of_ble_eq_true rfl, Nat.le_of_ble_eq_true rfl⟩) (fun H locs B => ?_)
      obtain ⟨b_4, h⟩ := xin_spec h
      refine xiast (ws' := [(o, .inr (2, [.int o_width, .int o_height, .int o_bits, .int o_channels, .int o_step, .int o_mostSample, .ref o_samples, .ref o_draft])), (o_samples, .inl (G.2.1, o_samplesN, .inl o_samplesF)), (o_draft, .inl (G.2.1, o_draftN, .inl (upd o_draftF ((y7 + y8)).toNatClampNeg r_2))), (p3, .inl (G.2.1, p3N, .inl p3F))]) C0 B 2 rfl b_4 rfl dX2_unpackDraft_78 (fun H locs B => ?_)
      refine lv_iload hx hb dX2_unpackDraft_79 (lv_at hl 5 rfl) ?_
      refine lv_aload_n hx hb dX2_unpackDraft_81 rfl (lv_at hl 0 rfl) ?_
      refine xget (v := .int o_bits) C0 B inX2 0 rfl rfl 2 (by decide) wd_79 rfl dX2_unpackDraft_82 ?_
      refine lv_iadd hx hb dX2_unpackDraft_85 ?_
      refine lv_istore (lv' := [(5, .int (y5 + o_bits)), (0, .ref o), (1, .int y1), (2, .int y2), (3, .ref p3), (4, .int y4), (6, .int y6), (7, .int y7), (8, .int y8)]) hx hb dX2_unpackDraft_86 hl (by decide) rfl (fun ls hl => ?_)
      refine lv_iinc (v := (y8 + (1 : Int32))) (lv' := [(8, .int (y8 + (1 : Int32))), (5, .int (y5 + o_bits)), (0, .ref o), (1, .int y1), (2, .int y2), (3, .ref p3), (4, .int y4), (6, .int y6), (7, .int y7)]) hx hb dX2_unpackDraft_88 hl (k := 8) rfl rfl (by decide) rfl (fun ls hl => ?_)
      refine lv_goto (tgt := 53) hx hb dX2_unpackDraft_91 (by decide) ?_
      exact ih o o_width o_height o_bits o_channels o_step o_mostSample o_samples o_samplesN o_samplesF o_draft o_draftN (upd o_draftF ((y7 + y8)).toNatClampNeg r_2) p3 p3N p3F y1 y2 y4 (y5 + o_bits) y6 y7 (y8 + (1 : Int32)) _ _ _ h H locs ls (B.sub [0, 1, 2, 3] rfl rfl) (lv_sub hl [2, 3, 4, 5, 6, 1, 7, 8, 0] rfl) K
set_option maxHeartbeats 4000000 in
set_option maxRecDepth 100000 in
theorem lo_X2_unpackDraft_33 {p : Program} {l : Launch} {e : Env} {s : State} {m : MethodId} {args : Array Value} {below : List Frame} {meth : Method} {c : Code} {Q : State → Prop} {G : xG} {A : Nat → Prop} (C0 : xC p s m args meth c "FilterRows$Picture" cX2_unpackDraft 9 none) : ∀ (n : Nat) (o : Nat) (o_width : Int32) (o_height : Int32) (o_bits : Int32) (o_channels : Int32) (o_step : Int32) (o_mostSample : Int32) (o_samples : Nat) (o_samplesN : Nat) (o_samplesF : Nat → Int32) (o_draft : Nat) (o_draftN : Nat) (o_draftF : Nat → Int32) (p3 : Nat) (p3N : Nat) (p3F : Nat → Int32) (y1 : Int32) (y2 : Int32) (y4 : Int32) (y5 : Int32) (y6 : Int32) (z5 : Int32) (z6 : Int32) (z_o_draftF : Nat → Int32), fl_X2_unpackDraft_33 n o_width o_bits o_channels o_mostSample o_draftN o_draftF p3N p3F y1 y2 y4 y5 y6 = some (z5, z6, z_o_draftF) → ∀ (H : Heap) (locs : List Loc) (ls : Array Slot), xW G true A s [(o, .inr (2, [.int o_width, .int o_height, .int o_bits, .int o_channels, .int o_step, .int o_mostSample, .ref o_samples, .ref o_draft])), (o_samples, .inl (G.2.1, o_samplesN, .inl o_samplesF)), (o_draft, .inl (G.2.1, o_draftN, .inl o_draftF)), (p3, .inl (G.2.1, p3N, .inl p3F))] H locs → lv_has ls 9 [(0, .ref o), (1, .int y1), (2, .int y2), (3, .ref p3), (4, .int y4), (5, .int y5), (6, .int y6)] → (∀ (H : Heap) (locs : List Loc) (ls : Array Slot), xW G true A s [(o, .inr (2, [.int o_width, .int o_height, .int o_bits, .int o_channels, .int o_step, .int o_mostSample, .ref o_samples, .ref o_draft])), (o_samples, .inl (G.2.1, o_samplesN, .inl o_samplesF)), (o_draft, .inl (G.2.1, o_draftN, .inl z_o_draftF)), (p3, .inl (G.2.1, p3N, .inl p3F))] H locs → lv_has ls 9 [(0, .ref o), (1, .int y1), (2, .int y2), (3, .ref p3), (4, .int y4), (5, .int z5), (6, .int z6)] → W p l e rm_X2_unpackDraft s m args below meth c H locs 0 0 Q (F0 m 100 ls [])) → W p l e rm_X2_unpackDraft s m args below meth c H locs 0 0 Q (F0 m 33 ls []) := by
  obtain ⟨hx, hb, hr, hml, hown, hts, hlk⟩ := id C0
  intro n
  induction n with
  | zero =>
    intro o o_width o_height o_bits o_channels o_step o_mostSample o_samples o_samplesN o_samplesF o_draft o_draftN o_draftF p3 p3N p3F y1 y2 y4 y5 y6 z5 z6 z_o_draftF h
    rw [fl_X2_unpackDraft_33] at h
    cases h
  | succ n ih =>
    intro o o_width o_height o_bits o_channels o_step o_mostSample o_samples o_samplesN o_samplesF o_draft o_draftN o_draftF p3 p3N p3F y1 y2 y4 y5 y6 z5 z6 z_o_draftF h H locs ls B hl K
    rw [fl_X2_unpackDraft_33] at h
    refine lv_iload hx hb dX2_unpackDraft_33 (lv_at hl 6 rfl) ?_
    refine lv_iload hx hb dX2_unpackDraft_35 (lv_at hl 4 rfl) ?_
    refine lv_icmp_ge (tgt := 100) hx hb dX2_unpackDraft_37 (by decide) (fun c_1 => ?_) (fun c_1 => ?_)
    · have h := oif_t h c_1
      obtain ⟨g1, k1⟩ := Prod.mk.inj (Option.some.inj h)
      obtain ⟨g2, k2⟩ := Prod.mk.inj k1
      subst g1 g2 k2
      exact K H locs ls (B.sub [0, 1, 2, 3] rfl rfl) (lv_sub hl [0, 1, 2, 3, 4, 5, 6] rfl)
    · have h := oif_f h c_1
      refine lv_aload_n hx hb dX2_unpackDraft_40 rfl (lv_at hl 0 rfl) ?_
      refine lv_iload_n hx hb dX2_unpackDraft_41 rfl (lv_at hl 1 rfl) ?_
      refine lv_iload_n hx hb dX2_unpackDraft_42 rfl (lv_at hl 2 rfl) ?_
      refine lv_iload hx hb dX2_unpackDraft_43 (lv_at hl 6 rfl) ?_
      obtain ⟨r_2, e_3, h⟩ := xb_spec h
      refine xcallR (wc := [(o, .inr (2, [.int o_width, .int o_height, .int o_bits, .int o_channels, .int o_step, .int o_mostSample, .ref o_samples, .ref o_draft])), (o_samples, .inl (G.2.1, o_samplesN, .inl o_samplesF)), (o_draft, .inl (G.2.1, o_draftN, .inl o_draftF))]) B [0, 1, 2] rfl rfl (xrunV C0 (c_X2_sampleOfLine l G o o_width o_height o_bits o_channels o_step o_mostSample o_samples o_samplesN o_samplesF o_draft o_draftN o_draftF y1 y2 y6 n r_2 e_3 H.size) kb_X2_sampleOfLine kv_X2_sampleOfLine wd_158 (ci := 2) rfl rfl rfl rfl rfl ⟨Nat.le_of_ble_eq_true rfl, Nat.le_of_ble_eq_true rfl⟩ rfl hl rfl (Nat.le_of_ble_eq_true rfl) dX2_unpackDraft_45 ⟨Nat.le_of_ble_eq_true rfl, Nat.le_of_ble_eq_true rfl⟩) (fun H locs B => ?_)
      refine lv_istore (lv' := [(7, .int r_2), (0, .ref o), (1, .int y1), (2, .int y2), (3, .ref p3), (4, .int y4), (5, .int y5), (6, .int y6)]) hx hb dX2_unpackDraft_48 hl (by decide) rfl (fun ls hl => ?_)
      refine lv_iconst (v := 0) hx hb dX2_unpackDraft_50 (by decide) ?_
      refine lv_istore (lv' := [(8, .int (0 : Int32)), (7, .int r_2), (0, .ref o), (1, .int y1), (2, .int y2), (3, .ref p3), (4, .int y4), (5, .int y5), (6, .int y6)]) hx hb dX2_unpackDraft_51 hl (by decide) rfl (fun ls hl => ?_)
      obtain ⟨⟨v_4, v_5, w_6⟩, e_7, h⟩ := xb_spec h
      refine lo_X2_unpackDraft_53 C0 n o o_width o_height o_bits o_channels o_step o_mostSample o_samples o_samplesN o_samplesF o_draft o_draftN o_draftF p3 p3N p3F y1 y2 y4 y5 y6 r_2 (0 : Int32) v_4 v_5 w_6 e_7 H locs ls (B.sub [0, 1, 2, 3] rfl rfl) (lv_sub hl [2, 3, 4, 5, 6, 7, 8, 1, 0] rfl) (fun H locs ls B hl => ?_)
      refine lv_iinc (v := (y6 + (1 : Int32))) (lv' := [(6, .int (y6 + (1 : Int32))), (0, .ref o), (1, .int y1), (2, .int y2), (3, .ref p3), (4, .int y4), (5, .int v_4), (7, .int r_2), (8, .int v_5)]) hx hb dX2_unpackDraft_94 hl (k := 6) rfl rfl (by decide) rfl (fun ls hl => ?_)
      refine lv_goto (tgt := 33) hx hb dX2_unpackDraft_97 (by decide) ?_
      exact ih o o_width o_height o_bits o_channels o_step o_mostSample o_samples o_samplesN o_samplesF o_draft o_draftN w_6 p3 p3N p3F y1 y2 y4 v_4 (y6 + (1 : Int32)) _ _ _ h H locs ls (B.sub [0, 1, 2, 3] rfl rfl) (lv_sub hl [1, 2, 3, 4, 5, 6, 0] rfl) K
set_option maxHeartbeats 4000000 in
set_option maxRecDepth 100000 in
theorem c_X2_unpackDraft (l : Launch) (G : xG) (o : Nat) (o_width : Int32) (o_height : Int32) (o_bits : Int32) (o_channels : Int32) (o_step : Int32) (o_mostSample : Int32) (o_samples : Nat) (o_samplesN : Nat) (o_samplesF : Nat → Int32) (o_draft : Nat) (o_draftN : Nat) (o_draftF : Nat → Int32) (p3 : Nat) (p3N : Nat) (p3F : Nat → Int32) (x1 : Int32) (x2 : Int32) (n : Nat) (z_o_draftF : Nat → Int32) (hF : f_X2_unpackDraft n o_width o_height o_bits o_channels o_mostSample o_draftN o_draftF p3N p3F x1 x2 = some z_o_draftF) (sz : Nat) : Met l yX2_unpackDraft (xws yX2_unpackDraft cX2_unpackDraft 9 none) rm_X2_unpackDraft (va_Pc [.ref o, .int x1, .int x2, .ref p3] (xPre G [(o, .inr (2, [.int o_width, .int o_height, .int o_bits, .int o_channels, .int o_step, .int o_mostSample, .ref o_samples, .ref o_draft])), (o_samples, .inl (G.2.1, o_samplesN, .inl o_samplesF)), (o_draft, .inl (G.2.1, o_draftN, .inl o_draftF)), (p3, .inl (G.2.1, p3N, .inl p3F))] sz)) (xQ G none [(o, .inr (2, [.int o_width, .int o_height, .int o_bits, .int o_channels, .int o_step, .int o_mostSample, .ref o_samples, .ref o_draft])), (o_samples, .inl (G.2.1, o_samplesN, .inl o_samplesF)), (o_draft, .inl (G.2.1, o_draftN, .inl z_o_draftF)), (p3, .inl (G.2.1, p3N, .inl p3F))] (va_A [(o, .inr (2, [.int o_width, .int o_height, .int o_bits, .int o_channels, .int o_step, .int o_mostSample, .ref o_samples, .ref o_draft])), (o_samples, .inl (G.2.1, o_samplesN, .inl o_samplesF)), (o_draft, .inl (G.2.1, o_draftN, .inl o_draftF)), (p3, .inl (G.2.1, p3N, .inl p3F))] sz)) 0 0 (va_A [(o, .inr (2, [.int o_width, .int o_height, .int o_bits, .int o_channels, .int o_step, .int o_mostSample, .ref o_samples, .ref o_draft])), (o_samples, .inl (G.2.1, o_samplesN, .inl o_samplesF)), (o_draft, .inl (G.2.1, o_draftN, .inl o_draftF)), (p3, .inl (G.2.1, p3N, .inl p3F))] sz) := by
  refine xMetQ (by decide) (Nat.le_of_ble_eq_true rfl) ?_
  intro p e s m below meth c ls A H locs C0 hnm B hl
  have hl : lv_has ls 9 [(0, .ref o), (1, .int x1), (2, .int x2), (3, .ref p3)] := hl
  have h := hF
  unfold f_X2_unpackDraft at h
  obtain ⟨hx, hb, hr, hml, hown, hts, hlk⟩ := id C0
  refine lv_aload_n hx hb dX2_unpackDraft_0 rfl (lv_at hl 0 rfl) ?_
  refine lv_iload_n hx hb dX2_unpackDraft_1 rfl (lv_at hl 1 rfl) ?_
  refine lv_iload_n hx hb dX2_unpackDraft_2 rfl (lv_at hl 2 rfl) ?_
  obtain ⟨r_1, e_2, h⟩ := xb_spec h
  refine xcallR (wc := [(o, .inr (2, [.int o_width, .int o_height, .int o_bits, .int o_channels, .int o_step, .int o_mostSample, .ref o_samples, .ref o_draft])), (o_samples, .inl (G.2.1, o_samplesN, .inl o_samplesF)), (o_draft, .inl (G.2.1, o_draftN, .inl o_draftF))]) B [0, 1, 2] rfl rfl (xrunV C0 (c_X2_hasLine l G o o_width o_height o_bits o_channels o_step o_mostSample o_samples o_samplesN o_samplesF o_draft o_draftN o_draftF x1 x2 n r_1 e_2 H.size) kb_X2_hasLine kv_X2_hasLine wd_156 (ci := 2) rfl rfl rfl rfl rfl ⟨Nat.le_of_ble_eq_true rfl, Nat.le_of_ble_eq_true rfl⟩ rfl hl rfl (Nat.le_of_ble_eq_true rfl) dX2_unpackDraft_3 ⟨Nat.le_of_ble_eq_true rfl, Nat.le_of_ble_eq_true rfl⟩) (fun H locs B => ?_)
  refine lv_if_eq (tgt := 19) hx hb dX2_unpackDraft_6 (by decide) (fun c_3 => ?_) (fun c_3 => ?_)
  · have h := oif_t h c_3
    obtain rfl := Option.some.inj h
    exact xretv C0 B [0, 1, 2, 3] rfl rfl dX2_unpackDraft_19
  · have h := oif_f h c_3
    refine lv_aload_n hx hb dX2_unpackDraft_9 rfl (lv_at hl 3 rfl) ?_
    refine xalen C0 B 3 0 rfl rfl dX2_unpackDraft_10 ?_
    refine lv_aload_n hx hb dX2_unpackDraft_11 rfl (lv_at hl 0 rfl) ?_
    refine lv_iload_n hx hb dX2_unpackDraft_12 rfl (lv_at hl 1 rfl) ?_
    obtain ⟨r_4, e_5, h⟩ := xb_spec h
    refine xcallR (wc := [(o, .inr (2, [.int o_width, .int o_height, .int o_bits, .int o_channels, .int o_step, .int o_mostSample, .ref o_samples, .ref o_draft])), (o_samples, .inl (G.2.1, o_samplesN, .inl o_samplesF)), (o_draft, .inl (G.2.1, o_draftN, .inl o_draftF))]) B [0, 1, 2] rfl rfl (xrunV C0 (c_X2_lineBytes l G o o_width o_height o_bits o_channels o_step o_mostSample o_samples o_samplesN o_samplesF o_draft o_draftN o_draftF x1 n r_4 e_5 H.size) kb_X2_lineBytes kv_X2_lineBytes wd_157 (ci := 2) rfl rfl rfl rfl rfl ⟨Nat.le_of_ble_eq_true rfl, Nat.le_of_ble_eq_true rfl⟩ rfl hl rfl (Nat.le_of_ble_eq_true rfl) dX2_unpackDraft_13 ⟨Nat.le_of_ble_eq_true rfl, Nat.le_of_ble_eq_true rfl⟩) (fun H locs B => ?_)
    refine lv_icmp_ge (tgt := 20) hx hb dX2_unpackDraft_16 (by decide) (fun c_6 => ?_) (fun c_6 => ?_)
    · have h := oif_t h c_6
      refine lv_aload_n hx hb dX2_unpackDraft_20 rfl (lv_at hl 0 rfl) ?_
      refine lv_iload_n hx hb dX2_unpackDraft_21 rfl (lv_at hl 1 rfl) ?_
      obtain ⟨r_7, e_8, h⟩ := xb_spec h
      refine xcallR (wc := [(o, .inr (2, [.int o_width, .int o_height, .int o_bits, .int o_channels, .int o_step, .int o_mostSample, .ref o_samples, .ref o_draft])), (o_samples, .inl (G.2.1, o_samplesN, .inl o_samplesF)), (o_draft, .inl (G.2.1, o_draftN, .inl o_draftF))]) B [0, 1, 2] rfl rfl (xrunV C0 (c_X2_columnsOf l G o o_width o_height o_bits o_channels o_step o_mostSample o_samples o_samplesN o_samplesF o_draft o_draftN o_draftF x1 n r_7 e_8 H.size) kb_X2_columnsOf kv_X2_columnsOf wd_138 (ci := 2) rfl rfl rfl rfl rfl ⟨Nat.le_of_ble_eq_true rfl, Nat.le_of_ble_eq_true rfl⟩ rfl hl rfl (Nat.le_of_ble_eq_true rfl) dX2_unpackDraft_22 ⟨Nat.le_of_ble_eq_true rfl, Nat.le_of_ble_eq_true rfl⟩) (fun H locs B => ?_)
      refine lv_istore (lv' := [(4, .int r_7), (0, .ref o), (1, .int x1), (2, .int x2), (3, .ref p3)]) hx hb dX2_unpackDraft_25 hl (by decide) rfl (fun ls hl => ?_)
      refine lv_iconst (v := 0) hx hb dX2_unpackDraft_27 (by decide) ?_
      refine lv_istore (lv' := [(5, .int (0 : Int32)), (4, .int r_7), (0, .ref o), (1, .int x1), (2, .int x2), (3, .ref p3)]) hx hb dX2_unpackDraft_28 hl (by decide) rfl (fun ls hl => ?_)
      refine lv_iconst (v := 0) hx hb dX2_unpackDraft_30 (by decide) ?_
      refine lv_istore (lv' := [(6, .int (0 : Int32)), (5, .int (0 : Int32)), (4, .int r_7), (0, .ref o), (1, .int x1), (2, .int x2), (3, .ref p3)]) hx hb dX2_unpackDraft_31 hl (by decide) rfl (fun ls hl => ?_)
      obtain ⟨⟨v_9, v_10, w_11⟩, e_12, h⟩ := xb_spec h
      refine lo_X2_unpackDraft_33 C0 n o o_width o_height o_bits o_channels o_step o_mostSample o_samples o_samplesN o_samplesF o_draft o_draftN o_draftF p3 p3N p3F x1 x2 r_7 (0 : Int32) (0 : Int32) v_9 v_10 w_11 e_12 H locs ls (B.sub [0, 1, 2, 3] rfl rfl) (lv_sub hl [3, 4, 5, 6, 2, 1, 0] rfl) (fun H locs ls B hl => ?_)
      obtain rfl := Option.some.inj h
      exact xretv C0 B [0, 1, 2, 3] rfl rfl dX2_unpackDraft_100
    · have h := oif_f h c_6
      obtain rfl := Option.some.inj h
      exact xretv C0 B [0, 1, 2, 3] rfl rfl dX2_unpackDraft_19
/-! FilterRows$Picture.takeDraft()V -/
abbrev rm_X2_takeDraft : Room := { frames := 1, cells := 0, slots := 0, locals := 40 }
def f_X2_takeDraft (n : Nat) (o_samplesN : Nat) (o_samplesF : Nat → Int32) (o_draftN : Nat) (o_draftF : Nat → Int32)  : Option (Nat → Int32) := xcp (0 : Int32) (0 : Int32) (nI o_samplesN) o_draftN o_samplesN (some (va_cpy o_draftF o_samplesF ((0 : Int32)).toNatClampNeg ((0 : Int32)).toNatClampNeg ((nI o_samplesN)).toNatClampNeg))
set_option maxHeartbeats 4000000 in
set_option maxRecDepth 100000 in
theorem c_X2_takeDraft (l : Launch) (G : xG) (o : Nat) (o_width : Int32) (o_height : Int32) (o_bits : Int32) (o_channels : Int32) (o_step : Int32) (o_mostSample : Int32) (o_samples : Nat) (o_samplesN : Nat) (o_samplesF : Nat → Int32) (o_draft : Nat) (o_draftN : Nat) (o_draftF : Nat → Int32)  (n : Nat) (z_o_samplesF : Nat → Int32) (hF : f_X2_takeDraft n o_samplesN o_samplesF o_draftN o_draftF = some z_o_samplesF) (sz : Nat) : Met l yX2_takeDraft (xws yX2_takeDraft cX2_takeDraft 1 none) rm_X2_takeDraft (va_Pc [.ref o] (xPre G [(o, .inr (2, [.int o_width, .int o_height, .int o_bits, .int o_channels, .int o_step, .int o_mostSample, .ref o_samples, .ref o_draft])), (o_samples, .inl (G.2.1, o_samplesN, .inl o_samplesF)), (o_draft, .inl (G.2.1, o_draftN, .inl o_draftF))] sz)) (xQ G none [(o, .inr (2, [.int o_width, .int o_height, .int o_bits, .int o_channels, .int o_step, .int o_mostSample, .ref o_samples, .ref o_draft])), (o_samples, .inl (G.2.1, o_samplesN, .inl z_o_samplesF)), (o_draft, .inl (G.2.1, o_draftN, .inl o_draftF))] (va_A [(o, .inr (2, [.int o_width, .int o_height, .int o_bits, .int o_channels, .int o_step, .int o_mostSample, .ref o_samples, .ref o_draft])), (o_samples, .inl (G.2.1, o_samplesN, .inl o_samplesF)), (o_draft, .inl (G.2.1, o_draftN, .inl o_draftF))] sz)) 0 0 (va_A [(o, .inr (2, [.int o_width, .int o_height, .int o_bits, .int o_channels, .int o_step, .int o_mostSample, .ref o_samples, .ref o_draft])), (o_samples, .inl (G.2.1, o_samplesN, .inl o_samplesF)), (o_draft, .inl (G.2.1, o_draftN, .inl o_draftF))] sz) := by
  refine xMetQ (by decide) (Nat.le_of_ble_eq_true rfl) ?_
  intro p e s m below meth c ls A H locs C0 hnm B hl
  have hl : lv_has ls 1 [(0, .ref o)] := hl
  have h := hF
  unfold f_X2_takeDraft at h
  obtain ⟨hx, hb, hr, hml, hown, hts, hlk⟩ := id C0
  refine lv_aload_n hx hb dX2_takeDraft_0 rfl (lv_at hl 0 rfl) ?_
  refine xget (v := .ref o_draft) C0 B inX2 0 rfl rfl 7 (by decide) wd_83 rfl dX2_takeDraft_1 ?_
  refine lv_iconst (v := 0) hx hb dX2_takeDraft_4 (by decide) ?_
  refine lv_aload_n hx hb dX2_takeDraft_5 rfl (lv_at hl 0 rfl) ?_
  refine xget (v := .ref o_samples) C0 B inX2 0 rfl rfl 6 (by decide) wd_82 rfl dX2_takeDraft_6 ?_
  refine lv_iconst (v := 0) hx hb dX2_takeDraft_9 (by decide) ?_
  refine lv_aload_n hx hb dX2_takeDraft_10 rfl (lv_at hl 0 rfl) ?_
  refine xget (v := .ref o_samples) C0 B inX2 0 rfl rfl 6 (by decide) wd_82 rfl dX2_takeDraft_11 ?_
  refine xalen C0 B 1 0 rfl rfl dX2_takeDraft_14 ?_
  obtain ⟨b_1, h⟩ := xcp_spec h
  refine xcopyi (ws' := [(o, .inr (2, [.int o_width, .int o_height, .int o_bits, .int o_channels, .int o_step, .int o_mostSample, .ref o_samples, .ref o_draft])), (o_samples, .inl (G.2.1, o_samplesN, .inl (va_cpy o_draftF o_samplesF ((0 : Int32)).toNatClampNeg ((0 : Int32)).toNatClampNeg ((nI o_samplesN)).toNatClampNeg))), (o_draft, .inl (G.2.1, o_draftN, .inl o_draftF))]) C0 B (hml.trans hl.1.symm) wd_173 wd_174 wd_175 wd_176 2 1 rfl rfl b_1 rfl (Nat.le_of_ble_eq_true rfl) (Nat.le_of_ble_eq_true rfl) dX2_takeDraft_15 (fun H locs B => ?_)
  obtain rfl := Option.some.inj h
  exact xretv C0 B [0, 1, 2] rfl rfl dX2_takeDraft_18
/-! FilterRows$Rows.<init>(II)V -/
abbrev rm_X3_init : Room := { frames := 1, cells := 4, slots := 640, locals := 21 }
def f_X3_init (n : Nat) (x1 : Int32) (x2 : Int32) : Option (Int32 × Nat × (Nat → Int32) × Int32 × Nat × (Nat → Int32) × Nat × (Nat → Int32) × Nat × (Nat → Int32) × Int32) := xnewn (256 : Int32) 256 (xnewn (if (0 : Int32) < x1 then x1 else (0 : Int32)) 128 (xnewn (nI (((if (0 : Int32) < x1 then x1 else (0 : Int32))).toNatClampNeg)) 128 (xnewn (nI (((if (0 : Int32) < x1 then x1 else (0 : Int32))).toNatClampNeg)) 128 (some (x2, ((256 : Int32)).toNatClampNeg, (fun _ => 0), 0, ((if (0 : Int32) < x1 then x1 else (0 : Int32))).toNatClampNeg, (fun _ => 0), ((nI (((if (0 : Int32) < x1 then x1 else (0 : Int32))).toNatClampNeg))).toNatClampNeg, (fun _ => 0), ((nI (((if (0 : Int32) < x1 then x1 else (0 : Int32))).toNatClampNeg))).toNatClampNeg, (fun _ => 0), 0)))))
set_option maxHeartbeats 4000000 in
set_option maxRecDepth 100000 in
theorem c_X3_init (l : Launch) (G : xG) (o : Nat) (x1 : Int32) (x2 : Int32) (n : Nat) (z_o_step : Int32) (z_o_seenN : Nat) (z_o_seenF : Nat → Int32) (z_o_counts : Int32) (z_o_restsN : Nat) (z_o_restsF : Nat → Int32) (z_o_currentN : Nat) (z_o_currentF : Nat → Int32) (z_o_aboveN : Nat) (z_o_aboveF : Nat → Int32) (z_o_length : Int32) (hF : f_X3_init n x1 x2 = some (z_o_step, z_o_seenN, z_o_seenF, z_o_counts, z_o_restsN, z_o_restsF, z_o_currentN, z_o_currentF, z_o_aboveN, z_o_aboveF, z_o_length)) (sz : Nat) : Met l yX3_init (xws yX3_init cX3_init 3 none) rm_X3_init (va_Pc [.ref o, .int x1, .int x2] (xPre G [(o, .inr (3, [.int 0, .null, .int 0, .null, .null, .null, .int 0]))] sz)) (xQB none (fun t => ∃ (o_seen : Nat) (o_rests : Nat) (o_current : Nat) (o_above : Nat), xPost G [(o, .inr (3, [.int z_o_step, .ref o_seen, .int z_o_counts, .ref o_rests, .ref o_current, .ref o_above, .int z_o_length])), (o_seen, .inl (G.2.1, z_o_seenN, .inl z_o_seenF)), (o_rests, .inl (G.2.1, z_o_restsN, .inl z_o_restsF)), (o_current, .inl (G.2.1, z_o_currentN, .inl z_o_currentF)), (o_above, .inl (G.2.1, z_o_aboveN, .inl z_o_aboveF))] (va_A [(o, .inr (3, [.int 0, .null, .int 0, .null, .null, .null, .int 0]))] sz) t) (va_A [(o, .inr (3, [.int 0, .null, .int 0, .null, .null, .null, .int 0]))] sz)) 4 640 (va_A [(o, .inr (3, [.int 0, .null, .int 0, .null, .null, .null, .int 0]))] sz) := by
  refine xMetB (B0 := fun A t => ∃ (o_seen : Nat) (o_rests : Nat) (o_current : Nat) (o_above : Nat), xPost G [(o, .inr (3, [.int z_o_step, .ref o_seen, .int z_o_counts, .ref o_rests, .ref o_current, .ref o_above, .int z_o_length])), (o_seen, .inl (G.2.1, z_o_seenN, .inl z_o_seenF)), (o_rests, .inl (G.2.1, z_o_restsN, .inl z_o_restsF)), (o_current, .inl (G.2.1, z_o_currentN, .inl z_o_currentF)), (o_above, .inl (G.2.1, z_o_aboveN, .inl z_o_aboveF))] A t) (by decide) (Nat.le_of_ble_eq_true rfl) ?_
  intro p e s m below meth c ls A H locs C0 hnm B hl
  have hl : lv_has ls 3 [(0, .ref o), (1, .int x1), (2, .int x2)] := hl
  have h := hF
  unfold f_X3_init at h
  obtain ⟨hx, hb, hr, hml, hown, hts, hlk⟩ := id C0
  refine lv_aload_n hx hb dX3_init_0 rfl (lv_at hl 0 rfl) ?_
  refine W.objInit hx hb hown (hts _ wd_180) (hts _ wd_1) (hts _ wd_2) rfl (by rw [hml]; exact hl.1) rfl dX3_init_1 (Nat.le_of_ble_eq_true rfl) (Nat.le_of_ble_eq_true rfl) ?_
  refine W.eq (g2 := F0 m 4 ls []) rfl ?_
  refine lv_aload_n hx hb dX3_init_4 rfl (lv_at hl 0 rfl) ?_
  refine lv_sipush (v := 256) hx hb dX3_init_5 (by decide) ?_
  obtain ⟨b_2, b_2s, h⟩ := xnewn_spec h
  refine xnew_int (bnd := 256) (ws' := fun q_1 => [(o, .inr (3, [.int 0, .null, .int 0, .null, .null, .null, .int 0])), (q_1, .inl (G.2.1, ((256 : Int32)).toNatClampNeg, .inl (fun _ => 0)))]) C0 B b_2 b_2s wd_7 (Nat.le_of_ble_eq_true rfl) (Nat.le_of_ble_eq_true rfl) (Nat.le_of_ble_eq_true rfl) (fun _ => rfl) dX3_init_8 (fun q_1 H locs B => ?_)
  refine W.widen (k := 1) (n := 256) (Nat.le_of_ble_eq_true rfl) (Nat.le_of_ble_eq_true rfl) ?_
  refine xputF (ws' := [(o, .inr (3, [.int 0, .ref q_1, .int 0, .null, .null, .null, .int 0])), (q_1, .inl (G.2.1, ((256 : Int32)).toNatClampNeg, .inl (fun _ => 0)))]) C0 B inX3 tyX3 tyX3_ok nmX3 0 rfl rfl 1 (by decide) wd_181 rfl hnm rfl rfl rfl (Nat.le_of_ble_eq_true rfl) rfl dX3_init_10 (fun H locs B => ?_)
  refine lv_aload_n hx hb dX3_init_13 rfl (lv_at hl 0 rfl) ?_
  refine lv_iload_n hx hb dX3_init_14 rfl (lv_at hl 2 rfl) ?_
  refine xputF (ws' := [(o, .inr (3, [.int x2, .ref q_1, .int 0, .null, .null, .null, .int 0])), (q_1, .inl (G.2.1, ((256 : Int32)).toNatClampNeg, .inl (fun _ => 0)))]) C0 B inX3 tyX3 tyX3_ok nmX3 0 rfl rfl 0 (by decide) wd_182 rfl hnm rfl rfl rfl (Nat.le_of_ble_eq_true rfl) rfl dX3_init_15 (fun H locs B => ?_)
  refine lv_aload_n hx hb dX3_init_18 rfl (lv_at hl 0 rfl) ?_
  refine lv_iconst (v := 0) hx hb dX3_init_19 (by decide) ?_
  refine lv_iload_n hx hb dX3_init_20 rfl (lv_at hl 1 rfl) ?_
  refine va_mmax hx hb (hml.trans hl.1.symm) hown (hts _ wd_183) (hts _ wd_4) (hts _ wd_5) (hts _ wd_6) (Nat.le_of_ble_eq_true rfl) (Nat.le_of_ble_eq_true rfl) (Nat.le_of_ble_eq_true rfl) (Nat.le_of_ble_eq_true rfl) dX3_init_21 ?_
  obtain ⟨b_4, b_4s, h⟩ := xnewn_spec h
  refine xnew_int (bnd := 128) (ws' := fun q_3 => [(o, .inr (3, [.int x2, .ref q_1, .int 0, .null, .null, .null, .int 0])), (q_1, .inl (G.2.1, ((256 : Int32)).toNatClampNeg, .inl (fun _ => 0))), (q_3, .inl (G.2.1, ((if (0 : Int32) < x1 then x1 else (0 : Int32))).toNatClampNeg, .inl (fun _ => 0)))]) C0 B b_4 b_4s wd_7 (Nat.le_of_ble_eq_true rfl) (Nat.le_of_ble_eq_true rfl) (Nat.le_of_ble_eq_true rfl) (fun _ => rfl) dX3_init_24 (fun q_3 H locs B => ?_)
  refine W.widen (k := 2) (n := 384) (Nat.le_of_ble_eq_true rfl) (Nat.le_of_ble_eq_true rfl) ?_
  refine xputF (ws' := [(o, .inr (3, [.int x2, .ref q_1, .int 0, .ref q_3, .null, .null, .int 0])), (q_1, .inl (G.2.1, ((256 : Int32)).toNatClampNeg, .inl (fun _ => 0))), (q_3, .inl (G.2.1, ((if (0 : Int32) < x1 then x1 else (0 : Int32))).toNatClampNeg, .inl (fun _ => 0)))]) C0 B inX3 tyX3 tyX3_ok nmX3 0 rfl rfl 3 (by decide) wd_184 rfl hnm rfl rfl rfl (Nat.le_of_ble_eq_true rfl) rfl dX3_init_26 (fun H locs B => ?_)
  refine lv_aload_n hx hb dX3_init_29 rfl (lv_at hl 0 rfl) ?_
  refine lv_aload_n hx hb dX3_init_30 rfl (lv_at hl 0 rfl) ?_
  refine xget (v := .ref q_3) C0 B inX3 0 rfl rfl 3 (by decide) wd_184 rfl dX3_init_31 ?_
  refine xalen C0 B 2 0 rfl rfl dX3_init_34 ?_
  obtain ⟨b_6, b_6s, h⟩ := xnewn_spec h
  refine xnew_int (bnd := 128) (ws' := fun q_5 => [(o, .inr (3, [.int x2, .ref q_1, .int 0, .ref q_3, .null, .null, .int 0])), (q_1, .inl (G.2.1, ((256 : Int32)).toNatClampNeg, .inl (fun _ => 0))), (q_3, .inl (G.2.1, ((if (0 : Int32) < x1 then x1 else (0 : Int32))).toNatClampNeg, .inl (fun _ => 0))), (q_5, .inl (G.2.1, ((nI (((if (0 : Int32) < x1 then x1 else (0 : Int32))).toNatClampNeg))).toNatClampNeg, .inl (fun _ => 0)))]) C0 B b_6 b_6s wd_7 (Nat.le_of_ble_eq_true rfl) (Nat.le_of_ble_eq_true rfl) (Nat.le_of_ble_eq_true rfl) (fun _ => rfl) dX3_init_35 (fun q_5 H locs B => ?_)
  refine W.widen (k := 3) (n := 512) (Nat.le_of_ble_eq_true rfl) (Nat.le_of_ble_eq_true rfl) ?_
  refine xput (ws' := [(o, .inr (3, [.int x2, .ref q_1, .int 0, .ref q_3, .ref q_5, .null, .int 0])), (q_1, .inl (G.2.1, ((256 : Int32)).toNatClampNeg, .inl (fun _ => 0))), (q_3, .inl (G.2.1, ((if (0 : Int32) < x1 then x1 else (0 : Int32))).toNatClampNeg, .inl (fun _ => 0))), (q_5, .inl (G.2.1, ((nI (((if (0 : Int32) < x1 then x1 else (0 : Int32))).toNatClampNeg))).toNatClampNeg, .inl (fun _ => 0)))]) C0 B inX3 tyX3 tyX3_ok nmX3 0 rfl rfl 4 (by decide) wd_185 rfl rfl rfl (Nat.le_of_ble_eq_true rfl) rfl dX3_init_37 (fun H locs B => ?_)
  refine lv_aload_n hx hb dX3_init_40 rfl (lv_at hl 0 rfl) ?_
  refine lv_aload_n hx hb dX3_init_41 rfl (lv_at hl 0 rfl) ?_
  refine xget (v := .ref q_3) C0 B inX3 0 rfl rfl 3 (by decide) wd_184 rfl dX3_init_42 ?_
  refine xalen C0 B 2 0 rfl rfl dX3_init_45 ?_
  obtain ⟨b_8, b_8s, h⟩ := xnewn_spec h
  refine xnew_int (bnd := 128) (ws' := fun q_7 => [(o, .inr (3, [.int x2, .ref q_1, .int 0, .ref q_3, .ref q_5, .null, .int 0])), (q_1, .inl (G.2.1, ((256 : Int32)).toNatClampNeg, .inl (fun _ => 0))), (q_3, .inl (G.2.1, ((if (0 : Int32) < x1 then x1 else (0 : Int32))).toNatClampNeg, .inl (fun _ => 0))), (q_5, .inl (G.2.1, ((nI (((if (0 : Int32) < x1 then x1 else (0 : Int32))).toNatClampNeg))).toNatClampNeg, .inl (fun _ => 0))), (q_7, .inl (G.2.1, ((nI (((if (0 : Int32) < x1 then x1 else (0 : Int32))).toNatClampNeg))).toNatClampNeg, .inl (fun _ => 0)))]) C0 B b_8 b_8s wd_7 (Nat.le_of_ble_eq_true rfl) (Nat.le_of_ble_eq_true rfl) (Nat.le_of_ble_eq_true rfl) (fun _ => rfl) dX3_init_46 (fun q_7 H locs B => ?_)
  refine W.widen (k := 4) (n := 640) (Nat.le_of_ble_eq_true rfl) (Nat.le_of_ble_eq_true rfl) ?_
  refine xput (ws' := [(o, .inr (3, [.int x2, .ref q_1, .int 0, .ref q_3, .ref q_5, .ref q_7, .int 0])), (q_1, .inl (G.2.1, ((256 : Int32)).toNatClampNeg, .inl (fun _ => 0))), (q_3, .inl (G.2.1, ((if (0 : Int32) < x1 then x1 else (0 : Int32))).toNatClampNeg, .inl (fun _ => 0))), (q_5, .inl (G.2.1, ((nI (((if (0 : Int32) < x1 then x1 else (0 : Int32))).toNatClampNeg))).toNatClampNeg, .inl (fun _ => 0))), (q_7, .inl (G.2.1, ((nI (((if (0 : Int32) < x1 then x1 else (0 : Int32))).toNatClampNeg))).toNatClampNeg, .inl (fun _ => 0)))]) C0 B inX3 tyX3 tyX3_ok nmX3 0 rfl rfl 5 (by decide) wd_186 rfl rfl rfl (Nat.le_of_ble_eq_true rfl) rfl dX3_init_48 (fun H locs B => ?_)
  obtain ⟨g1, k1⟩ := Prod.mk.inj (Option.some.inj h)
  obtain ⟨g2, k2⟩ := Prod.mk.inj k1
  obtain ⟨g3, k3⟩ := Prod.mk.inj k2
  obtain ⟨g4, k4⟩ := Prod.mk.inj k3
  obtain ⟨g5, k5⟩ := Prod.mk.inj k4
  obtain ⟨g6, k6⟩ := Prod.mk.inj k5
  obtain ⟨g7, k7⟩ := Prod.mk.inj k6
  obtain ⟨g8, k8⟩ := Prod.mk.inj k7
  obtain ⟨g9, k9⟩ := Prod.mk.inj k8
  obtain ⟨g10, k10⟩ := Prod.mk.inj k9
  subst g1 g2 g3 g4 g5 g6 g7 g8 g9 g10 k10
  refine W.widen (k := 4) (n := 640) (Nat.le_of_ble_eq_true rfl) (Nat.le_of_ble_eq_true rfl) ?_
  exact xretB C0 B [0, 1, 2, 3, 4] rfl rfl (fun t ht => ⟨q_1, q_3, q_5, q_7, ht⟩) dX3_init_51
/-! FilterRows$Rows.takeLine(LFilterRows$Picture;II)V -/
abbrev rm_X3_takeLine : Room := { frames := 5, cells := 0, slots := 0, locals := 114 }
def f_X3_takeLine (n : Nat) (o_restsN : Nat) (o_currentN : Nat) (o_currentF : Nat → Int32) (o_aboveN : Nat) (o_aboveF : Nat → Int32) (p1_width : Int32) (p1_height : Int32) (p1_bits : Int32) (p1_channels : Int32) (p1_samplesN : Nat) (p1_samplesF : Nat → Int32) (x2 : Int32) (x3 : Int32) : Option ((Nat → Int32) × (Nat → Int32) × Int32) := xb (f_X2_lineBytes n p1_width p1_height p1_bits p1_channels x2) (fun r_1 => xb (f_X2_packLine n p1_width p1_height p1_bits p1_channels p1_samplesN p1_samplesF o_currentN o_currentF x2 x3) (fun w_3 => xb (f_X2_packLine n p1_width p1_height p1_bits p1_channels p1_samplesN p1_samplesF o_aboveN o_aboveF x2 (x3 - (1 : Int32))) (fun w_5 => some (w_3, w_5, (if r_1 < (nI o_restsN) then r_1 else (nI o_restsN))))))
set_option maxHeartbeats 4000000 in
set_option maxRecDepth 100000 in
theorem c_X3_takeLine (l : Launch) (G : xG) (o : Nat) (o_step : Int32) (o_seen : Nat) (o_seenN : Nat) (o_seenF : Nat → Int32) (o_counts : Int32) (o_rests : Nat) (o_restsN : Nat) (o_restsF : Nat → Int32) (o_current : Nat) (o_currentN : Nat) (o_currentF : Nat → Int32) (o_above : Nat) (o_aboveN : Nat) (o_aboveF : Nat → Int32) (o_length : Int32) (p1 : Nat) (p1_width : Int32) (p1_height : Int32) (p1_bits : Int32) (p1_channels : Int32) (p1_step : Int32) (p1_mostSample : Int32) (p1_samples : Nat) (p1_samplesN : Nat) (p1_samplesF : Nat → Int32) (p1_draft : Nat) (p1_draftN : Nat) (p1_draftF : Nat → Int32) (x2 : Int32) (x3 : Int32) (n : Nat) (z_o_currentF : Nat → Int32) (z_o_aboveF : Nat → Int32) (z_o_length : Int32) (hF : f_X3_takeLine n o_restsN o_currentN o_currentF o_aboveN o_aboveF p1_width p1_height p1_bits p1_channels p1_samplesN p1_samplesF x2 x3 = some (z_o_currentF, z_o_aboveF, z_o_length)) (sz : Nat) : Met l yX3_takeLine (xws yX3_takeLine cX3_takeLine 4 none) rm_X3_takeLine (va_Pc [.ref o, .ref p1, .int x2, .int x3] (xPre G [(o, .inr (3, [.int o_step, .ref o_seen, .int o_counts, .ref o_rests, .ref o_current, .ref o_above, .int o_length])), (o_seen, .inl (G.2.1, o_seenN, .inl o_seenF)), (o_rests, .inl (G.2.1, o_restsN, .inl o_restsF)), (o_current, .inl (G.2.1, o_currentN, .inl o_currentF)), (o_above, .inl (G.2.1, o_aboveN, .inl o_aboveF)), (p1, .inr (2, [.int p1_width, .int p1_height, .int p1_bits, .int p1_channels, .int p1_step, .int p1_mostSample, .ref p1_samples, .ref p1_draft])), (p1_samples, .inl (G.2.1, p1_samplesN, .inl p1_samplesF)), (p1_draft, .inl (G.2.1, p1_draftN, .inl p1_draftF))] sz)) (xQ G none [(o, .inr (3, [.int o_step, .ref o_seen, .int o_counts, .ref o_rests, .ref o_current, .ref o_above, .int z_o_length])), (o_seen, .inl (G.2.1, o_seenN, .inl o_seenF)), (o_rests, .inl (G.2.1, o_restsN, .inl o_restsF)), (o_current, .inl (G.2.1, o_currentN, .inl z_o_currentF)), (o_above, .inl (G.2.1, o_aboveN, .inl z_o_aboveF)), (p1, .inr (2, [.int p1_width, .int p1_height, .int p1_bits, .int p1_channels, .int p1_step, .int p1_mostSample, .ref p1_samples, .ref p1_draft])), (p1_samples, .inl (G.2.1, p1_samplesN, .inl p1_samplesF)), (p1_draft, .inl (G.2.1, p1_draftN, .inl p1_draftF))] (va_A [(o, .inr (3, [.int o_step, .ref o_seen, .int o_counts, .ref o_rests, .ref o_current, .ref o_above, .int o_length])), (o_seen, .inl (G.2.1, o_seenN, .inl o_seenF)), (o_rests, .inl (G.2.1, o_restsN, .inl o_restsF)), (o_current, .inl (G.2.1, o_currentN, .inl o_currentF)), (o_above, .inl (G.2.1, o_aboveN, .inl o_aboveF)), (p1, .inr (2, [.int p1_width, .int p1_height, .int p1_bits, .int p1_channels, .int p1_step, .int p1_mostSample, .ref p1_samples, .ref p1_draft])), (p1_samples, .inl (G.2.1, p1_samplesN, .inl p1_samplesF)), (p1_draft, .inl (G.2.1, p1_draftN, .inl p1_draftF))] sz)) 0 0 (va_A [(o, .inr (3, [.int o_step, .ref o_seen, .int o_counts, .ref o_rests, .ref o_current, .ref o_above, .int o_length])), (o_seen, .inl (G.2.1, o_seenN, .inl o_seenF)), (o_rests, .inl (G.2.1, o_restsN, .inl o_restsF)), (o_current, .inl (G.2.1, o_currentN, .inl o_currentF)), (o_above, .inl (G.2.1, o_aboveN, .inl o_aboveF)), (p1, .inr (2, [.int p1_width, .int p1_height, .int p1_bits, .int p1_channels, .int p1_step, .int p1_mostSample, .ref p1_samples, .ref p1_draft])), (p1_samples, .inl (G.2.1, p1_samplesN, .inl p1_samplesF)), (p1_draft, .inl (G.2.1, p1_draftN, .inl p1_draftF))] sz) := by
  refine xMetQ (by decide) (Nat.le_of_ble_eq_true rfl) ?_
  intro p e s m below meth c ls A H locs C0 hnm B hl
  have hl : lv_has ls 4 [(0, .ref o), (1, .ref p1), (2, .int x2), (3, .int x3)] := hl
  have h := hF
  unfold f_X3_takeLine at h
  obtain ⟨hx, hb, hr, hml, hown, hts, hlk⟩ := id C0
  refine lv_aload_n hx hb dX3_takeLine_0 rfl (lv_at hl 0 rfl) ?_
  refine lv_aload_n hx hb dX3_takeLine_1 rfl (lv_at hl 0 rfl) ?_
  refine xget (v := .ref o_rests) C0 B inX3 0 rfl rfl 3 (by decide) wd_184 rfl dX3_takeLine_2 ?_
  refine xalen C0 B 2 0 rfl rfl dX3_takeLine_5 ?_
  refine lv_aload_n hx hb dX3_takeLine_6 rfl (lv_at hl 1 rfl) ?_
  refine lv_iload_n hx hb dX3_takeLine_7 rfl (lv_at hl 2 rfl) ?_
  obtain ⟨r_1, e_2, h⟩ := xb_spec h
  refine xcallR (wc := [(p1, .inr (2, [.int p1_width, .int p1_height, .int p1_bits, .int p1_channels, .int p1_step, .int p1_mostSample, .ref p1_samples, .ref p1_draft])), (p1_samples, .inl (G.2.1, p1_samplesN, .inl p1_samplesF)), (p1_draft, .inl (G.2.1, p1_draftN, .inl p1_draftF))]) B [5, 6, 7] rfl rfl (xrunV C0 (c_X2_lineBytes l G p1 p1_width p1_height p1_bits p1_channels p1_step p1_mostSample p1_samples p1_samplesN p1_samplesF p1_draft p1_draftN p1_draftF x2 n r_1 e_2 H.size) kb_X2_lineBytes kv_X2_lineBytes wd_190 (ci := 2) rfl rfl rfl rfl rfl ⟨Nat.le_of_ble_eq_true rfl, Nat.le_of_ble_eq_true rfl⟩ rfl hl rfl (Nat.le_of_ble_eq_true rfl) dX3_takeLine_8 ⟨Nat.le_of_ble_eq_true rfl, Nat.le_of_ble_eq_true rfl⟩) (fun H locs B => ?_)
  refine va_mmin hx hb (hml.trans hl.1.symm) hown (hts _ wd_191) (hts _ wd_69) (hts _ wd_5) (hts _ wd_70) (Nat.le_of_ble_eq_true rfl) (Nat.le_of_ble_eq_true rfl) (Nat.le_of_ble_eq_true rfl) (Nat.le_of_ble_eq_true rfl) dX3_takeLine_11 ?_
  refine xput (ws' := [(o, .inr (3, [.int o_step, .ref o_seen, .int o_counts, .ref o_rests, .ref o_current, .ref o_above, .int (if r_1 < (nI o_restsN) then r_1 else (nI o_restsN))])), (o_seen, .inl (G.2.1, o_seenN, .inl o_seenF)), (o_rests, .inl (G.2.1, o_restsN, .inl o_restsF)), (o_current, .inl (G.2.1, o_currentN, .inl o_currentF)), (o_above, .inl (G.2.1, o_aboveN, .inl o_aboveF)), (p1, .inr (2, [.int p1_width, .int p1_height, .int p1_bits, .int p1_channels, .int p1_step, .int p1_mostSample, .ref p1_samples, .ref p1_draft])), (p1_samples, .inl (G.2.1, p1_samplesN, .inl p1_samplesF)), (p1_draft, .inl (G.2.1, p1_draftN, .inl p1_draftF))]) C0 B inX3 tyX3 tyX3_ok nmX3 0 rfl rfl 6 (by decide) wd_192 rfl rfl rfl (Nat.le_of_ble_eq_true rfl) rfl dX3_takeLine_14 (fun H locs B => ?_)
  refine lv_aload_n hx hb dX3_takeLine_17 rfl (lv_at hl 1 rfl) ?_
  refine lv_iload_n hx hb dX3_takeLine_18 rfl (lv_at hl 2 rfl) ?_
  refine lv_iload_n hx hb dX3_takeLine_19 rfl (lv_at hl 3 rfl) ?_
  refine lv_aload_n hx hb dX3_takeLine_20 rfl (lv_at hl 0 rfl) ?_
  refine xget (v := .ref o_current) C0 B inX3 0 rfl rfl 4 (by decide) wd_185 rfl dX3_takeLine_21 ?_
  obtain ⟨w_3, e_4, h⟩ := xb_spec h
  refine xcall0 (wc := [(p1, .inr (2, [.int p1_width, .int p1_height, .int p1_bits, .int p1_channels, .int p1_step, .int p1_mostSample, .ref p1_samples, .ref p1_draft])), (p1_samples, .inl (G.2.1, p1_samplesN, .inl p1_samplesF)), (p1_draft, .inl (G.2.1, p1_draftN, .inl p1_draftF)), (o_current, .inl (G.2.1, o_currentN, .inl o_currentF))]) (wr := [(o, .inr (3, [.int o_step, .ref o_seen, .int o_counts, .ref o_rests, .ref o_current, .ref o_above, .int (if r_1 < (nI o_restsN) then r_1 else (nI o_restsN))])), (o_seen, .inl (G.2.1, o_seenN, .inl o_seenF)), (o_rests, .inl (G.2.1, o_restsN, .inl o_restsF)), (o_above, .inl (G.2.1, o_aboveN, .inl o_aboveF))]) (w1 := [(p1, .inr (2, [.int p1_width, .int p1_height, .int p1_bits, .int p1_channels, .int p1_step, .int p1_mostSample, .ref p1_samples, .ref p1_draft])), (p1_samples, .inl (G.2.1, p1_samplesN, .inl p1_samplesF)), (p1_draft, .inl (G.2.1, p1_draftN, .inl p1_draftF)), (o_current, .inl (G.2.1, o_currentN, .inl w_3))]) (ws' := [(o, .inr (3, [.int o_step, .ref o_seen, .int o_counts, .ref o_rests, .ref o_current, .ref o_above, .int (if r_1 < (nI o_restsN) then r_1 else (nI o_restsN))])), (o_seen, .inl (G.2.1, o_seenN, .inl o_seenF)), (o_rests, .inl (G.2.1, o_restsN, .inl o_restsF)), (o_current, .inl (G.2.1, o_currentN, .inl w_3)), (o_above, .inl (G.2.1, o_aboveN, .inl o_aboveF)), (p1, .inr (2, [.int p1_width, .int p1_height, .int p1_bits, .int p1_channels, .int p1_step, .int p1_mostSample, .ref p1_samples, .ref p1_draft])), (p1_samples, .inl (G.2.1, p1_samplesN, .inl p1_samplesF)), (p1_draft, .inl (G.2.1, p1_draftN, .inl p1_draftF))]) B [5, 6, 7, 3] [0, 1, 2, 4] [0, 1, 2, 7, 3, 4, 5, 6] rfl rfl rfl rfl (by decide) rfl rfl (xrunV C0 (c_X2_packLine l G p1 p1_width p1_height p1_bits p1_channels p1_step p1_mostSample p1_samples p1_samplesN p1_samplesF p1_draft p1_draftN p1_draftF o_current o_currentN o_currentF x2 x3 n w_3 e_4 H.size) kb_X2_packLine kv_X2_packLine wd_193 (ci := 2) rfl rfl rfl rfl rfl ⟨Nat.le_of_ble_eq_true rfl, Nat.le_of_ble_eq_true rfl⟩ rfl hl rfl (Nat.le_of_ble_eq_true rfl) dX3_takeLine_24 ⟨Nat.le_of_ble_eq_true rfl, Nat.le_of_ble_eq_true rfl⟩) (fun H locs B => ?_)
  refine lv_aload_n hx hb dX3_takeLine_27 rfl (lv_at hl 1 rfl) ?_
  refine lv_iload_n hx hb dX3_takeLine_28 rfl (lv_at hl 2 rfl) ?_
  refine lv_iload_n hx hb dX3_takeLine_29 rfl (lv_at hl 3 rfl) ?_
  refine lv_iconst (v := 1) hx hb dX3_takeLine_30 (by decide) ?_
  refine lv_isub hx hb dX3_takeLine_31 ?_
  refine lv_aload_n hx hb dX3_takeLine_32 rfl (lv_at hl 0 rfl) ?_
  refine xget (v := .ref o_above) C0 B inX3 0 rfl rfl 5 (by decide) wd_186 rfl dX3_takeLine_33 ?_
  obtain ⟨w_5, e_6, h⟩ := xb_spec h
  refine xcall0 (wc := [(p1, .inr (2, [.int p1_width, .int p1_height, .int p1_bits, .int p1_channels, .int p1_step, .int p1_mostSample, .ref p1_samples, .ref p1_draft])), (p1_samples, .inl (G.2.1, p1_samplesN, .inl p1_samplesF)), (p1_draft, .inl (G.2.1, p1_draftN, .inl p1_draftF)), (o_above, .inl (G.2.1, o_aboveN, .inl o_aboveF))]) (wr := [(o, .inr (3, [.int o_step, .ref o_seen, .int o_counts, .ref o_rests, .ref o_current, .ref o_above, .int (if r_1 < (nI o_restsN) then r_1 else (nI o_restsN))])), (o_seen, .inl (G.2.1, o_seenN, .inl o_seenF)), (o_rests, .inl (G.2.1, o_restsN, .inl o_restsF)), (o_current, .inl (G.2.1, o_currentN, .inl w_3))]) (w1 := [(p1, .inr (2, [.int p1_width, .int p1_height, .int p1_bits, .int p1_channels, .int p1_step, .int p1_mostSample, .ref p1_samples, .ref p1_draft])), (p1_samples, .inl (G.2.1, p1_samplesN, .inl p1_samplesF)), (p1_draft, .inl (G.2.1, p1_draftN, .inl p1_draftF)), (o_above, .inl (G.2.1, o_aboveN, .inl w_5))]) (ws' := [(o, .inr (3, [.int o_step, .ref o_seen, .int o_counts, .ref o_rests, .ref o_current, .ref o_above, .int (if r_1 < (nI o_restsN) then r_1 else (nI o_restsN))])), (o_seen, .inl (G.2.1, o_seenN, .inl o_seenF)), (o_rests, .inl (G.2.1, o_restsN, .inl o_restsF)), (o_current, .inl (G.2.1, o_currentN, .inl w_3)), (o_above, .inl (G.2.1, o_aboveN, .inl w_5)), (p1, .inr (2, [.int p1_width, .int p1_height, .int p1_bits, .int p1_channels, .int p1_step, .int p1_mostSample, .ref p1_samples, .ref p1_draft])), (p1_samples, .inl (G.2.1, p1_samplesN, .inl p1_samplesF)), (p1_draft, .inl (G.2.1, p1_draftN, .inl p1_draftF))]) B [5, 6, 7, 4] [0, 1, 2, 3] [0, 1, 2, 3, 7, 4, 5, 6] rfl rfl rfl rfl (by decide) rfl rfl (xrunV C0 (c_X2_packLine l G p1 p1_width p1_height p1_bits p1_channels p1_step p1_mostSample p1_samples p1_samplesN p1_samplesF p1_draft p1_draftN p1_draftF o_above o_aboveN o_aboveF x2 (x3 - (1 : Int32)) n w_5 e_6 H.size) kb_X2_packLine kv_X2_packLine wd_193 (ci := 2) rfl rfl rfl rfl rfl ⟨Nat.le_of_ble_eq_true rfl, Nat.le_of_ble_eq_true rfl⟩ rfl hl rfl (Nat.le_of_ble_eq_true rfl) dX3_takeLine_36 ⟨Nat.le_of_ble_eq_true rfl, Nat.le_of_ble_eq_true rfl⟩) (fun H locs B => ?_)
  obtain ⟨g1, k1⟩ := Prod.mk.inj (Option.some.inj h)
  obtain ⟨g2, k2⟩ := Prod.mk.inj k1
  subst g1 g2 k2
  exact xretv C0 B [0, 1, 2, 3, 4, 5, 6, 7] rfl rfl dX3_takeLine_39
/-! FilterRows$Rows.startPass(I)V -/
abbrev rm_X3_startPass : Room := { frames := 1, cells := 0, slots := 0, locals := 23 }
def f_X3_startPass (n : Nat) (o_restsN : Nat) (o_currentN : Nat) (o_currentF : Nat → Int32) (x1 : Int32) : Option ((Nat → Int32) × Int32) := xb (f_JA_fill n o_currentN o_currentF (0 : Int32)) (fun w_1 => some (w_1, (if x1 < (nI o_restsN) then x1 else (nI o_restsN))))
set_option maxHeartbeats 4000000 in
set_option maxRecDepth 100000 in
theorem c_X3_startPass (l : Launch) (G : xG) (o : Nat) (o_step : Int32) (o_seen : Nat) (o_seenN : Nat) (o_seenF : Nat → Int32) (o_counts : Int32) (o_rests : Nat) (o_restsN : Nat) (o_restsF : Nat → Int32) (o_current : Nat) (o_currentN : Nat) (o_currentF : Nat → Int32) (o_above : Nat) (o_aboveN : Nat) (o_aboveF : Nat → Int32) (o_length : Int32) (x1 : Int32) (n : Nat) (z_o_currentF : Nat → Int32) (z_o_length : Int32) (hF : f_X3_startPass n o_restsN o_currentN o_currentF x1 = some (z_o_currentF, z_o_length)) (sz : Nat) : Met l yX3_startPass (xws yX3_startPass cX3_startPass 2 none) rm_X3_startPass (va_Pc [.ref o, .int x1] (xPre G [(o, .inr (3, [.int o_step, .ref o_seen, .int o_counts, .ref o_rests, .ref o_current, .ref o_above, .int o_length])), (o_seen, .inl (G.2.1, o_seenN, .inl o_seenF)), (o_rests, .inl (G.2.1, o_restsN, .inl o_restsF)), (o_current, .inl (G.2.1, o_currentN, .inl o_currentF)), (o_above, .inl (G.2.1, o_aboveN, .inl o_aboveF))] sz)) (xQ G none [(o, .inr (3, [.int o_step, .ref o_seen, .int o_counts, .ref o_rests, .ref o_current, .ref o_above, .int z_o_length])), (o_seen, .inl (G.2.1, o_seenN, .inl o_seenF)), (o_rests, .inl (G.2.1, o_restsN, .inl o_restsF)), (o_current, .inl (G.2.1, o_currentN, .inl z_o_currentF)), (o_above, .inl (G.2.1, o_aboveN, .inl o_aboveF))] (va_A [(o, .inr (3, [.int o_step, .ref o_seen, .int o_counts, .ref o_rests, .ref o_current, .ref o_above, .int o_length])), (o_seen, .inl (G.2.1, o_seenN, .inl o_seenF)), (o_rests, .inl (G.2.1, o_restsN, .inl o_restsF)), (o_current, .inl (G.2.1, o_currentN, .inl o_currentF)), (o_above, .inl (G.2.1, o_aboveN, .inl o_aboveF))] sz)) 0 0 (va_A [(o, .inr (3, [.int o_step, .ref o_seen, .int o_counts, .ref o_rests, .ref o_current, .ref o_above, .int o_length])), (o_seen, .inl (G.2.1, o_seenN, .inl o_seenF)), (o_rests, .inl (G.2.1, o_restsN, .inl o_restsF)), (o_current, .inl (G.2.1, o_currentN, .inl o_currentF)), (o_above, .inl (G.2.1, o_aboveN, .inl o_aboveF))] sz) := by
  refine xMetQ (by decide) (Nat.le_of_ble_eq_true rfl) ?_
  intro p e s m below meth c ls A H locs C0 hnm B hl
  have hl : lv_has ls 2 [(0, .ref o), (1, .int x1)] := hl
  have h := hF
  unfold f_X3_startPass at h
  obtain ⟨hx, hb, hr, hml, hown, hts, hlk⟩ := id C0
  refine lv_aload_n hx hb dX3_startPass_0 rfl (lv_at hl 0 rfl) ?_
  refine lv_aload_n hx hb dX3_startPass_1 rfl (lv_at hl 0 rfl) ?_
  refine xget (v := .ref o_rests) C0 B inX3 0 rfl rfl 3 (by decide) wd_184 rfl dX3_startPass_2 ?_
  refine xalen C0 B 2 0 rfl rfl dX3_startPass_5 ?_
  refine lv_iload_n hx hb dX3_startPass_6 rfl (lv_at hl 1 rfl) ?_
  refine va_mmin hx hb (hml.trans hl.1.symm) hown (hts _ wd_191) (hts _ wd_69) (hts _ wd_5) (hts _ wd_70) (Nat.le_of_ble_eq_true rfl) (Nat.le_of_ble_eq_true rfl) (Nat.le_of_ble_eq_true rfl) (Nat.le_of_ble_eq_true rfl) dX3_startPass_7 ?_
  refine xput (ws' := [(o, .inr (3, [.int o_step, .ref o_seen, .int o_counts, .ref o_rests, .ref o_current, .ref o_above, .int (if x1 < (nI o_restsN) then x1 else (nI o_restsN))])), (o_seen, .inl (G.2.1, o_seenN, .inl o_seenF)), (o_rests, .inl (G.2.1, o_restsN, .inl o_restsF)), (o_current, .inl (G.2.1, o_currentN, .inl o_currentF)), (o_above, .inl (G.2.1, o_aboveN, .inl o_aboveF))]) C0 B inX3 tyX3 tyX3_ok nmX3 0 rfl rfl 6 (by decide) wd_192 rfl rfl rfl (Nat.le_of_ble_eq_true rfl) rfl dX3_startPass_10 (fun H locs B => ?_)
  refine lv_aload_n hx hb dX3_startPass_13 rfl (lv_at hl 0 rfl) ?_
  refine xget (v := .ref o_current) C0 B inX3 0 rfl rfl 4 (by decide) wd_185 rfl dX3_startPass_14 ?_
  refine lv_iconst (v := 0) hx hb dX3_startPass_17 (by decide) ?_
  obtain ⟨w_1, e_2, h⟩ := xb_spec h
  refine xcall0 (wc := [(o_current, .inl (G.2.1, o_currentN, .inl o_currentF))]) (wr := [(o, .inr (3, [.int o_step, .ref o_seen, .int o_counts, .ref o_rests, .ref o_current, .ref o_above, .int (if x1 < (nI o_restsN) then x1 else (nI o_restsN))])), (o_seen, .inl (G.2.1, o_seenN, .inl o_seenF)), (o_rests, .inl (G.2.1, o_restsN, .inl o_restsF)), (o_above, .inl (G.2.1, o_aboveN, .inl o_aboveF))]) (w1 := [(o_current, .inl (G.2.1, o_currentN, .inl w_1))]) (ws' := [(o, .inr (3, [.int o_step, .ref o_seen, .int o_counts, .ref o_rests, .ref o_current, .ref o_above, .int (if x1 < (nI o_restsN) then x1 else (nI o_restsN))])), (o_seen, .inl (G.2.1, o_seenN, .inl o_seenF)), (o_rests, .inl (G.2.1, o_restsN, .inl o_restsF)), (o_current, .inl (G.2.1, o_currentN, .inl w_1)), (o_above, .inl (G.2.1, o_aboveN, .inl o_aboveF))]) B [3] [0, 1, 2, 4] [0, 1, 2, 4, 3] rfl rfl rfl rfl (by decide) rfl rfl (xrunS C0 (c_JA_fill l G o_current o_currentN o_currentF (0 : Int32) n w_1 e_2 H.size) kb_JA_fill kv_JA_fill wd_197 rfl rfl ⟨Nat.le_of_ble_eq_true rfl, Nat.le_of_ble_eq_true rfl⟩ rfl hl rfl (Nat.le_of_ble_eq_true rfl) dX3_startPass_18 ⟨Nat.le_of_ble_eq_true rfl, Nat.le_of_ble_eq_true rfl⟩) (fun H locs B => ?_)
  obtain ⟨g1, k1⟩ := Prod.mk.inj (Option.some.inj h)
  subst g1 k1
  exact xretv C0 B [0, 1, 2, 3, 4] rfl rfl dX3_startPass_21
