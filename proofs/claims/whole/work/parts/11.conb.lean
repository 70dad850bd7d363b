/-! FilterRows$Picture.hasSample(III)Z -/
abbrev rm_X2_hasSample : Room := { frames := 0, cells := 0, slots := 0, locals := 0 }
def f_X2_hasSample (n : Nat) (o_width : Int32) (o_height : Int32) (o_channels : Int32) (x1 : Int32) (x2 : Int32) (x3 : Int32) : Option Int32 := (if x1 < 0 then some (0 : Int32) else (if o_width ≤ x1 then some (0 : Int32) else (if x2 < 0 then some (0 : Int32) else (if o_height ≤ x2 then some (0 : Int32) else (if x3 < 0 then some (0 : Int32) else (if o_channels ≤ x3 then some (0 : Int32) else some (1 : Int32)))))))
set_option maxHeartbeats 4000000 in
set_option maxRecDepth 100000 in
theorem c_X2_hasSample (l : Launch) (G : xG) (o : Nat) (o_width : Int32) (o_height : Int32) (o_bits : Int32) (o_channels : Int32) (o_step : Int32) (o_mostSample : Int32) (o_samples : Nat) (o_samplesN : Nat) (o_samplesF : Nat → Int32) (o_draft : Nat) (o_draftN : Nat) (o_draftF : Nat → Int32) (x1 : Int32) (x2 : Int32) (x3 : Int32) (n : Nat) (zr : Int32) (hF : f_X2_hasSample n o_width o_height o_channels x1 x2 x3 = some zr) (sz : Nat) : Met l yX2_hasSample (xws yX2_hasSample cX2_hasSample 4 (some .boolean)) rm_X2_hasSample (va_Pc [.ref o, .int x1, .int x2, .int x3] (xPre G [(o, .inr (2, [.int o_width, .int o_height, .int o_bits, .int o_channels, .int o_step, .int o_mostSample, .ref o_samples, .ref o_draft])), (o_samples, .inl (G.2.1, o_samplesN, .inl o_samplesF)), (o_draft, .inl (G.2.1, o_draftN, .inl o_draftF))] sz)) (xQR (some (.int zr)) (fun q => sz ≤ q)) 0 0 (fun q => sz ≤ q) := by
  refine xMetR (by decide) (Nat.le_of_ble_eq_true rfl) ?_
  intro p e s m below meth c ls A H locs C0 hnm B hl
  have hl : lv_has ls 4 [(0, .ref o), (1, .int x1), (2, .int x2), (3, .int x3)] := hl
  have h := hF
  unfold f_X2_hasSample at h
  obtain ⟨hx, hb, hr, hml, hown, hts, hlk⟩ := id C0
  refine lv_iload_n hx hb dX2_hasSample_0 rfl (lv_at hl 1 rfl) ?_
  refine lv_if_lt (tgt := 40) hx hb dX2_hasSample_1 (by decide) (fun c_1 => ?_) (fun c_1 => ?_)
  · have h := oif_t h c_1
    refine lv_iconst (v := 0) hx hb dX2_hasSample_40 (by decide) ?_
    obtain rfl := Option.some.inj h
    exact xretzR C0 B rfl dX2_hasSample_41
  · have h := oif_f h c_1
    refine lv_iload_n hx hb dX2_hasSample_4 rfl (lv_at hl 1 rfl) ?_
    refine lv_aload_n hx hb dX2_hasSample_5 rfl (lv_at hl 0 rfl) ?_
    refine xget (v := .int o_width) C0 B inX2 0 rfl rfl 0 (by decide) wd_76 rfl dX2_hasSample_6 ?_
    refine lv_icmp_ge (tgt := 40) hx hb dX2_hasSample_9 (by decide) (fun c_2 => ?_) (fun c_2 => ?_)
    · have h := oif_t h c_2
      refine lv_iconst (v := 0) hx hb dX2_hasSample_40 (by decide) ?_
      obtain rfl := Option.some.inj h
      exact xretzR C0 B rfl dX2_hasSample_41
    · have h := oif_f h c_2
      refine lv_iload_n hx hb dX2_hasSample_12 rfl (lv_at hl 2 rfl) ?_
      refine lv_if_lt (tgt := 40) hx hb dX2_hasSample_13 (by decide) (fun c_3 => ?_) (fun c_3 => ?_)
      · have h := oif_t h c_3
        refine lv_iconst (v := 0) hx hb dX2_hasSample_40 (by decide) ?_
        obtain rfl := Option.some.inj h
        exact xretzR C0 B rfl dX2_hasSample_41
      · have h := oif_f h c_3
        refine lv_iload_n hx hb dX2_hasSample_16 rfl (lv_at hl 2 rfl) ?_
        refine lv_aload_n hx hb dX2_hasSample_17 rfl (lv_at hl 0 rfl) ?_
        refine xget (v := .int o_height) C0 B inX2 0 rfl rfl 1 (by decide) wd_77 rfl dX2_hasSample_18 ?_
        refine lv_icmp_ge (tgt := 40) hx hb dX2_hasSample_21 (by decide) (fun c_4 => ?_) (fun c_4 => ?_)
        · have h := oif_t h c_4
          refine lv_iconst (v := 0) hx hb dX2_hasSample_40 (by decide) ?_
          obtain rfl := Option.some.inj h
          exact xretzR C0 B rfl dX2_hasSample_41
        · have h := oif_f h c_4
          refine lv_iload_n hx hb dX2_hasSample_24 rfl (lv_at hl 3 rfl) ?_
          refine lv_if_lt (tgt := 40) hx hb dX2_hasSample_25 (by decide) (fun c_5 => ?_) (fun c_5 => ?_)
          · have h := oif_t h c_5
            refine lv_iconst (v := 0) hx hb dX2_hasSample_40 (by decide) ?_
            obtain rfl := Option.some.inj h
            exact xretzR C0 B rfl dX2_hasSample_41
          · have h := oif_f h c_5
            refine lv_iload_n hx hb dX2_hasSample_28 rfl (lv_at hl 3 rfl) ?_
            refine lv_aload_n hx hb dX2_hasSample_29 rfl (lv_at hl 0 rfl) ?_
            refine xget (v := .int o_channels) C0 B inX2 0 rfl rfl 3 (by decide) wd_78 rfl dX2_hasSample_30 ?_
            refine lv_icmp_ge (tgt := 40) hx hb dX2_hasSample_33 (by decide) (fun c_6 => ?_) (fun c_6 => ?_)
            · have h := oif_t h c_6
              refine lv_iconst (v := 0) hx hb dX2_hasSample_40 (by decide) ?_
              obtain rfl := Option.some.inj h
              exact xretzR C0 B rfl dX2_hasSample_41
            · have h := oif_f h c_6
              refine lv_iconst (v := 1) hx hb dX2_hasSample_36 (by decide) ?_
              refine lv_goto (tgt := 41) hx hb dX2_hasSample_37 (by decide) ?_
              obtain rfl := Option.some.inj h
              exact xretzR C0 B rfl dX2_hasSample_41
/-! FilterRows$Picture.indexOf(III)I -/
abbrev rm_X2_indexOf : Room := { frames := 0, cells := 0, slots := 0, locals := 0 }
def f_X2_indexOf (n : Nat) (o_width : Int32) (o_channels : Int32) (x1 : Int32) (x2 : Int32) (x3 : Int32) : Option Int32 := some ((((x2 * o_width) + x1) * o_channels) + x3)
set_option maxHeartbeats 4000000 in
set_option maxRecDepth 100000 in
theorem c_X2_indexOf (l : Launch) (G : xG) (o : Nat) (o_width : Int32) (o_height : Int32) (o_bits : Int32) (o_channels : Int32) (o_step : Int32) (o_mostSample : Int32) (o_samples : Nat) (o_samplesN : Nat) (o_samplesF : Nat → Int32) (o_draft : Nat) (o_draftN : Nat) (o_draftF : Nat → Int32) (x1 : Int32) (x2 : Int32) (x3 : Int32) (n : Nat) (zr : Int32) (hF : f_X2_indexOf n o_width o_channels x1 x2 x3 = some zr) (sz : Nat) : Met l yX2_indexOf (xws yX2_indexOf cX2_indexOf 4 (some .int)) rm_X2_indexOf (va_Pc [.ref o, .int x1, .int x2, .int x3] (xPre G [(o, .inr (2, [.int o_width, .int o_height, .int o_bits, .int o_channels, .int o_step, .int o_mostSample, .ref o_samples, .ref o_draft])), (o_samples, .inl (G.2.1, o_samplesN, .inl o_samplesF)), (o_draft, .inl (G.2.1, o_draftN, .inl o_draftF))] sz)) (xQR (some (.int zr)) (fun q => sz ≤ q)) 0 0 (fun q => sz ≤ q) := by
  refine xMetR (by decide) (Nat.le_of_ble_eq_true rfl) ?_
  intro p e s m below meth c ls A H locs C0 hnm B hl
  have hl : lv_has ls 4 [(0, .ref o), (1, .int x1), (2, .int x2), (3, .int x3)] := hl
  have h := hF
  unfold f_X2_indexOf at h
  obtain ⟨hx, hb, hr, hml, hown, hts, hlk⟩ := id C0
  refine lv_iload_n hx hb dX2_indexOf_0 rfl (lv_at hl 2 rfl) ?_
  refine lv_aload_n hx hb dX2_indexOf_1 rfl (lv_at hl 0 rfl) ?_
  refine xget (v := .int o_width) C0 B inX2 0 rfl rfl 0 (by decide) wd_76 rfl dX2_indexOf_2 ?_
  refine lv_imul hx hb dX2_indexOf_5 ?_
  refine lv_iload_n hx hb dX2_indexOf_6 rfl (lv_at hl 1 rfl) ?_
  refine lv_iadd hx hb dX2_indexOf_7 ?_
  refine lv_aload_n hx hb dX2_indexOf_8 rfl (lv_at hl 0 rfl) ?_
  refine xget (v := .int o_channels) C0 B inX2 0 rfl rfl 3 (by decide) wd_78 rfl dX2_indexOf_9 ?_
  refine lv_imul hx hb dX2_indexOf_12 ?_
  refine lv_iload_n hx hb dX2_indexOf_13 rfl (lv_at hl 3 rfl) ?_
  refine lv_iadd hx hb dX2_indexOf_14 ?_
  obtain rfl := Option.some.inj h
  exact xretiR C0 B dX2_indexOf_15
/-! FilterRows$Picture.sampleAt(III)I -/
abbrev rm_X2_sampleAt : Room := { frames := 1, cells := 0, slots := 0, locals := 23 }
def f_X2_sampleAt (n : Nat) (o_width : Int32) (o_height : Int32) (o_channels : Int32) (o_samplesN : Nat) (o_samplesF : Nat → Int32) (x1 : Int32) (x2 : Int32) (x3 : Int32) : Option Int32 := xb (f_X2_hasSample n o_width o_height o_channels x1 x2 x3) (fun r_1 => (if r_1 = 0 then some (0 : Int32) else xb (f_X2_indexOf n o_width o_channels x1 x2 x3) (fun r_4 => xin r_4 o_samplesN (some (o_samplesF (r_4).toNatClampNeg)))))
set_option maxHeartbeats 4000000 in
set_option maxRecDepth 100000 in
theorem c_X2_sampleAt (l : Launch) (G : xG) (o : Nat) (o_width : Int32) (o_height : Int32) (o_bits : Int32) (o_channels : Int32) (o_step : Int32) (o_mostSample : Int32) (o_samples : Nat) (o_samplesN : Nat) (o_samplesF : Nat → Int32) (o_draft : Nat) (o_draftN : Nat) (o_draftF : Nat → Int32) (x1 : Int32) (x2 : Int32) (x3 : Int32) (n : Nat) (zr : Int32) (hF : f_X2_sampleAt n o_width o_height o_channels o_samplesN o_samplesF x1 x2 x3 = some zr) (sz : Nat) : Met l yX2_sampleAt (xws yX2_sampleAt cX2_sampleAt 4 (some .int)) rm_X2_sampleAt (va_Pc [.ref o, .int x1, .int x2, .int x3] (xPre G [(o, .inr (2, [.int o_width, .int o_height, .int o_bits, .int o_channels, .int o_step, .int o_mostSample, .ref o_samples, .ref o_draft])), (o_samples, .inl (G.2.1, o_samplesN, .inl o_samplesF)), (o_draft, .inl (G.2.1, o_draftN, .inl o_draftF))] sz)) (xQR (some (.int zr)) (fun q => sz ≤ q)) 0 0 (fun q => sz ≤ q) := by
  refine xMetR (by decide) (Nat.le_of_ble_eq_true rfl) ?_
  intro p e s m below meth c ls A H locs C0 hnm B hl
  have hl : lv_has ls 4 [(0, .ref o), (1, .int x1), (2, .int x2), (3, .int x3)] := hl
  have h := hF
  unfold f_X2_sampleAt at h
  obtain ⟨hx, hb, hr, hml, hown, hts, hlk⟩ := id C0
  refine lv_aload_n hx hb dX2_sampleAt_0 rfl (lv_at hl 0 rfl) ?_
  refine lv_iload_n hx hb dX2_sampleAt_1 rfl (lv_at hl 1 rfl) ?_
  refine lv_iload_n hx hb dX2_sampleAt_2 rfl (lv_at hl 2 rfl) ?_
  refine lv_iload_n hx hb dX2_sampleAt_3 rfl (lv_at hl 3 rfl) ?_
  obtain ⟨r_1, e_2, h⟩ := xb_spec h
  refine xcallR (wc := [(o, .inr (2, [.int o_width, .int o_height, .int o_bits, .int o_channels, .int o_step, .int o_mostSample, .ref o_samples, .ref o_draft])), (o_samples, .inl (G.2.1, o_samplesN, .inl o_samplesF)), (o_draft, .inl (G.2.1, o_draftN, .inl o_draftF))]) B [0, 1, 2] rfl rfl (xrunV C0 (c_X2_hasSample l G o o_width o_height o_bits o_channels o_step o_mostSample o_samples o_samplesN o_samplesF o_draft o_draftN o_draftF x1 x2 x3 n r_1 e_2 H.size) kb_X2_hasSample kv_X2_hasSample wd_92 (ci := 2) rfl rfl rfl rfl rfl ⟨Nat.le_of_ble_eq_true rfl, Nat.le_of_ble_eq_true rfl⟩ rfl hl rfl (Nat.le_of_ble_eq_true rfl) dX2_sampleAt_4 ⟨Nat.le_of_ble_eq_true rfl, Nat.le_of_ble_eq_true rfl⟩) (fun H locs B => ?_)
  refine lv_if_eq (tgt := 25) hx hb dX2_sampleAt_7 (by decide) (fun c_3 => ?_) (fun c_3 => ?_)
  · have h := oif_t h c_3
    refine lv_iconst (v := 0) hx hb dX2_sampleAt_25 (by decide) ?_
    obtain rfl := Option.some.inj h
    exact xretiR C0 B dX2_sampleAt_26
  · have h := oif_f h c_3
    refine lv_aload_n hx hb dX2_sampleAt_10 rfl (lv_at hl 0 rfl) ?_
    refine xget (v := .ref o_samples) C0 B inX2 0 rfl rfl 6 (by decide) wd_82 rfl dX2_sampleAt_11 ?_
    refine lv_aload_n hx hb dX2_sampleAt_14 rfl (lv_at hl 0 rfl) ?_
    refine lv_iload_n hx hb dX2_sampleAt_15 rfl (lv_at hl 1 rfl) ?_
    refine lv_iload_n hx hb dX2_sampleAt_16 rfl (lv_at hl 2 rfl) ?_
    refine lv_iload_n hx hb dX2_sampleAt_17 rfl (lv_at hl 3 rfl) ?_
    obtain ⟨r_4, e_5, h⟩ := xb_spec h
    refine xcallR (wc := [(o, .inr (2, [.int o_width, .int o_height, .int o_bits, .int o_channels, .int o_step, .int o_mostSample, .ref o_samples, .ref o_draft])), (o_samples, .inl (G.2.1, o_samplesN, .inl o_samplesF)), (o_draft, .inl (G.2.1, o_draftN, .inl o_draftF))]) B [0, 1, 2] rfl rfl (xrunV C0 (c_X2_indexOf l G o o_width o_height o_bits o_channels o_step o_mostSample o_samples o_samplesN o_samplesF o_draft o_draftN o_draftF x1 x2 x3 n r_4 e_5 H.size) kb_X2_indexOf kv_X2_indexOf wd_93 (ci := 2) rfl rfl rfl rfl rfl ⟨Nat.le_of_ble_eq_true rfl, Nat.le_of_ble_eq_true rfl⟩ rfl hl rfl (Nat.le_of_ble_eq_true rfl) dX2_sampleAt_18 ⟨Nat.le_of_ble_eq_true rfl, Nat.le_of_ble_eq_true rfl⟩) (fun H locs B => ?_)
    obtain ⟨b_6, h⟩ := xin_spec h
    refine xiald C0 B 1 rfl b_6 dX2_sampleAt_21 ?_
    refine lv_goto (tgt := 26) hx hb dX2_sampleAt_22 (by decide) ?_
    obtain rfl := Option.some.inj h
    exact xretiR C0 B dX2_sampleAt_26
/-! FilterRows$Picture.replaceSample(IIII)I -/
abbrev rm_X2_replaceSample : Room := { frames := 2, cells := 0, slots := 0, locals := 46 }
def f_X2_replaceSample (n : Nat) (o_width : Int32) (o_height : Int32) (o_channels : Int32) (o_samplesN : Nat) (o_samplesF : Nat → Int32) (x1 : Int32) (x2 : Int32) (x3 : Int32) (x4 : Int32) : Option (Int32 × (Nat → Int32)) := xb (f_X2_sampleAt n o_width o_height o_channels o_samplesN o_samplesF x1 x2 x3) (fun r_1 => xb (f_X2_hasSample n o_width o_height o_channels x1 x2 x3) (fun r_3 => (if r_3 = 0 then some (r_1, o_samplesF) else xb (f_X2_indexOf n o_width o_channels x1 x2 x3) (fun r_6 => xin r_6 o_samplesN (some (r_1, (upd o_samplesF (r_6).toNatClampNeg x4)))))))
set_option maxHeartbeats 4000000 in
set_option maxRecDepth 100000 in
theorem c_X2_replaceSample (l : Launch) (G : xG) (o : Nat) (o_width : Int32) (o_height : Int32) (o_bits : Int32) (o_channels : Int32) (o_step : Int32) (o_mostSample : Int32) (o_samples : Nat) (o_samplesN : Nat) (o_samplesF : Nat → Int32) (o_draft : Nat) (o_draftN : Nat) (o_draftF : Nat → Int32) (x1 : Int32) (x2 : Int32) (x3 : Int32) (x4 : Int32) (n : Nat) (zr : Int32) (z_o_samplesF : Nat → Int32) (hF : f_X2_replaceSample n o_width o_height o_channels o_samplesN o_samplesF x1 x2 x3 x4 = some (zr, z_o_samplesF)) (sz : Nat) : Met l yX2_replaceSample (xws yX2_replaceSample cX2_replaceSample 6 (some .int)) rm_X2_replaceSample (va_Pc [.ref o, .int x1, .int x2, .int x3, .int x4] (xPre G [(o, .inr (2, [.int o_width, .int o_height, .int o_bits, .int o_channels, .int o_step, .int o_mostSample, .ref o_samples, .ref o_draft])), (o_samples, .inl (G.2.1, o_samplesN, .inl o_samplesF)), (o_draft, .inl (G.2.1, o_draftN, .inl o_draftF))] sz)) (xQ G (some (.int zr)) [(o, .inr (2, [.int o_width, .int o_height, .int o_bits, .int o_channels, .int o_step, .int o_mostSample, .ref o_samples, .ref o_draft])), (o_samples, .inl (G.2.1, o_samplesN, .inl z_o_samplesF)), (o_draft, .inl (G.2.1, o_draftN, .inl o_draftF))] (va_A [(o, .inr (2, [.int o_width, .int o_height, .int o_bits, .int o_channels, .int o_step, .int o_mostSample, .ref o_samples, .ref o_draft])), (o_samples, .inl (G.2.1, o_samplesN, .inl o_samplesF)), (o_draft, .inl (G.2.1, o_draftN, .inl o_draftF))] sz)) 0 0 (va_A [(o, .inr (2, [.int o_width, .int o_height, .int o_bits, .int o_channels, .int o_step, .int o_mostSample, .ref o_samples, .ref o_draft])), (o_samples, .inl (G.2.1, o_samplesN, .inl o_samplesF)), (o_draft, .inl (G.2.1, o_draftN, .inl o_draftF))] sz) := by
  refine xMetQ (by decide) (Nat.le_of_ble_eq_true rfl) ?_
  intro p e s m below meth c ls A H locs C0 hnm B hl
  have hl : lv_has ls 6 [(0, .ref o), (1, .int x1), (2, .int x2), (3, .int x3), (4, .int x4)] := hl
  have h := hF
  unfold f_X2_replaceSample at h
  obtain ⟨hx, hb, hr, hml, hown, hts, hlk⟩ := id C0
  refine lv_aload_n hx hb dX2_replaceSample_0 rfl (lv_at hl 0 rfl) ?_
  refine lv_iload_n hx hb dX2_replaceSample_1 rfl (lv_at hl 1 rfl) ?_
  refine lv_iload_n hx hb dX2_replaceSample_2 rfl (lv_at hl 2 rfl) ?_
  refine lv_iload_n hx hb dX2_replaceSample_3 rfl (lv_at hl 3 rfl) ?_
  obtain ⟨r_1, e_2, h⟩ := xb_spec h
  refine xcallR (wc := [(o, .inr (2, [.int o_width, .int o_height, .int o_bits, .int o_channels, .int o_step, .int o_mostSample, .ref o_samples, .ref o_draft])), (o_samples, .inl (G.2.1, o_samplesN, .inl o_samplesF)), (o_draft, .inl (G.2.1, o_draftN, .inl o_draftF))]) B [0, 1, 2] rfl rfl (xrunV C0 (c_X2_sampleAt l G o o_width o_height o_bits o_channels o_step o_mostSample o_samples o_samplesN o_samplesF o_draft o_draftN o_draftF x1 x2 x3 n r_1 e_2 H.size) kb_X2_sampleAt kv_X2_sampleAt wd_97 (ci := 2) rfl rfl rfl rfl rfl ⟨Nat.le_of_ble_eq_true rfl, Nat.le_of_ble_eq_true rfl⟩ rfl hl rfl (Nat.le_of_ble_eq_true rfl) dX2_replaceSample_4 ⟨Nat.le_of_ble_eq_true rfl, Nat.le_of_ble_eq_true rfl⟩) (fun H locs B => ?_)
  refine lv_istore (lv' := [(5, .int r_1), (0, .ref o), (1, .int x1), (2, .int x2), (3, .int x3), (4, .int x4)]) hx hb dX2_replaceSample_7 hl (by decide) rfl (fun ls hl => ?_)
  refine lv_aload_n hx hb dX2_replaceSample_9 rfl (lv_at hl 1 rfl) ?_
  refine lv_iload_n hx hb dX2_replaceSample_10 rfl (lv_at hl 2 rfl) ?_
  refine lv_iload_n hx hb dX2_replaceSample_11 rfl (lv_at hl 3 rfl) ?_
  refine lv_iload_n hx hb dX2_replaceSample_12 rfl (lv_at hl 4 rfl) ?_
  obtain ⟨r_3, e_4, h⟩ := xb_spec h
  refine xcallR (wc := [(o, .inr (2, [.int o_width, .int o_height, .int o_bits, .int o_channels, .int o_step, .int o_mostSample, .ref o_samples, .ref o_draft])), (o_samples, .inl (G.2.1, o_samplesN, .inl o_samplesF)), (o_draft, .inl (G.2.1, o_draftN, .inl o_draftF))]) B [0, 1, 2] rfl rfl (xrunV C0 (c_X2_hasSample l G o o_width o_height o_bits o_channels o_step o_mostSample o_samples o_samplesN o_samplesF o_draft o_draftN o_draftF x1 x2 x3 n r_3 e_4 H.size) kb_X2_hasSample kv_X2_hasSample wd_92 (ci := 2) rfl rfl rfl rfl rfl ⟨Nat.le_of_ble_eq_true rfl, Nat.le_of_ble_eq_true rfl⟩ rfl hl rfl (Nat.le_of_ble_eq_true rfl) dX2_replaceSample_13 ⟨Nat.le_of_ble_eq_true rfl, Nat.le_of_ble_eq_true rfl⟩) (fun H locs B => ?_)
  refine lv_if_eq (tgt := 33) hx hb dX2_replaceSample_16 (by decide) (fun c_5 => ?_) (fun c_5 => ?_)
  · have h := oif_t h c_5
    refine lv_iload hx hb dX2_replaceSample_33 (lv_at hl 0 rfl) ?_
    obtain ⟨g1, k1⟩ := Prod.mk.inj (Option.some.inj h)
    subst g1 k1
    exact xreti C0 B [0, 1, 2] rfl rfl dX2_replaceSample_35
  · have h := oif_f h c_5
    refine lv_aload_n hx hb dX2_replaceSample_19 rfl (lv_at hl 1 rfl) ?_
    refine xget (v := .ref o_samples) C0 B inX2 0 rfl rfl 6 (by decide) wd_82 rfl dX2_replaceSample_20 ?_
    refine lv_aload_n hx hb dX2_replaceSample_23 rfl (lv_at hl 1 rfl) ?_
    refine lv_iload_n hx hb dX2_replaceSample_24 rfl (lv_at hl 2 rfl) ?_
    refine lv_iload_n hx hb dX2_replaceSample_25 rfl (lv_at hl 3 rfl) ?_
    refine lv_iload_n hx hb dX2_replaceSample_26 rfl (lv_at hl 4 rfl) ?_
    obtain ⟨r_6, e_7, h⟩ := xb_spec h
    refine xcallR (wc := [(o, .inr (2, [.int o_width, .int o_height, .int o_bits, .int o_channels, .int o_step, .int o_mostSample, .ref o_samples, .ref o_draft])), (o_samples, .inl (G.2.1, o_samplesN, .inl o_samplesF)), (o_draft, .inl (G.2.1, o_draftN, .inl o_draftF))]) B [0, 1, 2] rfl rfl (xrunV C0 (c_X2_indexOf l G o o_width o_height o_bits o_channels o_step o_mostSample o_samples o_samplesN o_samplesF o_draft o_draftN o_draftF x1 x2 x3 n r_6 e_7 H.size) kb_X2_indexOf kv_X2_indexOf wd_93 (ci := 2) rfl rfl rfl rfl rfl ⟨Nat.le_of_ble_eq_true rfl, Nat.le_of_ble_eq_true rfl⟩ rfl hl rfl (Nat.le_of_ble_eq_true rfl) dX2_replaceSample_27 ⟨Nat.le_of_ble_eq_true rfl, Nat.le_of_ble_eq_true rfl⟩) (fun H locs B => ?_)
    refine lv_iload hx hb dX2_replaceSample_30 (lv_at hl 5 rfl) ?_
    obtain ⟨b_8, h⟩ := xin_spec h
    refine xiast (ws' := [(o, .inr (2, [.int o_width, .int o_height, .int o_bits, .int o_channels, .int o_step, .int o_mostSample, .ref o_samples, .ref o_draft])), (o_samples, .inl (G.2.1, o_samplesN, .inl (upd o_samplesF (r_6).toNatClampNeg x4))), (o_draft, .inl (G.2.1, o_draftN, .inl o_draftF))]) C0 B 1 rfl b_8 rfl dX2_replaceSample_32 (fun H locs B => ?_)
    refine lv_iload hx hb dX2_replaceSample_33 (lv_at hl 0 rfl) ?_
    obtain ⟨g1, k1⟩ := Prod.mk.inj (Option.some.inj h)
    subst g1 k1
    exact xreti C0 B [0, 1, 2] rfl rfl dX2_replaceSample_35
/-! FilterRows$Picture.paintAll(II)I -/
abbrev rm_X2_paintAll : Room := { frames := 0, cells := 0, slots := 0, locals := 0 }
def fl_X2_paintAll_8 : Nat → Int32 → Nat → (Nat → Int32) → Int32 → Int32 → Int32 → Int32 → Int32 → Option (Int32 × Int32 × Int32 × (Nat → Int32))
  | 0, _, _, _, _, _, _, _, _ => none
  | n + 1, o_mostSample, o_samplesN, o_samplesF, y1, y2, y3, y4, y5 => (if (nI o_samplesN) ≤ y5 then some (y3, y4, y5, o_samplesF) else xin y5 o_samplesN ((if (o_samplesF (y5).toNatClampNeg) = (y4 &&& o_mostSample) then xin y5 o_samplesN (fl_X2_paintAll_8 n o_mostSample o_samplesN (upd o_samplesF (y5).toNatClampNeg (y4 &&& o_mostSample)) y1 y2 y3 (y4 + y2) (y5 + (1 : Int32))) else xin y5 o_samplesN (fl_X2_paintAll_8 n o_mostSample o_samplesN (upd o_samplesF (y5).toNatClampNeg (y4 &&& o_mostSample)) y1 y2 (y3 + (1 : Int32)) (y4 + y2) (y5 + (1 : Int32))))))
def f_X2_paintAll (n : Nat) (o_mostSample : Int32) (o_samplesN : Nat) (o_samplesF : Nat → Int32) (x1 : Int32) (x2 : Int32) : Option (Int32 × (Nat → Int32)) := xb (fl_X2_paintAll_8 n o_mostSample o_samplesN o_samplesF x1 x2 (0 : Int32) x1 (0 : Int32)) (fun (v_1, v_2, v_3, w_4) => some (v_1, w_4))
set_option maxHeartbeats 4000000 in
set_option maxRecDepth 100000 in
theorem lo_X2_paintAll_8 {p : Program} {l : Launch} {e : Env} {s : State} {m : MethodId} {args : Array Value} {below : List Frame} {meth : Method} {c : Code} {Q : State → Prop} {G : xG} {A : Nat → Prop} (C0 : xC p s m args meth c "FilterRows$Picture" cX2_paintAll 7 (some .int)) : ∀ (n : Nat) (o : Nat) (o_width : Int32) (o_height : Int32) (o_bits : Int32) (o_channels : Int32) (o_step : Int32) (o_mostSample : Int32) (o_samples : Nat) (o_samplesN : Nat) (o_samplesF : Nat → Int32) (o_draft : Nat) (o_draftN : Nat) (o_draftF : Nat → Int32) (y1 : Int32) (y2 : Int32) (y3 : Int32) (y4 : Int32) (y5 : Int32) (z3 : Int32) (z4 : Int32) (z5 : Int32) (z_o_samplesF : Nat → Int32), fl_X2_paintAll_8 n o_mostSample o_samplesN o_samplesF y1 y2 y3 y4 y5 = some (z3, z4, z5, z_o_samplesF) → ∀ (H : Heap) (locs : List Loc) (ls : Array Slot), xW G true A s [(o, .inr (2, [.int o_width, .int o_height, .int o_bits, .int o_channels, .int o_step, .int o_mostSample, .ref o_samples, .ref o_draft])), (o_samples, .inl (G.2.1, o_samplesN, .inl o_samplesF)), (o_draft, .inl (G.2.1, o_draftN, .inl o_draftF))] H locs → lv_has ls 7 [(0, .ref o), (1, .int y1), (2, .int y2), (3, .int y3), (4, .int y4), (5, .int y5)] → (∀ (H : Heap) (locs : List Loc) (ls : Array Slot), xW G true A s [(o, .inr (2, [.int o_width, .int o_height, .int o_bits, .int o_channels, .int o_step, .int o_mostSample, .ref o_samples, .ref o_draft])), (o_samples, .inl (G.2.1, o_samplesN, .inl z_o_samplesF)), (o_draft, .inl (G.2.1, o_draftN, .inl o_draftF))] H locs → lv_has ls 7 [(0, .ref o), (1, .int y1), (2, .int y2), (3, .int z3), (4, .int z4), (5, .int z5)] → W p l e rm_X2_paintAll s m args below meth c H locs 0 0 Q (F0 m 63 ls [])) → W p l e rm_X2_paintAll s m args below meth c H locs 0 0 Q (F0 m 8 ls []) := by
  obtain ⟨hx, hb, hr, hml, hown, hts, hlk⟩ := id C0
  intro n
  induction n with
  | zero =>
    intro o o_width o_height o_bits o_channels o_step o_mostSample o_samples o_samplesN o_samplesF o_draft o_draftN o_draftF y1 y2 y3 y4 y5 z3 z4 z5 z_o_samplesF h
    rw [fl_X2_paintAll_8] at h
    cases h
  | succ n ih =>
    intro o o_width o_height o_bits o_channels o_step o_mostSample o_samples o_samplesN o_samplesF o_draft o_draftN o_draftF y1 y2 y3 y4 y5 z3 z4 z5 z_o_samplesF h H locs ls B hl K
    rw [fl_X2_paintAll_8] at h
    refine lv_iload hx hb dX2_paintAll_8 (lv_at hl 5 rfl) ?_
    refine lv_aload_n hx hb dX2_paintAll_10 rfl (lv_at hl 0 rfl) ?_
    refine xget (v := .ref o_samples) C0 B inX2 0 rfl rfl 6 (by decide) wd_82 rfl dX2_paintAll_11 ?_
    refine xalen C0 B 1 0 rfl rfl dX2_paintAll_14 ?_
    refine lv_icmp_ge (tgt := 63) hx hb dX2_paintAll_15 (by decide) (fun c_1 => ?_) (fun c_1 => ?_)
    · have h := oif_t h c_1
      obtain ⟨g1, k1⟩ := Prod.mk.inj (Option.some.inj h)
      obtain ⟨g2, k2⟩ := Prod.mk.inj k1
      obtain ⟨g3, k3⟩ := Prod.mk.inj k2
      subst g1 g2 g3 k3
      exact K H locs ls (B.sub [0, 1, 2] rfl rfl) (lv_sub hl [0, 1, 2, 3, 4, 5] rfl)
    · have h := oif_f h c_1
      refine lv_iload hx hb dX2_paintAll_18 (lv_at hl 4 rfl) ?_
      refine lv_aload_n hx hb dX2_paintAll_20 rfl (lv_at hl 0 rfl) ?_
      refine xget (v := .int o_mostSample) C0 B inX2 0 rfl rfl 5 (by decide) wd_81 rfl dX2_paintAll_21 ?_
      refine lv_iand hx hb dX2_paintAll_24 ?_
      refine lv_istore (lv' := [(6, .int (y4 &&& o_mostSample)), (0, .ref o), (1, .int y1), (2, .int y2), (3, .int y3), (4, .int y4), (5, .int y5)]) hx hb dX2_paintAll_25 hl (by decide) rfl (fun ls hl => ?_)
      refine lv_aload_n hx hb dX2_paintAll_27 rfl (lv_at hl 1 rfl) ?_
      refine xget (v := .ref o_samples) C0 B inX2 0 rfl rfl 6 (by decide) wd_82 rfl dX2_paintAll_28 ?_
      refine lv_iload hx hb dX2_paintAll_31 (lv_at hl 6 rfl) ?_
      obtain ⟨b_2, h⟩ := xin_spec h
      refine xiald C0 B 1 rfl b_2 dX2_paintAll_33 ?_
      refine lv_iload hx hb dX2_paintAll_34 (lv_at hl 0 rfl) ?_
      refine lv_icmp_eq (tgt := 42) hx hb dX2_paintAll_36 (by decide) (fun c_3 => ?_) (fun c_3 => ?_)
      · have h := oif_t h c_3
        refine lv_aload_n hx hb dX2_paintAll_42 rfl (lv_at hl 1 rfl) ?_
        refine xget (v := .ref o_samples) C0 B inX2 0 rfl rfl 6 (by decide) wd_82 rfl dX2_paintAll_43 ?_
        refine lv_iload hx hb dX2_paintAll_46 (lv_at hl 6 rfl) ?_
        refine lv_iload hx hb dX2_paintAll_48 (lv_at hl 0 rfl) ?_
        obtain ⟨b_4, h⟩ := xin_spec h
        refine xiast (ws' := [(o, .inr (2, [.int o_width, .int o_height, .int o_bits, .int o_channels, .int o_step, .int o_mostSample, .ref o_samples, .ref o_draft])), (o_samples, .inl (G.2.1, o_samplesN, .inl (upd o_samplesF (y5).toNatClampNeg (y4 &&& o_mostSample)))), (o_draft, .inl (G.2.1, o_draftN, .inl o_draftF))]) C0 B 1 rfl b_4 rfl dX2_paintAll_50 (fun H locs B => ?_)
        refine lv_iload hx hb dX2_paintAll_51 (lv_at hl 5 rfl) ?_
        refine lv_iload_n hx hb dX2_paintAll_53 rfl (lv_at hl 3 rfl) ?_
        refine lv_iadd hx hb dX2_paintAll_54 ?_
        refine lv_istore (lv' := [(4, .int (y4 + y2)), (6, .int (y4 &&& o_mostSample)), (0, .ref o), (1, .int y1), (2, .int y2), (3, .int y3), (5, .int y5)]) hx hb dX2_paintAll_55 hl (by decide) rfl (fun ls hl => ?_)
        refine lv_iinc (v := (y5 + (1 : Int32))) (lv' := [(5, .int (y5 + (1 : Int32))), (4, .int (y4 + y2)), (6, .int (y4 &&& o_mostSample)), (0, .ref o), (1, .int y1), (2, .int y2), (3, .int y3)]) hx hb dX2_paintAll_57 hl (k := 6) rfl rfl (by decide) rfl (fun ls hl => ?_)
        refine lv_goto (tgt := 8) hx hb dX2_paintAll_60 (by decide) ?_
        exact ih o o_width o_height o_bits o_channels o_step o_mostSample o_samples o_samplesN (upd o_samplesF (y5).toNatClampNeg (y4 &&& o_mostSample)) o_draft o_draftN o_draftF y1 y2 y3 (y4 + y2) (y5 + (1 : Int32)) _ _ _ _ h H locs ls (B.sub [0, 1, 2] rfl rfl) (lv_sub hl [3, 4, 5, 6, 1, 0] rfl) K
      · have h := oif_f h c_3
        refine lv_iinc (v := (y3 + (1 : Int32))) (lv' := [(3, .int (y3 + (1 : Int32))), (6, .int (y4 &&& o_mostSample)), (0, .ref o), (1, .int y1), (2, .int y2), (4, .int y4), (5, .int y5)]) hx hb dX2_paintAll_39 hl (k := 4) rfl rfl (by decide) rfl (fun ls hl => ?_)
        refine lv_aload_n hx hb dX2_paintAll_42 rfl (lv_at hl 2 rfl) ?_
        refine xget (v := .ref o_samples) C0 B inX2 0 rfl rfl 6 (by decide) wd_82 rfl dX2_paintAll_43 ?_
        refine lv_iload hx hb dX2_paintAll_46 (lv_at hl 6 rfl) ?_
        refine lv_iload hx hb dX2_paintAll_48 (lv_at hl 1 rfl) ?_
        obtain ⟨b_5, h⟩ := xin_spec h
        refine xiast (ws' := [(o, .inr (2, [.int o_width, .int o_height, .int o_bits, .int o_channels, .int o_step, .int o_mostSample, .ref o_samples, .ref o_draft])), (o_samples, .inl (G.2.1, o_samplesN, .inl (upd o_samplesF (y5).toNatClampNeg (y4 &&& o_mostSample)))), (o_draft, .inl (G.2.1, o_draftN, .inl o_draftF))]) C0 B 1 rfl b_5 rfl dX2_paintAll_50 (fun H locs B => ?_)
        refine lv_iload hx hb dX2_paintAll_51 (lv_at hl 5 rfl) ?_
        refine lv_iload_n hx hb dX2_paintAll_53 rfl (lv_at hl 4 rfl) ?_
        refine lv_iadd hx hb dX2_paintAll_54 ?_
        refine lv_istore (lv' := [(4, .int (y4 + y2)), (3, .int (y3 + (1 : Int32))), (6, .int (y4 &&& o_mostSample)), (0, .ref o), (1, .int y1), (2, .int y2), (5, .int y5)]) hx hb dX2_paintAll_55 hl (by decide) rfl (fun ls hl => ?_)
        refine lv_iinc (v := (y5 + (1 : Int32))) (lv' := [(5, .int (y5 + (1 : Int32))), (4, .int (y4 + y2)), (3, .int (y3 + (1 : Int32))), (6, .int (y4 &&& o_mostSample)), (0, .ref o), (1, .int y1), (2, .int y2)]) hx hb dX2_paintAll_57 hl (k := 6) rfl rfl (by decide) rfl (fun ls hl => ?_)
        refine lv_goto (tgt := 8) hx hb dX2_paintAll_60 (by decide) ?_
        exact ih o o_width o_height o_bits o_channels o_step o_mostSample o_samples o_samplesN (upd o_samplesF (y5).toNatClampNeg (y4 &&& o_mostSample)) o_draft o_draftN o_draftF y1 y2 (y3 + (1 : Int32)) (y4 + y2) (y5 + (1 : Int32)) _ _ _ _ h H locs ls (B.sub [0, 1, 2] rfl rfl) (lv_sub hl [4, 5, 6, 2, 1, 0] rfl) K
set_option maxHeartbeats 4000000 in
set_option maxRecDepth 100000 in
theorem c_X2_paintAll (l : Launch) (G : xG) (o : Nat) (o_width : Int32) (o_height : Int32) (o_bits : Int32) (o_channels : Int32) (o_step : Int32) (o_mostSample : Int32) (o_samples : Nat) (o_samplesN : Nat) (o_samplesF : Nat → Int32) (o_draft : Nat) (o_draftN : Nat) (o_draftF : Nat → Int32) (x1 : Int32) (x2 : Int32) (n : Nat) (zr : Int32) (z_o_samplesF : Nat → Int32) (hF : f_X2_paintAll n o_mostSample o_samplesN o_samplesF x1 x2 = some (zr, z_o_samplesF)) (sz : Nat) : Met l yX2_paintAll (xws yX2_paintAll cX2_paintAll 7 (some .int)) rm_X2_paintAll (va_Pc [.ref o, .int x1, .int x2] (xPre G [(o, .inr (2, [.int o_width, .int o_height, .int o_bits, .int o_channels, .int o_step, .int o_mostSample, .ref o_samples, .ref o_draft])), (o_samples, .inl (G.2.1, o_samplesN, .inl o_samplesF)), (o_draft, .inl (G.2.1, o_draftN, .inl o_draftF))] sz)) (xQ G (some (.int zr)) [(o, .inr (2, [.int o_width, .int o_height, .int o_bits, .int o_channels, .int o_step, .int o_mostSample, .ref o_samples, .ref o_draft])), (o_samples, .inl (G.2.1, o_samplesN, .inl z_o_samplesF)), (o_draft, .inl (G.2.1, o_draftN, .inl o_draftF))] (va_A [(o, .inr (2, [.int o_width, .int o_height, .int o_bits, .int o_channels, .int o_step, .int o_mostSample, .ref o_samples, .ref o_draft])), (o_samples, .inl (G.2.1, o_samplesN, .inl o_samplesF)), (o_draft, .inl (G.2.1, o_draftN, .inl o_draftF))] sz)) 0 0 (va_A [(o, .inr (2, [.int o_width, .int o_height, .int o_bits, .int o_channels, .int o_step, .int o_mostSample, .ref o_samples, .ref o_draft])), (o_samples, .inl (G.2.1, o_samplesN, .inl o_samplesF)), (o_draft, .inl (G.2.1, o_draftN, .inl o_draftF))] sz) := by
  refine xMetQ (by decide) (Nat.le_of_ble_eq_true rfl) ?_
  intro p e s m below meth c ls A H locs C0 hnm B hl
  have hl : lv_has ls 7 [(0, .ref o), (1, .int x1), (2, .int x2)] := hl
  have h := hF
  unfold f_X2_paintAll at h
  obtain ⟨hx, hb, hr, hml, hown, hts, hlk⟩ := id C0
  refine lv_iconst (v := 0) hx hb dX2_paintAll_0 (by decide) ?_
  refine lv_istore_n (lv' := [(3, .int (0 : Int32)), (0, .ref o), (1, .int x1), (2, .int x2)]) hx hb dX2_paintAll_1 rfl hl (by decide) rfl (fun ls hl => ?_)
  refine lv_iload_n hx hb dX2_paintAll_2 rfl (lv_at hl 2 rfl) ?_
  refine lv_istore (lv' := [(4, .int x1), (3, .int (0 : Int32)), (0, .ref o), (1, .int x1), (2, .int x2)]) hx hb dX2_paintAll_3 hl (by decide) rfl (fun ls hl => ?_)
  refine lv_iconst (v := 0) hx hb dX2_paintAll_5 (by decide) ?_
  refine lv_istore (lv' := [(5, .int (0 : Int32)), (4, .int x1), (3, .int (0 : Int32)), (0, .ref o), (1, .int x1), (2, .int x2)]) hx hb dX2_paintAll_6 hl (by decide) rfl (fun ls hl => ?_)
  obtain ⟨⟨v_1, v_2, v_3, w_4⟩, e_5, h⟩ := xb_spec h
  refine lo_X2_paintAll_8 C0 n o o_width o_height o_bits o_channels o_step o_mostSample o_samples o_samplesN o_samplesF o_draft o_draftN o_draftF x1 x2 (0 : Int32) x1 (0 : Int32) v_1 v_2 v_3 w_4 e_5 H locs ls (B.sub [0, 1, 2] rfl rfl) (lv_sub hl [3, 4, 5, 2, 1, 0] rfl) (fun H locs ls B hl => ?_)
  refine lv_iload_n hx hb dX2_paintAll_63 rfl (lv_at hl 3 rfl) ?_
  obtain ⟨g1, k1⟩ := Prod.mk.inj (Option.some.inj h)
  subst g1 k1
  exact xreti C0 B [0, 1, 2] rfl rfl dX2_paintAll_64
/-! java/util/Arrays.fill([II)V -/
abbrev rm_JA_fill : Room := { frames := 0, cells := 0, slots := 0, locals := 0 }
def fl_JA_fill_5 : Nat → Nat → (Nat → Int32) → Int32 → Int32 → Int32 → Option (Int32 × (Nat → Int32))
  | 0, _, _, _, _, _ => none
  | n + 1, p0N, p0F, y1, y2, y3 => (if y3 ≤ y2 then some (y2, p0F) else xin y2 p0N (fl_JA_fill_5 n p0N (upd p0F (y2).toNatClampNeg y1) y1 (y2 + (1 : Int32)) y3))
def f_JA_fill (n : Nat) (p0N : Nat) (p0F : Nat → Int32) (x1 : Int32) : Option (Nat → Int32) := xb (fl_JA_fill_5 n p0N p0F x1 (0 : Int32) (nI p0N)) (fun (v_1, w_2) => some w_2)
set_option maxHeartbeats 4000000 in
set_option maxRecDepth 100000 in
theorem lo_JA_fill_5 {p : Program} {l : Launch} {e : Env} {s : State} {m : MethodId} {args : Array Value} {below : List Frame} {meth : Method} {c : Code} {Q : State → Prop} {G : xG} {A : Nat → Prop} (C0 : xC p s m args meth c "java/util/Arrays" cJA_fill 4 none) : ∀ (n : Nat) (p0 : Nat) (p0N : Nat) (p0F : Nat → Int32) (y1 : Int32) (y2 : Int32) (y3 : Int32) (z2 : Int32) (z_p0F : Nat → Int32), fl_JA_fill_5 n p0N p0F y1 y2 y3 = some (z2, z_p0F) → ∀ (H : Heap) (locs : List Loc) (ls : Array Slot), xW G true A s [(p0, .inl (G.2.1, p0N, .inl p0F))] H locs → lv_has ls 4 [(0, .ref p0), (1, .int y1), (2, .int y2), (3, .int y3)] → (∀ (H : Heap) (locs : List Loc) (ls : Array Slot), xW G true A s [(p0, .inl (G.2.1, p0N, .inl z_p0F))] H locs → lv_has ls 4 [(0, .ref p0), (1, .int y1), (2, .int z2), (3, .int y3)] → W p l e rm_JA_fill s m args below meth c H locs 0 0 Q (F0 m 20 ls [])) → W p l e rm_JA_fill s m args below meth c H locs 0 0 Q (F0 m 5 ls []) := by
  obtain ⟨hx, hb, hr, hml, hown, hts, hlk⟩ := id C0
  intro n
  induction n with
  | zero =>
    intro p0 p0N p0F y1 y2 y3 z2 z_p0F h
    rw [fl_JA_fill_5] at h
    cases h
  | succ n ih =>
    intro p0 p0N p0F y1 y2 y3 z2 z_p0F h H locs ls B hl K
    rw [fl_JA_fill_5] at h
    refine lv_iload_n hx hb dJA_fill_5 rfl (lv_at hl 2 rfl) ?_
    refine lv_iload_n hx hb dJA_fill_6 rfl (lv_at hl 3 rfl) ?_
    refine lv_icmp_ge (tgt := 20) hx hb dJA_fill_7 (by decide) (fun c_1 => ?_) (fun c_1 => ?_)
    · have h := oif_t h c_1
      obtain ⟨g1, k1⟩ := Prod.mk.inj (Option.some.inj h)
      subst g1 k1
      exact K H locs ls (B.sub [0] rfl rfl) (lv_sub hl [0, 1, 2, 3] rfl)
    · have h := oif_f h c_1
      refine lv_aload_n hx hb dJA_fill_10 rfl (lv_at hl 0 rfl) ?_
      refine lv_iload_n hx hb dJA_fill_11 rfl (lv_at hl 2 rfl) ?_
      refine lv_iload_n hx hb dJA_fill_12 rfl (lv_at hl 1 rfl) ?_
      obtain ⟨b_2, h⟩ := xin_spec h
      refine xiast (ws' := [(p0, .inl (G.2.1, p0N, .inl (upd p0F (y2).toNatClampNeg y1)))]) C0 B 0 rfl b_2 rfl dJA_fill_13 (fun H locs B => ?_)
      refine lv_iinc (v := (y2 + (1 : Int32))) (lv' := [(2, .int (y2 + (1 : Int32))), (0, .ref p0), (1, .int y1), (3, .int y3)]) hx hb dJA_fill_14 hl (k := 2) rfl rfl (by decide) rfl (fun ls hl => ?_)
      refine lv_goto (tgt := 5) hx hb dJA_fill_17 (by decide) ?_
      exact ih p0 p0N (upd p0F (y2).toNatClampNeg y1) y1 (y2 + (1 : Int32)) y3 _ _ h H locs ls (B.sub [0] rfl rfl) (lv_sub hl [1, 2, 0, 3] rfl) K
set_option maxHeartbeats 4000000 in
set_option maxRecDepth 100000 in
theorem c_JA_fill (l : Launch) (G : xG) (p0 : Nat) (p0N : Nat) (p0F : Nat → Int32) (x1 : Int32) (n : Nat) (z_p0F : Nat → Int32) (hF : f_JA_fill n p0N p0F x1 = some z_p0F) (sz : Nat) : Met l yJA_fill (xws yJA_fill cJA_fill 4 none) rm_JA_fill (va_Pc [.ref p0, .int x1] (xPre G [(p0, .inl (G.2.1, p0N, .inl p0F))] sz)) (xQ G none [(p0, .inl (G.2.1, p0N, .inl z_p0F))] (va_A [(p0, .inl (G.2.1, p0N, .inl p0F))] sz)) 0 0 (va_A [(p0, .inl (G.2.1, p0N, .inl p0F))] sz) := by
  refine xMetQ (by decide) (Nat.le_of_ble_eq_true rfl) ?_
  intro p e s m below meth c ls A H locs C0 hnm B hl
  have hl : lv_has ls 4 [(0, .ref p0), (1, .int x1)] := hl
  have h := hF
  unfold f_JA_fill at h
  obtain ⟨hx, hb, hr, hml, hown, hts, hlk⟩ := id C0
  refine lv_iconst (v := 0) hx hb dJA_fill_0 (by decide) ?_
  refine lv_istore_n (lv' := [(2, .int (0 : Int32)), (0, .ref p0), (1, .int x1)]) hx hb dJA_fill_1 rfl hl (by decide) rfl (fun ls hl => ?_)
  refine lv_aload_n hx hb dJA_fill_2 rfl (lv_at hl 1 rfl) ?_
  refine xalen C0 B 0 0 rfl rfl dJA_fill_3 ?_
  refine lv_istore_n (lv' := [(3, .int (nI p0N)), (2, .int (0 : Int32)), (0, .ref p0), (1, .int x1)]) hx hb dJA_fill_4 rfl hl (by decide) rfl (fun ls hl => ?_)
  obtain ⟨⟨v_1, w_2⟩, e_3, h⟩ := xb_spec h
  refine lo_JA_fill_5 C0 n p0 p0N p0F x1 (0 : Int32) (nI p0N) v_1 w_2 e_3 H locs ls (B.sub [0] rfl rfl) (lv_sub hl [2, 3, 1, 0] rfl) (fun H locs ls B hl => ?_)
  obtain rfl := Option.some.inj h
  exact xretv C0 B [0] rfl rfl dJA_fill_20
/-! FilterRows$Picture.blank()V -/
abbrev rm_X2_blank : Room := { frames := 1, cells := 0, slots := 0, locals := 23 }
def f_X2_blank (n : Nat) (o_samplesN : Nat) (o_samplesF : Nat → Int32)  : Option (Nat → Int32) := xb (f_JA_fill n o_samplesN o_samplesF (0 : Int32)) (fun w_1 => some w_1)
set_option maxHeartbeats 4000000 in
set_option maxRecDepth 100000 in
theorem c_X2_blank (l : Launch) (G : xG) (o : Nat) (o_width : Int32) (o_height : Int32) (o_bits : Int32) (o_channels : Int32) (o_step : Int32) (o_mostSample : Int32) (o_samples : Nat) (o_samplesN : Nat) (o_samplesF : Nat → Int32) (o_draft : Nat) (o_draftN : Nat) (o_draftF : Nat → Int32)  (n : Nat) (z_o_samplesF : Nat → Int32) (hF : f_X2_blank n o_samplesN o_samplesF = some z_o_samplesF) (sz : Nat) : Met l yX2_blank (xws yX2_blank cX2_blank 1 none) rm_X2_blank (va_Pc [.ref o] (xPre G [(o, .inr (2, [.int o_width, .int o_height, .int o_bits, .int o_channels, .int o_step, .int o_mostSample, .ref o_samples, .ref o_draft])), (o_samples, .inl (G.2.1, o_samplesN, .inl o_samplesF)), (o_draft, .inl (G.2.1, o_draftN, .inl o_draftF))] sz)) (xQ G none [(o, .inr (2, [.int o_width, .int o_height, .int o_bits, .int o_channels, .int o_step, .int o_mostSample, .ref o_samples, .ref o_draft])), (o_samples, .inl (G.2.1, o_samplesN, .inl z_o_samplesF)), (o_draft, .inl (G.2.1, o_draftN, .inl o_draftF))] (va_A [(o, .inr (2, [.int o_width, .int o_height, .int o_bits, .int o_channels, .int o_step, .int o_mostSample, .ref o_samples, .ref o_draft])), (o_samples, .inl (G.2.1, o_samplesN, .inl o_samplesF)), (o_draft, .inl (G.2.1, o_draftN, .inl o_draftF))] sz)) 0 0 (va_A [(o, .inr (2, [.int o_width, .int o_height, .int o_bits, .int o_channels, .int o_step, .int o_mostSample, .ref o_samples, .ref o_draft])), (o_samples, .inl (G.2.1, o_samplesN, .inl o_samplesF)), (o_draft, .inl (G.2.1, o_draftN, .inl o_draftF))] sz) := by
  refine xMetQ (by decide) (Nat.le_of_ble_eq_true rfl) ?_
  intro p e s m below meth c ls A H locs C0 hnm B hl
  have hl : lv_has ls 1 [(0, .ref o)] := hl
  have h := hF
  unfold f_X2_blank at h
  obtain ⟨hx, hb, hr, hml, hown, hts, hlk⟩ := id C0
  refine lv_aload_n hx hb dX2_blank_0 rfl (lv_at hl 0 rfl) ?_
  refine xget (v := .ref o_samples) C0 B inX2 0 rfl rfl 6 (by decide) wd_82 rfl dX2_blank_1 ?_
  refine lv_iconst (v := 0) hx hb dX2_blank_4 (by decide) ?_
  obtain ⟨w_1, e_2, h⟩ := xb_spec h
  refine xcall0 (wc := [(o_samples, .inl (G.2.1, o_samplesN, .inl o_samplesF))]) (wr := [(o, .inr (2, [.int o_width, .int o_height, .int o_bits, .int o_channels, .int o_step, .int o_mostSample, .ref o_samples, .ref o_draft])), (o_draft, .inl (G.2.1, o_draftN, .inl o_draftF))]) (w1 := [(o_samples, .inl (G.2.1, o_samplesN, .inl w_1))]) (ws' := [(o, .inr (2, [.int o_width, .int o_height, .int o_bits, .int o_channels, .int o_step, .int o_mostSample, .ref o_samples, .ref o_draft])), (o_samples, .inl (G.2.1, o_samplesN, .inl w_1)), (o_draft, .inl (G.2.1, o_draftN, .inl o_draftF))]) B [1] [0, 2] [0, 2, 1] rfl rfl rfl rfl (by decide) rfl rfl (xrunS C0 (c_JA_fill l G o_samples o_samplesN o_samplesF (0 : Int32) n w_1 e_2 H.size) kb_JA_fill kv_JA_fill wd_107 rfl rfl ⟨Nat.le_of_ble_eq_true rfl, Nat.le_of_ble_eq_true rfl⟩ rfl hl rfl (Nat.le_of_ble_eq_true rfl) dX2_blank_5 ⟨Nat.le_of_ble_eq_true rfl, Nat.le_of_ble_eq_true rfl⟩) (fun H locs B => ?_)
  obtain rfl := Option.some.inj h
  exact xretv C0 B [0, 1, 2] rfl rfl dX2_blank_8
/-! FilterRows$Picture.hasAlpha()Z -/
abbrev rm_X2_hasAlpha : Room := { frames := 0, cells := 0, slots := 0, locals := 0 }
def f_X2_hasAlpha (n : Nat) (o_channels : Int32)  : Option Int32 := (if o_channels = (2 : Int32) then some (1 : Int32) else (if o_channels = (4 : Int32) then some (1 : Int32) else some (0 : Int32)))
set_option maxHeartbeats 4000000 in
set_option maxRecDepth 100000 in
theorem c_X2_hasAlpha (l : Launch) (G : xG) (o : Nat) (o_width : Int32) (o_height : Int32) (o_bits : Int32) (o_channels : Int32) (o_step : Int32) (o_mostSample : Int32) (o_samples : Nat) (o_samplesN : Nat) (o_samplesF : Nat → Int32) (o_draft : Nat) (o_draftN : Nat) (o_draftF : Nat → Int32)  (n : Nat) (zr : Int32) (hF : f_X2_hasAlpha n o_channels = some zr) (sz : Nat) : Met l yX2_hasAlpha (xws yX2_hasAlpha cX2_hasAlpha 1 (some .boolean)) rm_X2_hasAlpha (va_Pc [.ref o] (xPre G [(o, .inr (2, [.int o_width, .int o_height, .int o_bits, .int o_channels, .int o_step, .int o_mostSample, .ref o_samples, .ref o_draft])), (o_samples, .inl (G.2.1, o_samplesN, .inl o_samplesF)), (o_draft, .inl (G.2.1, o_draftN, .inl o_draftF))] sz)) (xQR (some (.int zr)) (fun q => sz ≤ q)) 0 0 (fun q => sz ≤ q) := by
  refine xMetR (by decide) (Nat.le_of_ble_eq_true rfl) ?_
  intro p e s m below meth c ls A H locs C0 hnm B hl
  have hl : lv_has ls 1 [(0, .ref o)] := hl
  have h := hF
  unfold f_X2_hasAlpha at h
  obtain ⟨hx, hb, hr, hml, hown, hts, hlk⟩ := id C0
  refine lv_aload_n hx hb dX2_hasAlpha_0 rfl (lv_at hl 0 rfl) ?_
  refine xget (v := .int o_channels) C0 B inX2 0 rfl rfl 3 (by decide) wd_78 rfl dX2_hasAlpha_1 ?_
  refine lv_iconst (v := 2) hx hb dX2_hasAlpha_4 (by decide) ?_
  refine lv_icmp_eq (tgt := 16) hx hb dX2_hasAlpha_5 (by decide) (fun c_1 => ?_) (fun c_1 => ?_)
  · have h := oif_t h c_1
    refine lv_iconst (v := 1) hx hb dX2_hasAlpha_16 (by decide) ?_
    refine lv_goto (tgt := 21) hx hb dX2_hasAlpha_17 (by decide) ?_
    obtain rfl := Option.some.inj h
    exact xretzR C0 B rfl dX2_hasAlpha_21
  · have h := oif_f h c_1
    refine lv_aload_n hx hb dX2_hasAlpha_8 rfl (lv_at hl 0 rfl) ?_
    refine xget (v := .int o_channels) C0 B inX2 0 rfl rfl 3 (by decide) wd_78 rfl dX2_hasAlpha_9 ?_
    refine lv_iconst (v := 4) hx hb dX2_hasAlpha_12 (by decide) ?_
    refine lv_icmp_ne (tgt := 20) hx hb dX2_hasAlpha_13 (by decide) (fun c_2 => ?_) (fun c_2 => ?_)
    · have h := oif_f h c_2
      refine lv_iconst (v := 0) hx hb dX2_hasAlpha_20 (by decide) ?_
      obtain rfl := Option.some.inj h
      exact xretzR C0 B rfl dX2_hasAlpha_21
    · have h := oif_t h c_2
      refine lv_iconst (v := 1) hx hb dX2_hasAlpha_16 (by decide) ?_
      refine lv_goto (tgt := 21) hx hb dX2_hasAlpha_17 (by decide) ?_
      obtain rfl := Option.some.inj h
      exact xretzR C0 B rfl dX2_hasAlpha_21
/-! FilterRows$Picture.blankPlace(II)I -/
abbrev rm_X2_blankPlace : Room := { frames := 3, cells := 0, slots := 0, locals := 71 }
def fl_X2_blankPlace_5 : Nat → Int32 → Int32 → Int32 → Nat → (Nat → Int32) → Int32 → Int32 → Int32 → Int32 → Option (Int32 × Int32 × (Nat → Int32))
  | 0, _, _, _, _, _, _, _, _, _ => none
  | n + 1, o_width, o_height, o_channels, o_samplesN, o_samplesF, y1, y2, y3, y4 => (if o_channels ≤ y4 then some (y3, y4, o_samplesF) else xb (f_X2_replaceSample n o_width o_height o_channels o_samplesN o_samplesF y1 y2 y4 (0 : Int32)) (fun (r_2, w_3) => (if r_2 = 0 then fl_X2_blankPlace_5 n o_width o_height o_channels o_samplesN w_3 y1 y2 y3 (y4 + (1 : Int32)) else fl_X2_blankPlace_5 n o_width o_height o_channels o_samplesN w_3 y1 y2 (y3 + (1 : Int32)) (y4 + (1 : Int32)))))
def f_X2_blankPlace (n : Nat) (o_width : Int32) (o_height : Int32) (o_channels : Int32) (o_samplesN : Nat) (o_samplesF : Nat → Int32) (x1 : Int32) (x2 : Int32) : Option (Int32 × (Nat → Int32)) := xb (fl_X2_blankPlace_5 n o_width o_height o_channels o_samplesN o_samplesF x1 x2 (0 : Int32) (0 : Int32)) (fun (v_1, v_2, w_3) => some (v_1, w_3))
set_option maxHeartbeats 4000000 in
set_option maxRecDepth 100000 in
theorem lo_X2_blankPlace_5 {p : Program} {l : Launch} {e : Env} {s : State} {m : MethodId} {args : Array Value} {below : List Frame} {meth : Method} {c : Code} {Q : State → Prop} {G : xG} {A : Nat → Prop} (C0 : xC p s m args meth c "FilterRows$Picture" cX2_blankPlace 5 (some .int)) : ∀ (n : Nat) (o : Nat) (o_width : Int32) (o_height : Int32) (o_bits : Int32) (o_channels : Int32) (o_step : Int32) (o_mostSample : Int32) (o_samples : Nat) (o_samplesN : Nat) (o_samplesF : Nat → Int32) (o_draft : Nat) (o_draftN : Nat) (o_draftF : Nat → Int32) (y1 : Int32) (y2 : Int32) (y3 : Int32) (y4 : Int32) (z3 : Int32) (z4 : Int32) (z_o_samplesF : Nat → Int32), fl_X2_blankPlace_5 n o_width o_height o_channels o_samplesN o_samplesF y1 y2 y3 y4 = some (z3, z4, z_o_samplesF) → ∀ (H : Heap) (locs : List Loc) (ls : Array Slot), xW G true A s [(o, .inr (2, [.int o_width, .int o_height, .int o_bits, .int o_channels, .int o_step, .int o_mostSample, .ref o_samples, .ref o_draft])), (o_samples, .inl (G.2.1, o_samplesN, .inl o_samplesF)), (o_draft, .inl (G.2.1, o_draftN, .inl o_draftF))] H locs → lv_has ls 5 [(0, .ref o), (1, .int y1), (2, .int y2), (3, .int y3), (4, .int y4)] → (∀ (H : Heap) (locs : List Loc) (ls : Array Slot), xW G true A s [(o, .inr (2, [.int o_width, .int o_height, .int o_bits, .int o_channels, .int o_step, .int o_mostSample, .ref o_samples, .ref o_draft])), (o_samples, .inl (G.2.1, o_samplesN, .inl z_o_samplesF)), (o_draft, .inl (G.2.1, o_draftN, .inl o_draftF))] H locs → lv_has ls 5 [(0, .ref o), (1, .int y1), (2, .int y2), (3, .int z3), (4, .int z4)] → W p l e rm_X2_blankPlace s m args below meth c H locs 0 0 Q (F0 m 35 ls [])) → W p l e rm_X2_blankPlace s m args below meth c H locs 0 0 Q (F0 m 5 ls []) := by
  obtain ⟨hx, hb, hr, hml, hown, hts, hlk⟩ := id C0
  intro n
  induction n with
  | zero =>
    intro o o_width o_height o_bits o_channels o_step o_mostSample o_samples o_samplesN o_samplesF o_draft o_draftN o_draftF y1 y2 y3 y4 z3 z4 z_o_samplesF h
    rw [fl_X2_blankPlace_5] at h
    cases h
  | succ n ih =>
    intro o o_width o_height o_bits o_channels o_step o_mostSample o_samples o_samplesN o_samplesF o_draft o_draftN o_draftF y1 y2 y3 y4 z3 z4 z_o_samplesF h H locs ls B hl K
    rw [fl_X2_blankPlace_5] at h
    refine lv_iload hx hb dX2_blankPlace_5 (lv_at hl 4 rfl) ?_
    refine lv_aload_n hx hb dX2_blankPlace_7 rfl (lv_at hl 0 rfl) ?_
    refine xget (v := .int o_channels) C0 B inX2 0 rfl rfl 3 (by decide) wd_78 rfl dX2_blankPlace_8 ?_
    refine lv_icmp_ge (tgt := 35) hx hb dX2_blankPlace_11 (by decide) (fun c_1 => ?_) (fun c_1 => ?_)
    · have h := oif_t h c_1
      obtain ⟨g1, k1⟩ := Prod.mk.inj (Option.some.inj h)
      obtain ⟨g2, k2⟩ := Prod.mk.inj k1
      subst g1 g2 k2
      exact K H locs ls (B.sub [0, 1, 2] rfl rfl) (lv_sub hl [0, 1, 2, 3, 4] rfl)
    · have h := oif_f h c_1
      refine lv_aload_n hx hb dX2_blankPlace_14 rfl (lv_at hl 0 rfl) ?_
      refine lv_iload_n hx hb dX2_blankPlace_15 rfl (lv_at hl 1 rfl) ?_
      refine lv_iload_n hx hb dX2_blankPlace_16 rfl (lv_at hl 2 rfl) ?_
      refine lv_iload hx hb dX2_blankPlace_17 (lv_at hl 4 rfl) ?_
      refine lv_iconst (v := 0) hx hb dX2_blankPlace_19 (by decide) ?_
      obtain ⟨⟨r_2, w_3⟩, e_4, h⟩ := xb_spec h
      dsimp only at h
      refine xcall0 (wc := [(o, .inr (2, [.int o_width, .int o_height, .int o_bits, .int o_channels, .int o_step, .int o_mostSample, .ref o_samples, .ref o_draft])), (o_samples, .inl (G.2.1, o_samplesN, .inl o_samplesF)), (o_draft, .inl (G.2.1, o_draftN, .inl o_draftF))]) (wr := []) (w1 := [(o, .inr (2, [.int o_width, .int o_height, .int o_bits, .int o_channels, .int o_step, .int o_mostSample, .ref o_samples, .ref o_draft])), (o_samples, .inl (G.2.1, o_samplesN, .inl w_3)), (o_draft, .inl (G.2.1, o_draftN, .inl o_draftF))]) (ws' := [(o, .inr (2, [.int o_width, .int o_height, .int o_bits, .int o_channels, .int o_step, .int o_mostSample, .ref o_samples, .ref o_draft])), (o_samples, .inl (G.2.1, o_samplesN, .inl w_3)), (o_draft, .inl (G.2.1, o_draftN, .inl o_draftF))]) B [0, 1, 2] [] [0, 1, 2] rfl rfl rfl rfl (by decide) rfl rfl (xrunV C0 (c_X2_replaceSample l G o o_width o_height o_bits o_channels o_step o_mostSample o_samples o_samplesN o_samplesF o_draft o_draftN o_draftF y1 y2 y4 (0 : Int32) n r_2 w_3 e_4 H.size) kb_X2_replaceSample kv_X2_replaceSample wd_114 (ci := 2) rfl rfl rfl rfl rfl ⟨Nat.le_of_ble_eq_true rfl, Nat.le_of_ble_eq_true rfl⟩ rfl hl rfl (Nat.le_of_ble_eq_true rfl) dX2_blankPlace_20 ⟨Nat.le_of_ble_eq_true rfl, Nat.le_of_ble_eq_true rfl⟩) (fun H locs B => ?_)
      refine lv_if_eq (tgt := 29) hx hb dX2_blankPlace_23 (by decide) (fun c_5 => ?_) (fun c_5 => ?_)
      · have h := oif_t h c_5
        refine lv_iinc (v := (y4 + (1 : Int32))) (lv' := [(4, .int (y4 + (1 : Int32))), (0, .ref o), (1, .int y1), (2, .int y2), (3, .int y3)]) hx hb dX2_blankPlace_29 hl (k := 4) rfl rfl (by decide) rfl (fun ls hl => ?_)
        refine lv_goto (tgt := 5) hx hb dX2_blankPlace_32 (by decide) ?_
        exact ih o o_width o_height o_bits o_channels o_step o_mostSample o_samples o_samplesN w_3 o_draft o_draftN o_draftF y1 y2 y3 (y4 + (1 : Int32)) _ _ _ h H locs ls (B.sub [0, 1, 2] rfl rfl) (lv_sub hl [1, 2, 3, 4, 0] rfl) K
      · have h := oif_f h c_5
        refine lv_iinc (v := (y3 + (1 : Int32))) (lv' := [(3, .int (y3 + (1 : Int32))), (0, .ref o), (1, .int y1), (2, .int y2), (4, .int y4)]) hx hb dX2_blankPlace_26 hl (k := 3) rfl rfl (by decide) rfl (fun ls hl => ?_)
        refine lv_iinc (v := (y4 + (1 : Int32))) (lv' := [(4, .int (y4 + (1 : Int32))), (3, .int (y3 + (1 : Int32))), (0, .ref o), (1, .int y1), (2, .int y2)]) hx hb dX2_blankPlace_29 hl (k := 4) rfl rfl (by decide) rfl (fun ls hl => ?_)
        refine lv_goto (tgt := 5) hx hb dX2_blankPlace_32 (by decide) ?_
        exact ih o o_width o_height o_bits o_channels o_step o_mostSample o_samples o_samplesN w_3 o_draft o_draftN o_draftF y1 y2 (y3 + (1 : Int32)) (y4 + (1 : Int32)) _ _ _ h H locs ls (B.sub [0, 1, 2] rfl rfl) (lv_sub hl [2, 3, 4, 1, 0] rfl) K
set_option maxHeartbeats 4000000 in
set_option maxRecDepth 100000 in
theorem c_X2_blankPlace (l : Launch) (G : xG) (o : Nat) (o_width : Int32) (o_height : Int32) (o_bits : Int32) (o_channels : Int32) (o_step : Int32) (o_mostSample : Int32) (o_samples : Nat) (o_samplesN : Nat) (o_samplesF : Nat → Int32) (o_draft : Nat) (o_draftN : Nat) (o_draftF : Nat → Int32) (x1 : Int32) (x2 : Int32) (n : Nat) (zr : Int32) (z_o_samplesF : Nat → Int32) (hF : f_X2_blankPlace n o_width o_height o_channels o_samplesN o_samplesF x1 x2 = some (zr, z_o_samplesF)) (sz : Nat) : Met l yX2_blankPlace (xws yX2_blankPlace cX2_blankPlace 5 (some .int)) rm_X2_blankPlace (va_Pc [.ref o, .int x1, .int x2] (xPre G [(o, .inr (2, [.int o_width, .int o_height, .int o_bits, .int o_channels, .int o_step, .int o_mostSample, .ref o_samples, .ref o_draft])), (o_samples, .inl (G.2.1, o_samplesN, .inl o_samplesF)), (o_draft, .inl (G.2.1, o_draftN, .inl o_draftF))] sz)) (xQ G (some (.int zr)) [(o, .inr (2, [.int o_width, .int o_height, .int o_bits, .int o_channels, .int o_step, .int o_mostSample, .ref o_samples, .ref o_draft])), (o_samples, .inl (G.2.1, o_samplesN, .inl z_o_samplesF)), (o_draft, .inl (G.2.1, o_draftN, .inl o_draftF))] (va_A [(o, .inr (2, [.int o_width, .int o_height, .int o_bits, .int o_channels, .int o_step, .int o_mostSample, .ref o_samples, .ref o_draft])), (o_samples, .inl (G.2.1, o_samplesN, .inl o_samplesF)), (o_draft, .inl (G.2.1, o_draftN, .inl o_draftF))] sz)) 0 0 (va_A [(o, .inr (2, [.int o_width, .int o_height, .int o_bits, .int o_channels, .int o_step, .int o_mostSample, .ref o_samples, .ref o_draft])), (o_samples, .inl (G.2.1, o_samplesN, .inl o_samplesF)), (o_draft, .inl (G.2.1, o_draftN, .inl o_draftF))] sz) := by
  refine xMetQ (by decide) (Nat.le_of_ble_eq_true rfl) ?_
  intro p e s m below meth c ls A H locs C0 hnm B hl
  have hl : lv_has ls 5 [(0, .ref o), (1, .int x1), (2, .int x2)] := hl
  have h := hF
  unfold f_X2_blankPlace at h
  obtain ⟨hx, hb, hr, hml, hown, hts, hlk⟩ := id C0
  refine lv_iconst (v := 0) hx hb dX2_blankPlace_0 (by decide) ?_
  refine lv_istore_n (lv' := [(3, .int (0 : Int32)), (0, .ref o), (1, .int x1), (2, .int x2)]) hx hb dX2_blankPlace_1 rfl hl (by decide) rfl (fun ls hl => ?_)
  refine lv_iconst (v := 0) hx hb dX2_blankPlace_2 (by decide) ?_
  refine lv_istore (lv' := [(4, .int (0 : Int32)), (3, .int (0 : Int32)), (0, .ref o), (1, .int x1), (2, .int x2)]) hx hb dX2_blankPlace_3 hl (by decide) rfl (fun ls hl => ?_)
  obtain ⟨⟨v_1, v_2, w_3⟩, e_4, h⟩ := xb_spec h
  refine lo_X2_blankPlace_5 C0 n o o_width o_height o_bits o_channels o_step o_mostSample o_samples o_samplesN o_samplesF o_draft o_draftN o_draftF x1 x2 (0 : Int32) (0 : Int32) v_1 v_2 w_3 e_4 H locs ls (B.sub [0, 1, 2] rfl rfl) (lv_sub hl [2, 3, 4, 1, 0] rfl) (fun H locs ls B hl => ?_)
  refine lv_iload_n hx hb dX2_blankPlace_35 rfl (lv_at hl 3 rfl) ?_
  obtain ⟨g1, k1⟩ := Prod.mk.inj (Option.some.inj h)
  subst g1 k1
  exact xreti C0 B [0, 1, 2] rfl rfl dX2_blankPlace_36
/-! FilterRows$Picture.cleanHidden()I -/
abbrev rm_X2_cleanHidden : Room := { frames := 4, cells := 0, slots := 0, locals := 95 }
def fl_X2_cleanHidden_14 : Nat → Int32 → Int32 → Int32 → Nat → (Nat → Int32) → Int32 → Int32 → Int32 → Option (Int32 × Int32 × (Nat → Int32))
  | 0, _, _, _, _, _, _, _, _ => none
  | n + 1, o_width, o_height, o_channels, o_samplesN, o_samplesF, y1, y2, y3 => (if o_width ≤ y3 then some (y1, y3, o_samplesF) else xb (f_X2_sampleAt n o_width o_height o_channels o_samplesN o_samplesF y3 y2 (o_channels - (1 : Int32))) (fun r_2 => (if r_2 = 0 then xb (f_X2_blankPlace n o_width o_height o_channels o_samplesN o_samplesF y3 y2) (fun (r_5, w_6) => fl_X2_cleanHidden_14 n o_width o_height o_channels o_samplesN w_6 (y1 + r_5) y2 (y3 + (1 : Int32))) else fl_X2_cleanHidden_14 n o_width o_height o_channels o_samplesN o_samplesF y1 y2 (y3 + (1 : Int32)))))
def fl_X2_cleanHidden_4 : Nat → Int32 → Int32 → Int32 → Nat → (Nat → Int32) → Int32 → Int32 → Option (Int32 × Int32 × (Nat → Int32))
  | 0, _, _, _, _, _, _, _ => none
  | n + 1, o_width, o_height, o_channels, o_samplesN, o_samplesF, y1, y2 => (if o_height ≤ y2 then some (y1, y2, o_samplesF) else xb (fl_X2_cleanHidden_14 n o_width o_height o_channels o_samplesN o_samplesF y1 y2 (0 : Int32)) (fun (v_2, v_3, w_4) => fl_X2_cleanHidden_4 n o_width o_height o_channels o_samplesN w_4 v_2 (y2 + (1 : Int32))))
def f_X2_cleanHidden (n : Nat) (o_width : Int32) (o_height : Int32) (o_channels : Int32) (o_samplesN : Nat) (o_samplesF : Nat → Int32)  : Option (Int32 × (Nat → Int32)) := xb (fl_X2_cleanHidden_4 n o_width o_height o_channels o_samplesN o_samplesF (0 : Int32) (0 : Int32)) (fun (v_1, v_2, w_3) => some (v_1, w_3))
set_option maxHeartbeats 4000000 in
set_option maxRecDepth 100000 in
theorem lo_X2_cleanHidden_14 {p : Program} {l : Launch} {e : Env} {s : State} {m : MethodId} {args : Array Value} {below : List Frame} {meth : Method} {c : Code} {Q : State → Prop} {G : xG} {A : Nat → Prop} (C0 : xC p s m args meth c "FilterRows$Picture" cX2_cleanHidden 4 (some .int)) : ∀ (n : Nat) (o : Nat) (o_width : Int32) (o_height : Int32) (o_bits : Int32) (o_channels : Int32) (o_step : Int32) (o_mostSample : Int32) (o_samples : Nat) (o_samplesN : Nat) (o_samplesF : Nat → Int32) (o_draft : Nat) (o_draftN : Nat) (o_draftF : Nat → Int32) (y1 : Int32) (y2 : Int32) (y3 : Int32) (z1 : Int32) (z3 : Int32) (z_o_samplesF : Nat → Int32), fl_X2_cleanHidden_14 n o_width o_height o_channels o_samplesN o_samplesF y1 y2 y3 = some (z1, z3, z_o_samplesF) → ∀ (H : Heap) (locs : List Loc) (ls : Array Slot), xW G true A s [(o, .inr (2, [.int o_width, .int o_height, .int o_bits, .int o_channels, .int o_step, .int o_mostSample, .ref o_samples, .ref o_draft])), (o_samples, .inl (G.2.1, o_samplesN, .inl o_samplesF)), (o_draft, .inl (G.2.1, o_draftN, .inl o_draftF))] H locs → lv_has ls 4 [(0, .ref o), (1, .int y1), (2, .int y2), (3, .int y3)] → (∀ (H : Heap) (locs : List Loc) (ls : Array Slot), xW G true A s [(o, .inr (2, [.int o_width, .int o_height, .int o_bits, .int o_channels, .int o_step, .int o_mostSample, .ref o_samples, .ref o_draft])), (o_samples, .inl (G.2.1, o_samplesN, .inl z_o_samplesF)), (o_draft, .inl (G.2.1, o_draftN, .inl o_draftF))] H locs → lv_has ls 4 [(0, .ref o), (1, .int z1), (2, .int y2), (3, .int z3)] → W p l e rm_X2_cleanHidden s m args below meth c H locs 0 0 Q (F0 m 52 ls [])) → W p l e rm_X2_cleanHidden s m args below meth c H locs 0 0 Q (F0 m 14 ls []) := by
  obtain ⟨hx, hb, hr, hml, hown, hts, hlk⟩ := id C0
  intro n
  induction n with
  | zero =>
    intro o o_width o_height o_bits o_channels o_step o_mostSample o_samples o_samplesN o_samplesF o_draft o_draftN o_draftF y1 y2 y3 z1 z3 z_o_samplesF h
    rw [fl_X2_cleanHidden_14] at h
    cases h
  | succ n ih =>
    intro o o_width o_height o_bits o_channels o_step o_mostSample o_samples o_samplesN o_samplesF o_draft o_draftN o_draftF y1 y2 y3 z1 z3 z_o_samplesF h H locs ls B hl K
    rw [fl_X2_cleanHidden_14] at h
    refine lv_iload_n hx hb dX2_cleanHidden_14 rfl (lv_at hl 3 rfl) ?_
    refine lv_aload_n hx hb dX2_cleanHidden_15 rfl (lv_at hl 0 rfl) ?_
    refine xget (v := .int o_width) C0 B inX2 0 rfl rfl 0 (by decide) wd_76 rfl dX2_cleanHidden_16 ?_
    refine lv_icmp_ge (tgt := 52) hx hb dX2_cleanHidden_19 (by decide) (fun c_1 => ?_) (fun c_1 => ?_)
    · have h := oif_t h c_1
      obtain ⟨g1, k1⟩ := Prod.mk.inj (Option.some.inj h)
      obtain ⟨g2, k2⟩ := Prod.mk.inj k1
      subst g1 g2 k2
      exact K H locs ls (B.sub [0, 1, 2] rfl rfl) (lv_sub hl [0, 1, 2, 3] rfl)
    · have h := oif_f h c_1
      refine lv_aload_n hx hb dX2_cleanHidden_22 rfl (lv_at hl 0 rfl) ?_
      refine lv_iload_n hx hb dX2_cleanHidden_23 rfl (lv_at hl 3 rfl) ?_
      refine lv_iload_n hx hb dX2_cleanHidden_24 rfl (lv_at hl 2 rfl) ?_
      refine lv_aload_n hx hb dX2_cleanHidden_25 rfl (lv_at hl 0 rfl) ?_
      refine xget (v := .int o_channels) C0 B inX2 0 rfl rfl 3 (by decide) wd_78 rfl dX2_cleanHidden_26 ?_
      refine lv_iconst (v := 1) hx hb dX2_cleanHidden_29 (by decide) ?_
      refine lv_isub hx hb dX2_cleanHidden_30 ?_
      obtain ⟨r_2, e_3, h⟩ := xb_spec h
      refine xcallR (wc := [(o, .inr (2, [.int o_width, .int o_height, .int o_bits, .int o_channels, .int o_step, .int o_mostSample, .ref o_samples, .ref o_draft])), (o_samples, .inl (G.2.1, o_samplesN, .inl o_samplesF)), (o_draft, .inl (G.2.1, o_draftN, .inl o_draftF))]) B [0, 1, 2] rfl rfl (xrunV C0 (c_X2_sampleAt l G o o_width o_height o_bits o_channels o_step o_mostSample o_samples o_samplesN o_samplesF o_draft o_draftN o_draftF y3 y2 (o_channels - (1 : Int32)) n r_2 e_3 H.size) kb_X2_sampleAt kv_X2_sampleAt wd_97 (ci := 2) rfl rfl rfl rfl rfl ⟨Nat.le_of_ble_eq_true rfl, Nat.le_of_ble_eq_true rfl⟩ rfl hl rfl (Nat.le_of_ble_eq_true rfl) dX2_cleanHidden_31 ⟨Nat.le_of_ble_eq_true rfl, Nat.le_of_ble_eq_true rfl⟩) (fun H locs B => ?_)
      refine lv_if_ne (tgt := 46) hx hb dX2_cleanHidden_34 (by decide) (fun c_4 => ?_) (fun c_4 => ?_)
      · have h := oif_f h c_4
        refine lv_iinc (v := (y3 + (1 : Int32))) (lv' := [(3, .int (y3 + (1 : Int32))), (0, .ref o), (1, .int y1), (2, .int y2)]) hx hb dX2_cleanHidden_46 hl (k := 3) rfl rfl (by decide) rfl (fun ls hl => ?_)
        refine lv_goto (tgt := 14) hx hb dX2_cleanHidden_49 (by decide) ?_
        exact ih o o_width o_height o_bits o_channels o_step o_mostSample o_samples o_samplesN o_samplesF o_draft o_draftN o_draftF y1 y2 (y3 + (1 : Int32)) _ _ _ h H locs ls (B.sub [0, 1, 2] rfl rfl) (lv_sub hl [1, 2, 3, 0] rfl) K
      · have h := oif_t h c_4
        refine lv_iload_n hx hb dX2_cleanHidden_37 rfl (lv_at hl 1 rfl) ?_
        refine lv_aload_n hx hb dX2_cleanHidden_38 rfl (lv_at hl 0 rfl) ?_
        refine lv_iload_n hx hb dX2_cleanHidden_39 rfl (lv_at hl 3 rfl) ?_
        refine lv_iload_n hx hb dX2_cleanHidden_40 rfl (lv_at hl 2 rfl) ?_
        obtain ⟨⟨r_5, w_6⟩, e_7, h⟩ := xb_spec h
        dsimp only at h
        refine xcall0 (wc := [(o, .inr (2, [.int o_width, .int o_height, .int o_bits, .int o_channels, .int o_step, .int o_mostSample, .ref o_samples, .ref o_draft])), (o_samples, .inl (G.2.1, o_samplesN, .inl o_samplesF)), (o_draft, .inl (G.2.1, o_draftN, .inl o_draftF))]) (wr := []) (w1 := [(o, .inr (2, [.int o_width, .int o_height, .int o_bits, .int o_channels, .int o_step, .int o_mostSample, .ref o_samples, .ref o_draft])), (o_samples, .inl (G.2.1, o_samplesN, .inl w_6)), (o_draft, .inl (G.2.1, o_draftN, .inl o_draftF))]) (ws' := [(o, .inr (2, [.int o_width, .int o_height, .int o_bits, .int o_channels, .int o_step, .int o_mostSample, .ref o_samples, .ref o_draft])), (o_samples, .inl (G.2.1, o_samplesN, .inl w_6)), (o_draft, .inl (G.2.1, o_draftN, .inl o_draftF))]) B [0, 1, 2] [] [0, 1, 2] rfl rfl rfl rfl (by decide) rfl rfl (xrunV C0 (c_X2_blankPlace l G o o_width o_height o_bits o_channels o_step o_mostSample o_samples o_samplesN o_samplesF o_draft o_draftN o_draftF y3 y2 n r_5 w_6 e_7 H.size) kb_X2_blankPlace kv_X2_blankPlace wd_118 (ci := 2) rfl rfl rfl rfl rfl ⟨Nat.le_of_ble_eq_true rfl, Nat.le_of_ble_eq_true rfl⟩ rfl hl rfl (Nat.le_of_ble_eq_true rfl) dX2_cleanHidden_41 ⟨Nat.le_of_ble_eq_true rfl, Nat.le_of_ble_eq_true rfl⟩) (fun H locs B => ?_)
        refine lv_iadd hx hb dX2_cleanHidden_44 ?_
        refine lv_istore_n (lv' := [(1, .int (y1 + r_5)), (0, .ref o), (2, .int y2), (3, .int y3)]) hx hb dX2_cleanHidden_45 rfl hl (by decide) rfl (fun ls hl => ?_)
        refine lv_iinc (v := (y3 + (1 : Int32))) (lv' := [(3, .int (y3 + (1 : Int32))), (1, .int (y1 + r_5)), (0, .ref o), (2, .int y2)]) hx hb dX2_cleanHidden_46 hl (k := 3) rfl rfl (by decide) rfl (fun ls hl => ?_)
        refine lv_goto (tgt := 14) hx hb dX2_cleanHidden_49 (by decide) ?_
        exact ih o o_width o_height o_bits o_channels o_step o_mostSample o_samples o_samplesN w_6 o_draft o_draftN o_draftF (y1 + r_5) y2 (y3 + (1 : Int32)) _ _ _ h H locs ls (B.sub [0, 1, 2] rfl rfl) (lv_sub hl [2, 1, 3, 0] rfl) K
set_option maxHeartbeats 4000000 in
set_option maxRecDepth 100000 in
theorem lo_X2_cleanHidden_4 {p : Program} {l : Launch} {e : Env} {s : State} {m : MethodId} {args : Array Value} {below : List Frame} {meth : Method} {c : Code} {Q : State → Prop} {G : xG} {A : Nat → Prop} (C0 : xC p s m args meth c "FilterRows$Picture" cX2_cleanHidden 4 (some .int)) : ∀ (n : Nat) (o : Nat) (o_width : Int32) (o_height : Int32) (o_bits : Int32) (o_channels : Int32) (o_step : Int32) (o_mostSample : Int32) (o_samples : Nat) (o_samplesN : Nat) (o_samplesF : Nat → Int32) (o_draft : Nat) (o_draftN : Nat) (o_draftF : Nat → Int32) (y1 : Int32) (y2 : Int32) (z1 : Int32) (z2 : Int32) (z_o_samplesF : Nat → Int32), fl_X2_cleanHidden_4 n o_width o_height o_channels o_samplesN o_samplesF y1 y2 = some (z1, z2, z_o_samplesF) → ∀ (H : Heap) (locs : List Loc) (ls : Array Slot), xW G true A s [(o, .inr (2, [.int o_width, .int o_height, .int o_bits, .int o_channels, .int o_step, .int o_mostSample, .ref o_samples, .ref o_draft])), (o_samples, .inl (G.2.1, o_samplesN, .inl o_samplesF)), (o_draft, .inl (G.2.1, o_draftN, .inl o_draftF))] H locs → lv_has ls 4 [(0, .ref o), (1, .int y1), (2, .int y2)] → (∀ (H : Heap) (locs : List Loc) (ls : Array Slot), xW G true A s [(o, .inr (2, [.int o_width, .int o_height, .int o_bits, .int o_channels, .int o_step, .int o_mostSample, .ref o_samples, .ref o_draft])), (o_samples, .inl (G.2.1, o_samplesN, .inl z_o_samplesF)), (o_draft, .inl (G.2.1, o_draftN, .inl o_draftF))] H locs → lv_has ls 4 [(0, .ref o), (1, .int z1), (2, .int z2)] → W p l e rm_X2_cleanHidden s m args below meth c H locs 0 0 Q (F0 m 58 ls [])) → W p l e rm_X2_cleanHidden s m args below meth c H locs 0 0 Q (F0 m 4 ls []) := by
  obtain ⟨hx, hb, hr, hml, hown, hts, hlk⟩ := id C0
  intro n
  induction n with
  | zero =>
    intro o o_width o_height o_bits o_channels o_step o_mostSample o_samples o_samplesN o_samplesF o_draft o_draftN o_draftF y1 y2 z1 z2 z_o_samplesF h
    rw [fl_X2_cleanHidden_4] at h
    cases h
  | succ n ih =>
    intro o o_width o_height o_bits o_channels o_step o_mostSample o_samples o_samplesN o_samplesF o_draft o_draftN o_draftF y1 y2 z1 z2 z_o_samplesF h H locs ls B hl K
    rw [fl_X2_cleanHidden_4] at h
    refine lv_iload_n hx hb dX2_cleanHidden_4 rfl (lv_at hl 2 rfl) ?_
    refine lv_aload_n hx hb dX2_cleanHidden_5 rfl (lv_at hl 0 rfl) ?_
    refine xget (v := .int o_height) C0 B inX2 0 rfl rfl 1 (by decide) wd_77 rfl dX2_cleanHidden_6 ?_
    refine lv_icmp_ge (tgt := 58) hx hb dX2_cleanHidden_9 (by decide) (fun c_1 => ?_) (fun c_1 => ?_)
    · have h := oif_t h c_1
      obtain ⟨g1, k1⟩ := Prod.mk.inj (Option.some.inj h)
      obtain ⟨g2, k2⟩ := Prod.mk.inj k1
      subst g1 g2 k2
      exact K H locs ls (B.sub [0, 1, 2] rfl rfl) (lv_sub hl [0, 1, 2] rfl)
    · have h := oif_f h c_1
      refine lv_iconst (v := 0) hx hb dX2_cleanHidden_12 (by decide) ?_
      refine lv_istore_n (lv' := [(3, .int (0 : Int32)), (0, .ref o), (1, .int y1), (2, .int y2)]) hx hb dX2_cleanHidden_13 rfl hl (by decide) rfl (fun ls hl => ?_)
      obtain ⟨⟨v_2, v_3, w_4⟩, e_5, h⟩ := xb_spec h
      refine lo_X2_cleanHidden_14 C0 n o o_width o_height o_bits o_channels o_step o_mostSample o_samples o_samplesN o_samplesF o_draft o_draftN o_draftF y1 y2 (0 : Int32) v_2 v_3 w_4 e_5 H locs ls (B.sub [0, 1, 2] rfl rfl) (lv_sub hl [1, 2, 3, 0] rfl) (fun H locs ls B hl => ?_)
      refine lv_iinc (v := (y2 + (1 : Int32))) (lv' := [(2, .int (y2 + (1 : Int32))), (0, .ref o), (1, .int v_2), (3, .int v_3)]) hx hb dX2_cleanHidden_52 hl (k := 2) rfl rfl (by decide) rfl (fun ls hl => ?_)
      refine lv_goto (tgt := 4) hx hb dX2_cleanHidden_55 (by decide) ?_
      exact ih o o_width o_height o_bits o_channels o_step o_mostSample o_samples o_samplesN w_4 o_draft o_draftN o_draftF v_2 (y2 + (1 : Int32)) _ _ _ h H locs ls (B.sub [0, 1, 2] rfl rfl) (lv_sub hl [1, 2, 0] rfl) K
set_option maxHeartbeats 4000000 in
set_option maxRecDepth 100000 in
theorem c_X2_cleanHidden (l : Launch) (G : xG) (o : Nat) (o_width : Int32) (o_height : Int32) (o_bits : Int32) (o_channels : Int32) (o_step : Int32) (o_mostSample : Int32) (o_samples : Nat) (o_samplesN : Nat) (o_samplesF : Nat → Int32) (o_draft : Nat) (o_draftN : Nat) (o_draftF : Nat → Int32)  (n : Nat) (zr : Int32) (z_o_samplesF : Nat → Int32) (hF : f_X2_cleanHidden n o_width o_height o_channels o_samplesN o_samplesF = some (zr, z_o_samplesF)) (sz : Nat) : Met l yX2_cleanHidden (xws yX2_cleanHidden cX2_cleanHidden 4 (some .int)) rm_X2_cleanHidden (va_Pc [.ref o] (xPre G [(o, .inr (2, [.int o_width, .int o_height, .int o_bits, .int o_channels, .int o_step, .int o_mostSample, .ref o_samples, .ref o_draft])), (o_samples, .inl (G.2.1, o_samplesN, .inl o_samplesF)), (o_draft, .inl (G.2.1, o_draftN, .inl o_draftF))] sz)) (xQ G (some (.int zr)) [(o, .inr (2, [.int o_width, .int o_height, .int o_bits, .int o_channels, .int o_step, .int o_mostSample, .ref o_samples, .ref o_draft])), (o_samples, .inl (G.2.1, o_samplesN, .inl z_o_samplesF)), (o_draft, .inl (G.2.1, o_draftN, .inl o_draftF))] (va_A [(o, .inr (2, [.int o_width, .int o_height, .int o_bits, .int o_channels, .int o_step, .int o_mostSample, .ref o_samples, .ref o_draft])), (o_samples, .inl (G.2.1, o_samplesN, .inl o_samplesF)), (o_draft, .inl (G.2.1, o_draftN, .inl o_draftF))] sz)) 0 0 (va_A [(o, .inr (2, [.int o_width, .int o_height, .int o_bits, .int o_channels, .int o_step, .int o_mostSample, .ref o_samples, .ref o_draft])), (o_samples, .inl (G.2.1, o_samplesN, .inl o_samplesF)), (o_draft, .inl (G.2.1, o_draftN, .inl o_draftF))] sz) := by
  refine xMetQ (by decide) (Nat.le_of_ble_eq_true rfl) ?_
  intro p e s m below meth c ls A H locs C0 hnm B hl
  have hl : lv_has ls 4 [(0, .ref o)] := hl
  have h := hF
  unfold f_X2_cleanHidden at h
  obtain ⟨hx, hb, hr, hml, hown, hts, hlk⟩ := id C0
  refine lv_iconst (v := 0) hx hb dX2_cleanHidden_0 (by decide) ?_
  refine lv_istore_n (lv' := [(1, .int (0 : Int32)), (0, .ref o)]) hx hb dX2_cleanHidden_1 rfl hl (by decide) rfl (fun ls hl => ?_)
  refine lv_iconst (v := 0) hx hb dX2_cleanHidden_2 (by decide) ?_
  refine lv_istore_n (lv' := [(2, .int (0 : Int32)), (1, .int (0 : Int32)), (0, .ref o)]) hx hb dX2_cleanHidden_3 rfl hl (by decide) rfl (fun ls hl => ?_)
  obtain ⟨⟨v_1, v_2, w_3⟩, e_4, h⟩ := xb_spec h
  refine lo_X2_cleanHidden_4 C0 n o o_width o_height o_bits o_channels o_step o_mostSample o_samples o_samplesN o_samplesF o_draft o_draftN o_draftF (0 : Int32) (0 : Int32) v_1 v_2 w_3 e_4 H locs ls (B.sub [0, 1, 2] rfl rfl) (lv_sub hl [2, 1, 0] rfl) (fun H locs ls B hl => ?_)
  refine lv_iload_n hx hb dX2_cleanHidden_58 rfl (lv_at hl 1 rfl) ?_
  obtain ⟨g1, k1⟩ := Prod.mk.inj (Option.some.inj h)
  subst g1 k1
  exact xreti C0 B [0, 1, 2] rfl rfl dX2_cleanHidden_59
/-! FilterRows$Picture.countFrom(III)I -/
abbrev rm_X2_countFrom : Room := { frames := 0, cells := 0, slots := 0, locals := 0 }
def f_X2_countFrom (n : Nat)  (x0 : Int32) (x1 : Int32) (x2 : Int32) : Option Int32 := (if x0 < x2 then some ((((x2 - (1 : Int32)) - x0) >>> (x1 &&& 31)) + (1 : Int32)) else some (0 : Int32))
set_option maxHeartbeats 4000000 in
set_option maxRecDepth 100000 in
theorem c_X2_countFrom (l : Launch) (G : xG)  (x0 : Int32) (x1 : Int32) (x2 : Int32) (n : Nat) (zr : Int32) (hF : f_X2_countFrom n x0 x1 x2 = some zr) (sz : Nat) : Met l yX2_countFrom (xws yX2_countFrom cX2_countFrom 3 (some .int)) rm_X2_countFrom (va_Pc [.int x0, .int x1, .int x2] (xPre G [] sz)) (xQR (some (.int zr)) (fun q => sz ≤ q)) 0 0 (fun q => sz ≤ q) := by
  refine xMetR (by decide) (Nat.le_of_ble_eq_true rfl) ?_
  intro p e s m below meth c ls A H locs C0 hnm B hl
  have hl : lv_has ls 3 [(0, .int x0), (1, .int x1), (2, .int x2)] := hl
  have h := hF
  unfold f_X2_countFrom at h
  obtain ⟨hx, hb, hr, hml, hown, hts, hlk⟩ := id C0
  refine lv_iload_n hx hb dX2_countFrom_0 rfl (lv_at hl 2 rfl) ?_
  refine lv_iload_n hx hb dX2_countFrom_1 rfl (lv_at hl 0 rfl) ?_
  refine lv_icmp_gt (tgt := 9) hx hb dX2_countFrom_2 (by decide) (fun c_1 => ?_) (fun c_1 => ?_)
  · have h := oif_t h c_1
    refine lv_iload_n hx hb dX2_countFrom_9 rfl (lv_at hl 2 rfl) ?_
    refine lv_iconst (v := 1) hx hb dX2_countFrom_10 (by decide) ?_
    refine lv_isub hx hb dX2_countFrom_11 ?_
    refine lv_iload_n hx hb dX2_countFrom_12 rfl (lv_at hl 0 rfl) ?_
    refine lv_isub hx hb dX2_countFrom_13 ?_
    refine lv_iload_n hx hb dX2_countFrom_14 rfl (lv_at hl 1 rfl) ?_
    refine lv_ishr hx hb dX2_countFrom_15 ?_
    refine lv_iconst (v := 1) hx hb dX2_countFrom_16 (by decide) ?_
    refine lv_iadd hx hb dX2_countFrom_17 ?_
    obtain rfl := Option.some.inj h
    exact xretiR C0 B dX2_countFrom_18
  · have h := oif_f h c_1
    refine lv_iconst (v := 0) hx hb dX2_countFrom_5 (by decide) ?_
    refine lv_goto (tgt := 18) hx hb dX2_countFrom_6 (by decide) ?_
    obtain rfl := Option.some.inj h
    exact xretiR C0 B dX2_countFrom_18
/-! FilterRows.isPass(I)Z -/
abbrev rm_X4_isPass : Room := { frames := 0, cells := 0, slots := 0, locals := 0 }
def f_X4_isPass (n : Nat)  (x0 : Int32) : Option Int32 := (if x0 < 0 then some (0 : Int32) else (if (7 : Int32) < x0 then some (0 : Int32) else some (1 : Int32)))
set_option maxHeartbeats 4000000 in
set_option maxRecDepth 100000 in
theorem c_X4_isPass (l : Launch) (G : xG)  (x0 : Int32) (n : Nat) (zr : Int32) (hF : f_X4_isPass n x0 = some zr) (sz : Nat) : Met l yX4_isPass (xws yX4_isPass cX4_isPass 1 (some .boolean)) rm_X4_isPass (va_Pc [.int x0] (xPre G [] sz)) (xQR (some (.int zr)) (fun q => sz ≤ q)) 0 0 (fun q => sz ≤ q) := by
  refine xMetR (by decide) (Nat.le_of_ble_eq_true rfl) ?_
  intro p e s m below meth c ls A H locs C0 hnm B hl
  have hl : lv_has ls 1 [(0, .int x0)] := hl
  have h := hF
  unfold f_X4_isPass at h
  obtain ⟨hx, hb, hr, hml, hown, hts, hlk⟩ := id C0
  refine lv_iload_n hx hb dX4_isPass_0 rfl (lv_at hl 0 rfl) ?_
  refine lv_if_lt (tgt := 14) hx hb dX4_isPass_1 (by decide) (fun c_1 => ?_) (fun c_1 => ?_)
  · have h := oif_t h c_1
    refine lv_iconst (v := 0) hx hb dX4_isPass_14 (by decide) ?_
    obtain rfl := Option.some.inj h
    exact xretzR C0 B rfl dX4_isPass_15
  · have h := oif_f h c_1
    refine lv_iload_n hx hb dX4_isPass_4 rfl (lv_at hl 0 rfl) ?_
    refine lv_bipush (v := 7) hx hb dX4_isPass_5 (by decide) ?_
    refine lv_icmp_gt (tgt := 14) hx hb dX4_isPass_7 (by decide) (fun c_2 => ?_) (fun c_2 => ?_)
    · have h := oif_t h c_2
      refine lv_iconst (v := 0) hx hb dX4_isPass_14 (by decide) ?_
      obtain rfl := Option.some.inj h
      exact xretzR C0 B rfl dX4_isPass_15
    · have h := oif_f h c_2
      refine lv_iconst (v := 1) hx hb dX4_isPass_10 (by decide) ?_
      refine lv_goto (tgt := 15) hx hb dX4_isPass_11 (by decide) ?_
      obtain rfl := Option.some.inj h
      exact xretzR C0 B rfl dX4_isPass_15
/-! FilterRows$Picture.columnsOf(I)I -/
abbrev rm_X2_columnsOf : Room := { frames := 1, cells := 0, slots := 0, locals := 22 }
def f_X2_columnsOf (n : Nat) (o_width : Int32) (x1 : Int32) : Option Int32 := xb (f_X4_isPass n x1) (fun r_1 => (if r_1 = 0 then some (0 : Int32) else xin x1 8 (xin x1 8 (xb (f_X2_countFrom n (tb_FIRST_COLUMN (x1).toNatClampNeg) (tb_COLUMN_SHIFT (x1).toNatClampNeg) o_width) (fun r_8 => some r_8)))))
set_option maxHeartbeats 4000000 in
set_option maxRecDepth 100000 in
theorem c_X2_columnsOf (l : Launch) (G : xG) (o : Nat) (o_width : Int32) (o_height : Int32) (o_bits : Int32) (o_channels : Int32) (o_step : Int32) (o_mostSample : Int32) (o_samples : Nat) (o_samplesN : Nat) (o_samplesF : Nat → Int32) (o_draft : Nat) (o_draftN : Nat) (o_draftF : Nat → Int32) (x1 : Int32) (n : Nat) (zr : Int32) (hF : f_X2_columnsOf n o_width x1 = some zr) (sz : Nat) : Met l yX2_columnsOf (xws yX2_columnsOf cX2_columnsOf 2 (some .int)) rm_X2_columnsOf (va_Pc [.ref o, .int x1] (xPre G [(o, .inr (2, [.int o_width, .int o_height, .int o_bits, .int o_channels, .int o_step, .int o_mostSample, .ref o_samples, .ref o_draft])), (o_samples, .inl (G.2.1, o_samplesN, .inl o_samplesF)), (o_draft, .inl (G.2.1, o_draftN, .inl o_draftF))] sz)) (xQR (some (.int zr)) (fun q => sz ≤ q)) 0 0 (fun q => sz ≤ q) := by
  refine xMetR (by decide) (Nat.le_of_ble_eq_true rfl) ?_
  intro p e s m below meth c ls A H locs C0 hnm B hl
  have hl : lv_has ls 2 [(0, .ref o), (1, .int x1)] := hl
  have h := hF
  unfold f_X2_columnsOf at h
  obtain ⟨hx, hb, hr, hml, hown, hts, hlk⟩ := id C0
  refine lv_iload_n hx hb dX2_columnsOf_0 rfl (lv_at hl 1 rfl) ?_
  obtain ⟨r_1, e_2, h⟩ := xb_spec h
  refine xcallR (wc := []) B [] rfl rfl (xrunSN C0 (c_X4_isPass l G  x1 n r_1 e_2 H.size) kb_X4_isPass kv_X4_isPass B.Z.1.2.1 rfl rfl ⟨Nat.le_of_ble_eq_true rfl, Nat.le_of_ble_eq_true rfl⟩ rfl hl rfl (Nat.le_of_ble_eq_true rfl) dX2_columnsOf_1 ⟨Nat.le_of_ble_eq_true rfl, Nat.le_of_ble_eq_true rfl⟩) (fun H locs B => ?_)
  refine lv_if_eq (tgt := 27) hx hb dX2_columnsOf_4 (by decide) (fun c_3 => ?_) (fun c_3 => ?_)
  · have h := oif_t h c_3
    refine lv_iconst (v := 0) hx hb dX2_columnsOf_27 (by decide) ?_
    obtain rfl := Option.some.inj h
    exact xretiR C0 B dX2_columnsOf_28
  · have h := oif_f h c_3
    obtain ⟨t_4, hz_t_4, ht_t_4⟩ := xZ.FIRST_COLUMN B.Z
    refine va_gets hx hb hz_t_4 B.2.2.2.1 hown (hts _ wd_127) (fun _ h => h) dX2_columnsOf_7 ?_
    refine lv_iload_n hx hb dX2_columnsOf_10 rfl (lv_at hl 1 rfl) ?_
    obtain ⟨b_5, h⟩ := xin_spec h
    refine va_ti hx hb ht_t_4 B.2.2.2.1 b_5 rfl dX2_columnsOf_11 ?_
    obtain ⟨t_6, hz_t_6, ht_t_6⟩ := xZ.COLUMN_SHIFT B.Z
    refine va_gets hx hb hz_t_6 B.2.2.2.1 hown (hts _ wd_128) (fun _ h => h) dX2_columnsOf_12 ?_
    refine lv_iload_n hx hb dX2_columnsOf_15 rfl (lv_at hl 1 rfl) ?_
    obtain ⟨b_7, h⟩ := xin_spec h
    refine va_ti hx hb ht_t_6 B.2.2.2.1 b_7 rfl dX2_columnsOf_16 ?_
    refine lv_aload_n hx hb dX2_columnsOf_17 rfl (lv_at hl 0 rfl) ?_
    refine xget (v := .int o_width) C0 B inX2 0 rfl rfl 0 (by decide) wd_76 rfl dX2_columnsOf_18 ?_
    obtain ⟨r_8, e_9, h⟩ := xb_spec h
    refine xcallR (wc := []) B [] rfl rfl (xrunS C0 (c_X2_countFrom l G  (tb_FIRST_COLUMN (x1).toNatClampNeg) (tb_COLUMN_SHIFT (x1).toNatClampNeg) o_width n r_8 e_9 H.size) kb_X2_countFrom kv_X2_countFrom wd_129 rfl rfl ⟨Nat.le_of_ble_eq_true rfl, Nat.le_of_ble_eq_true rfl⟩ rfl hl rfl (Nat.le_of_ble_eq_true rfl) dX2_columnsOf_21 ⟨Nat.le_of_ble_eq_true rfl, Nat.le_of_ble_eq_true rfl⟩) (fun H locs B => ?_)
    refine lv_goto (tgt := 28) hx hb dX2_columnsOf_24 (by decide) ?_
    obtain rfl := Option.some.inj h
    exact xretiR C0 B dX2_columnsOf_28
/-! FilterRows$Picture.rowsOf(I)I -/
abbrev rm_X2_rowsOf : Room := { frames := 1, cells := 0, slots := 0, locals := 22 }
def f_X2_rowsOf (n : Nat) (o_height : Int32) (x1 : Int32) : Option Int32 := xb (f_X4_isPass n x1) (fun r_1 => (if r_1 = 0 then some (0 : Int32) else xin x1 8 (xin x1 8 (xb (f_X2_countFrom n (tb_FIRST_ROW (x1).toNatClampNeg) (tb_ROW_SHIFT (x1).toNatClampNeg) o_height) (fun r_8 => some r_8)))))
set_option maxHeartbeats 4000000 in
set_option maxRecDepth 100000 in
theorem c_X2_rowsOf (l : Launch) (G : xG) (o : Nat) (o_width : Int32) (o_height : Int32) (o_bits : Int32) (o_channels : Int32) (o_step : Int32) (o_mostSample : Int32) (o_samples : Nat) (o_samplesN : Nat) (o_samplesF : Nat → Int32) (o_draft : Nat) (o_draftN : Nat) (o_draftF : Nat → Int32) (x1 : Int32) (n : Nat) (zr : Int32) (hF : f_X2_rowsOf n o_height x1 = some zr) (sz : Nat) : Met l yX2_rowsOf (xws yX2_rowsOf cX2_rowsOf 2 (some .int)) rm_X2_rowsOf (va_Pc [.ref o, .int x1] (xPre G [(o, .inr (2, [.int o_width, .int o_height, .int o_bits, .int o_channels, .int o_step, .int o_mostSample, .ref o_samples, .ref o_draft])), (o_samples, .inl (G.2.1, o_samplesN, .inl o_samplesF)), (o_draft, .inl (G.2.1, o_draftN, .inl o_draftF))] sz)) (xQR (some (.int zr)) (fun q => sz ≤ q)) 0 0 (fun q => sz ≤ q) := by
  refine xMetR (by decide) (Nat.le_of_ble_eq_true rfl) ?_
  intro p e s m below meth c ls A H locs C0 hnm B hl
  have hl : lv_has ls 2 [(0, .ref o), (1, .int x1)] := hl
  have h := hF
  unfold f_X2_rowsOf at h
  obtain ⟨hx, hb, hr, hml, hown, hts, hlk⟩ := id C0
  refine lv_iload_n hx hb dX2_rowsOf_0 rfl (lv_at hl 1 rfl) ?_
  obtain ⟨r_1, e_2, h⟩ := xb_spec h
  refine xcallR (wc := []) B [] rfl rfl (xrunSN C0 (c_X4_isPass l G  x1 n r_1 e_2 H.size) kb_X4_isPass kv_X4_isPass B.Z.1.2.1 rfl rfl ⟨Nat.le_of_ble_eq_true rfl, Nat.le_of_ble_eq_true rfl⟩ rfl hl rfl (Nat.le_of_ble_eq_true rfl) dX2_rowsOf_1 ⟨Nat.le_of_ble_eq_true rfl, Nat.le_of_ble_eq_true rfl⟩) (fun H locs B => ?_)
  refine lv_if_eq (tgt := 27) hx hb dX2_rowsOf_4 (by decide) (fun c_3 => ?_) (fun c_3 => ?_)
  · have h := oif_t h c_3
    refine lv_iconst (v := 0) hx hb dX2_rowsOf_27 (by decide) ?_
    obtain rfl := Option.some.inj h
    exact xretiR C0 B dX2_rowsOf_28
  · have h := oif_f h c_3
    obtain ⟨t_4, hz_t_4, ht_t_4⟩ := xZ.FIRST_ROW B.Z
    refine va_gets hx hb hz_t_4 B.2.2.2.1 hown (hts _ wd_133) (fun _ h => h) dX2_rowsOf_7 ?_
    refine lv_iload_n hx hb dX2_rowsOf_10 rfl (lv_at hl 1 rfl) ?_
    obtain ⟨b_5, h⟩ := xin_spec h
    refine va_ti hx hb ht_t_4 B.2.2.2.1 b_5 rfl dX2_rowsOf_11 ?_
    obtain ⟨t_6, hz_t_6, ht_t_6⟩ := xZ.ROW_SHIFT B.Z
    refine va_gets hx hb hz_t_6 B.2.2.2.1 hown (hts _ wd_134) (fun _ h => h) dX2_rowsOf_12 ?_
    refine lv_iload_n hx hb dX2_rowsOf_15 rfl (lv_at hl 1 rfl) ?_
    obtain ⟨b_7, h⟩ := xin_spec h
    refine va_ti hx hb ht_t_6 B.2.2.2.1 b_7 rfl dX2_rowsOf_16 ?_
    refine lv_aload_n hx hb dX2_rowsOf_17 rfl (lv_at hl 0 rfl) ?_
    refine xget (v := .int o_height) C0 B inX2 0 rfl rfl 1 (by decide) wd_77 rfl dX2_rowsOf_18 ?_
    obtain ⟨r_8, e_9, h⟩ := xb_spec h
    refine xcallR (wc := []) B [] rfl rfl (xrunS C0 (c_X2_countFrom l G  (tb_FIRST_ROW (x1).toNatClampNeg) (tb_ROW_SHIFT (x1).toNatClampNeg) o_height n r_8 e_9 H.size) kb_X2_countFrom kv_X2_countFrom wd_129 rfl rfl ⟨Nat.le_of_ble_eq_true rfl, Nat.le_of_ble_eq_true rfl⟩ rfl hl rfl (Nat.le_of_ble_eq_true rfl) dX2_rowsOf_21 ⟨Nat.le_of_ble_eq_true rfl, Nat.le_of_ble_eq_true rfl⟩) (fun H locs B => ?_)
    refine lv_goto (tgt := 28) hx hb dX2_rowsOf_24 (by decide) ?_
    obtain rfl := Option.some.inj h
    exact xretiR C0 B dX2_rowsOf_28
/-! FilterRows$Picture.placesOf(I)I -/
abbrev rm_X2_placesOf : Room := { frames := 2, cells := 0, slots := 0, locals := 43 }
def f_X2_placesOf (n : Nat) (o_width : Int32) (o_height : Int32) (x1 : Int32) : Option Int32 := xb (f_X2_columnsOf n o_width x1) (fun r_1 => xb (f_X2_rowsOf n o_height x1) (fun r_3 => some (r_1 * r_3)))
set_option maxHeartbeats 4000000 in
set_option maxRecDepth 100000 in
theorem c_X2_placesOf (l : Launch) (G : xG) (o : Nat) (o_width : Int32) (o_height : Int32) (o_bits : Int32) (o_channels : Int32) (o_step : Int32) (o_mostSample : Int32) (o_samples : Nat) (o_samplesN : Nat) (o_samplesF : Nat → Int32) (o_draft : Nat) (o_draftN : Nat) (o_draftF : Nat → Int32) (x1 : Int32) (n : Nat) (zr : Int32) (hF : f_X2_placesOf n o_width o_height x1 = some zr) (sz : Nat) : Met l yX2_placesOf (xws yX2_placesOf cX2_placesOf 2 (some .int)) rm_X2_placesOf (va_Pc [.ref o, .int x1] (xPre G [(o, .inr (2, [.int o_width, .int o_height, .int o_bits, .int o_channels, .int o_step, .int o_mostSample, .ref o_samples, .ref o_draft])), (o_samples, .inl (G.2.1, o_samplesN, .inl o_samplesF)), (o_draft, .inl (G.2.1, o_draftN, .inl o_draftF))] sz)) (xQR (some (.int zr)) (fun q => sz ≤ q)) 0 0 (fun q => sz ≤ q) := by
  refine xMetR (by decide) (Nat.le_of_ble_eq_true rfl) ?_
  intro p e s m below meth c ls A H locs C0 hnm B hl
  have hl : lv_has ls 2 [(0, .ref o), (1, .int x1)] := hl
  have h := hF
  unfold f_X2_placesOf at h
  obtain ⟨hx, hb, hr, hml, hown, hts, hlk⟩ := id C0
  refine lv_aload_n hx hb dX2_placesOf_0 rfl (lv_at hl 0 rfl) ?_
  refine lv_iload_n hx hb dX2_placesOf_1 rfl (lv_at hl 1 rfl) ?_
  obtain ⟨r_1, e_2, h⟩ := xb_spec h
  refine xcallR (wc := [(o, .inr (2, [.int o_width, .int o_height, .int o_bits, .int o_channels, .int o_step, .int o_mostSample, .ref o_samples, .ref o_draft])), (o_samples, .inl (G.2.1, o_samplesN, .inl o_samplesF)), (o_draft, .inl (G.2.1, o_draftN, .inl o_draftF))]) B [0, 1, 2] rfl rfl (xrunV C0 (c_X2_columnsOf l G o o_width o_height o_bits o_channels o_step o_mostSample o_samples o_samplesN o_samplesF o_draft o_draftN o_draftF x1 n r_1 e_2 H.size) kb_X2_columnsOf kv_X2_columnsOf wd_138 (ci := 2) rfl rfl rfl rfl rfl ⟨Nat.le_of_ble_eq_true rfl, Nat.le_of_ble_eq_true rfl⟩ rfl hl rfl (Nat.le_of_ble_eq_true rfl) dX2_placesOf_2 ⟨Nat.le_of_ble_eq_true rfl, Nat.le_of_ble_eq_true rfl⟩) (fun H locs B => ?_)
  refine lv_aload_n hx hb dX2_placesOf_5 rfl (lv_at hl 0 rfl) ?_
  refine lv_iload_n hx hb dX2_placesOf_6 rfl (lv_at hl 1 rfl) ?_
  obtain ⟨r_3, e_4, h⟩ := xb_spec h
  refine xcallR (wc := [(o, .inr (2, [.int o_width, .int o_height, .int o_bits, .int o_channels, .int o_step, .int o_mostSample, .ref o_samples, .ref o_draft])), (o_samples, .inl (G.2.1, o_samplesN, .inl o_samplesF)), (o_draft, .inl (G.2.1, o_draftN, .inl o_draftF))]) B [0, 1, 2] rfl rfl (xrunV C0 (c_X2_rowsOf l G o o_width o_height o_bits o_channels o_step o_mostSample o_samples o_samplesN o_samplesF o_draft o_draftN o_draftF x1 n r_3 e_4 H.size) kb_X2_rowsOf kv_X2_rowsOf wd_139 (ci := 2) rfl rfl rfl rfl rfl ⟨Nat.le_of_ble_eq_true rfl, Nat.le_of_ble_eq_true rfl⟩ rfl hl rfl (Nat.le_of_ble_eq_true rfl) dX2_placesOf_7 ⟨Nat.le_of_ble_eq_true rfl, Nat.le_of_ble_eq_true rfl⟩) (fun H locs B => ?_)
  refine lv_imul hx hb dX2_placesOf_10 ?_
  obtain rfl := Option.some.inj h
  exact xretiR C0 B dX2_placesOf_11
/-! FilterRows$Picture.linesOf(I)I -/
abbrev rm_X2_linesOf : Room := { frames := 2, cells := 0, slots := 0, locals := 43 }
def f_X2_linesOf (n : Nat) (o_width : Int32) (o_height : Int32) (x1 : Int32) : Option Int32 := xb (f_X2_columnsOf n o_width x1) (fun r_1 => (if r_1 = 0 then some (0 : Int32) else xb (f_X2_rowsOf n o_height x1) (fun r_4 => some r_4)))
set_option maxHeartbeats 4000000 in
set_option maxRecDepth 100000 in
theorem c_X2_linesOf (l : Launch) (G : xG) (o : Nat) (o_width : Int32) (o_height : Int32) (o_bits : Int32) (o_channels : Int32) (o_step : Int32) (o_mostSample : Int32) (o_samples : Nat) (o_samplesN : Nat) (o_samplesF : Nat → Int32) (o_draft : Nat) (o_draftN : Nat) (o_draftF : Nat → Int32) (x1 : Int32) (n : Nat) (zr : Int32) (hF : f_X2_linesOf n o_width o_height x1 = some zr) (sz : Nat) : Met l yX2_linesOf (xws yX2_linesOf cX2_linesOf 2 (some .int)) rm_X2_linesOf (va_Pc [.ref o, .int x1] (xPre G [(o, .inr (2, [.int o_width, .int o_height, .int o_bits, .int o_channels, .int o_step, .int o_mostSample, .ref o_samples, .ref o_draft])), (o_samples, .inl (G.2.1, o_samplesN, .inl o_samplesF)), (o_draft, .inl (G.2.1, o_draftN, .inl o_draftF))] sz)) (xQR (some (.int zr)) (fun q => sz ≤ q)) 0 0 (fun q => sz ≤ q) := by
  refine xMetR (by decide) (Nat.le_of_ble_eq_true rfl) ?_
  intro p e s m below meth c ls A H locs C0 hnm B hl
  have hl : lv_has ls 2 [(0, .ref o), (1, .int x1)] := hl
  have h := hF
  unfold f_X2_linesOf at h
  obtain ⟨hx, hb, hr, hml, hown, hts, hlk⟩ := id C0
  refine lv_aload_n hx hb dX2_linesOf_0 rfl (lv_at hl 0 rfl) ?_
  refine lv_iload_n hx hb dX2_linesOf_1 rfl (lv_at hl 1 rfl) ?_
  obtain ⟨r_1, e_2, h⟩ := xb_spec h
  refine xcallR (wc := [(o, .inr (2, [.int o_width, .int o_height, .int o_bits, .int o_channels, .int o_step, .int o_mostSample, .ref o_samples, .ref o_draft])), (o_samples, .inl (G.2.1, o_samplesN, .inl o_samplesF)), (o_draft, .inl (G.2.1, o_draftN, .inl o_draftF))]) B [0, 1, 2] rfl rfl (xrunV C0 (c_X2_columnsOf l G o o_width o_height o_bits o_channels o_step o_mostSample o_samples o_samplesN o_samplesF o_draft o_draftN o_draftF x1 n r_1 e_2 H.size) kb_X2_columnsOf kv_X2_columnsOf wd_138 (ci := 2) rfl rfl rfl rfl rfl ⟨Nat.le_of_ble_eq_true rfl, Nat.le_of_ble_eq_true rfl⟩ rfl hl rfl (Nat.le_of_ble_eq_true rfl) dX2_linesOf_2 ⟨Nat.le_of_ble_eq_true rfl, Nat.le_of_ble_eq_true rfl⟩) (fun H locs B => ?_)
  refine lv_if_ne (tgt := 12) hx hb dX2_linesOf_5 (by decide) (fun c_3 => ?_) (fun c_3 => ?_)
  · have h := oif_f h c_3
    refine lv_aload_n hx hb dX2_linesOf_12 rfl (lv_at hl 0 rfl) ?_
    refine lv_iload_n hx hb dX2_linesOf_13 rfl (lv_at hl 1 rfl) ?_
    obtain ⟨r_4, e_5, h⟩ := xb_spec h
    refine xcallR (wc := [(o, .inr (2, [.int o_width, .int o_height, .int o_bits, .int o_channels, .int o_step, .int o_mostSample, .ref o_samples, .ref o_draft])), (o_samples, .inl (G.2.1, o_samplesN, .inl o_samplesF)), (o_draft, .inl (G.2.1, o_draftN, .inl o_draftF))]) B [0, 1, 2] rfl rfl (xrunV C0 (c_X2_rowsOf l G o o_width o_height o_bits o_channels o_step o_mostSample o_samples o_samplesN o_samplesF o_draft o_draftN o_draftF x1 n r_4 e_5 H.size) kb_X2_rowsOf kv_X2_rowsOf wd_139 (ci := 2) rfl rfl rfl rfl rfl ⟨Nat.le_of_ble_eq_true rfl, Nat.le_of_ble_eq_true rfl⟩ rfl hl rfl (Nat.le_of_ble_eq_true rfl) dX2_linesOf_14 ⟨Nat.le_of_ble_eq_true rfl, Nat.le_of_ble_eq_true rfl⟩) (fun H locs B => ?_)
    obtain rfl := Option.some.inj h
    exact xretiR C0 B dX2_linesOf_17
  · have h := oif_t h c_3
    refine lv_iconst (v := 0) hx hb dX2_linesOf_8 (by decide) ?_
    refine lv_goto (tgt := 17) hx hb dX2_linesOf_9 (by decide) ?_
    obtain rfl := Option.some.inj h
    exact xretiR C0 B dX2_linesOf_17
/-! FilterRows$Picture.lineBytes(I)I -/
abbrev rm_X2_lineBytes : Room := { frames := 2, cells := 0, slots := 0, locals := 43 }
def f_X2_lineBytes (n : Nat) (o_width : Int32) (o_height : Int32) (o_bits : Int32) (o_channels : Int32) (x1 : Int32) : Option Int32 := xb (f_X2_rowsOf n o_height x1) (fun r_1 => (if r_1 = 0 then some (0 : Int32) else xb (f_X2_columnsOf n o_width x1) (fun r_4 => some ((((r_4 * o_channels) * o_bits) + (7 : Int32)) >>> ((3 : Int32) &&& 31)))))
set_option maxHeartbeats 4000000 in
set_option maxRecDepth 100000 in
theorem c_X2_lineBytes (l : Launch) (G : xG) (o : Nat) (o_width : Int32) (o_height : Int32) (o_bits : Int32) (o_channels : Int32) (o_step : Int32) (o_mostSample : Int32) (o_samples : Nat) (o_samplesN : Nat) (o_samplesF : Nat → Int32) (o_draft : Nat) (o_draftN : Nat) (o_draftF : Nat → Int32) (x1 : Int32) (n : Nat) (zr : Int32) (hF : f_X2_lineBytes n o_width o_height o_bits o_channels x1 = some zr) (sz : Nat) : Met l yX2_lineBytes (xws yX2_lineBytes cX2_lineBytes 2 (some .int)) rm_X2_lineBytes (va_Pc [.ref o, .int x1] (xPre G [(o, .inr (2, [.int o_width, .int o_height, .int o_bits, .int o_channels, .int o_step, .int o_mostSample, .ref o_samples, .ref o_draft])), (o_samples, .inl (G.2.1, o_samplesN, .inl o_samplesF)), (o_draft, .inl (G.2.1, o_draftN, .inl o_draftF))] sz)) (xQR (some (.int zr)) (fun q => sz ≤ q)) 0 0 (fun q => sz ≤ q) := by
  refine xMetR (by decide) (Nat.le_of_ble_eq_true rfl) ?_
  intro p e s m below meth c ls A H locs C0 hnm B hl
  have hl : lv_has ls 2 [(0, .ref o), (1, .int x1)] := hl
  have h := hF
  unfold f_X2_lineBytes at h
  obtain ⟨hx, hb, hr, hml, hown, hts, hlk⟩ := id C0
  refine lv_aload_n hx hb dX2_lineBytes_0 rfl (lv_at hl 0 rfl) ?_
  refine lv_iload_n hx hb dX2_lineBytes_1 rfl (lv_at hl 1 rfl) ?_
  obtain ⟨r_1, e_2, h⟩ := xb_spec h
  refine xcallR (wc := [(o, .inr (2, [.int o_width, .int o_height, .int o_bits, .int o_channels, .int o_step, .int o_mostSample, .ref o_samples, .ref o_draft])), (o_samples, .inl (G.2.1, o_samplesN, .inl o_samplesF)), (o_draft, .inl (G.2.1, o_draftN, .inl o_draftF))]) B [0, 1, 2] rfl rfl (xrunV C0 (c_X2_rowsOf l G o o_width o_height o_bits o_channels o_step o_mostSample o_samples o_samplesN o_samplesF o_draft o_draftN o_draftF x1 n r_1 e_2 H.size) kb_X2_rowsOf kv_X2_rowsOf wd_139 (ci := 2) rfl rfl rfl rfl rfl ⟨Nat.le_of_ble_eq_true rfl, Nat.le_of_ble_eq_true rfl⟩ rfl hl rfl (Nat.le_of_ble_eq_true rfl) dX2_lineBytes_2 ⟨Nat.le_of_ble_eq_true rfl, Nat.le_of_ble_eq_true rfl⟩) (fun H locs B => ?_)
  refine lv_if_ne (tgt := 12) hx hb dX2_lineBytes_5 (by decide) (fun c_3 => ?_) (fun c_3 => ?_)
  · have h := oif_f h c_3
    refine lv_aload_n hx hb dX2_lineBytes_12 rfl (lv_at hl 0 rfl) ?_
    refine lv_iload_n hx hb dX2_lineBytes_13 rfl (lv_at hl 1 rfl) ?_
    obtain ⟨r_4, e_5, h⟩ := xb_spec h
    refine xcallR (wc := [(o, .inr (2, [.int o_width, .int o_height, .int o_bits, .int o_channels, .int o_step, .int o_mostSample, .ref o_samples, .ref o_draft])), (o_samples, .inl (G.2.1, o_samplesN, .inl o_samplesF)), (o_draft, .inl (G.2.1, o_draftN, .inl o_draftF))]) B [0, 1, 2] rfl rfl (xrunV C0 (c_X2_columnsOf l G o o_width o_height o_bits o_channels o_step o_mostSample o_samples o_samplesN o_samplesF o_draft o_draftN o_draftF x1 n r_4 e_5 H.size) kb_X2_columnsOf kv_X2_columnsOf wd_138 (ci := 2) rfl rfl rfl rfl rfl ⟨Nat.le_of_ble_eq_true rfl, Nat.le_of_ble_eq_true rfl⟩ rfl hl rfl (Nat.le_of_ble_eq_true rfl) dX2_lineBytes_14 ⟨Nat.le_of_ble_eq_true rfl, Nat.le_of_ble_eq_true rfl⟩) (fun H locs B => ?_)
    refine lv_aload_n hx hb dX2_lineBytes_17 rfl (lv_at hl 0 rfl) ?_
    refine xget (v := .int o_channels) C0 B inX2 0 rfl rfl 3 (by decide) wd_78 rfl dX2_lineBytes_18 ?_
    refine lv_imul hx hb dX2_lineBytes_21 ?_
    refine lv_aload_n hx hb dX2_lineBytes_22 rfl (lv_at hl 0 rfl) ?_
    refine xget (v := .int o_bits) C0 B inX2 0 rfl rfl 2 (by decide) wd_79 rfl dX2_lineBytes_23 ?_
    refine lv_imul hx hb dX2_lineBytes_26 ?_
    refine lv_bipush (v := 7) hx hb dX2_lineBytes_27 (by decide) ?_
    refine lv_iadd hx hb dX2_lineBytes_29 ?_
    refine lv_iconst (v := 3) hx hb dX2_lineBytes_30 (by decide) ?_
    refine lv_ishr hx hb dX2_lineBytes_31 ?_
    obtain rfl := Option.some.inj h
    exact xretiR C0 B dX2_lineBytes_32
  · have h := oif_t h c_3
    refine lv_iconst (v := 0) hx hb dX2_lineBytes_8 (by decide) ?_
    refine lv_goto (tgt := 32) hx hb dX2_lineBytes_9 (by decide) ?_
    obtain rfl := Option.some.inj h
    exact xretiR C0 B dX2_lineBytes_32
