/-! FilterRows$Rows.byteOr0([II)I -/
abbrev rm_X3_byteOr0 : Room := { frames := 0, cells := 0, slots := 0, locals := 0 }
def f_X3_byteOr0 (n : Nat) (p0N : Nat) (p0F : Nat → Int32) (x1 : Int32) : Option Int32 := (if x1 < 0 then some (0 : Int32) else (if (nI p0N) ≤ x1 then some (0 : Int32) else xin x1 p0N (some (p0F (x1).toNatClampNeg))))
set_option maxHeartbeats 4000000 in
set_option maxRecDepth 100000 in
theorem c_X3_byteOr0 (l : Launch) (G : xG) (p0 : Nat) (p0N : Nat) (p0F : Nat → Int32) (x1 : Int32) (n : Nat) (zr : Int32) (hF : f_X3_byteOr0 n p0N p0F x1 = some zr) (sz : Nat) : Met l yX3_byteOr0 (xws yX3_byteOr0 cX3_byteOr0 2 (some .int)) rm_X3_byteOr0 (va_Pc [.ref p0, .int x1] (xPre G [(p0, .inl (G.2.1, p0N, .inl p0F))] sz)) (xQR (some (.int zr)) (fun q => sz ≤ q)) 0 0 (fun q => sz ≤ q) := by
  refine xMetR (by decide) (Nat.le_of_ble_eq_true rfl) ?_
  intro p e s m below meth c ls A H locs C0 hnm B hl
  have hl : lv_has ls 2 [(0, .ref p0), (1, .int x1)] := hl
  have h := hF
  unfold f_X3_byteOr0 at h
  obtain ⟨hx, hb, hr, hml, hown, hts, hlk⟩ := id C0
  refine lv_iload_n hx hb dX3_byteOr0_0 rfl (lv_at hl 1 rfl) ?_
  refine lv_if_lt (tgt := 16) hx hb dX3_byteOr0_1 (by decide) (fun c_1 => ?_) (fun c_1 => ?_)
  · have h := oif_t h c_1
    refine lv_iconst (v := 0) hx hb dX3_byteOr0_16 (by decide) ?_
    obtain rfl := Option.some.inj h
    exact xretiR C0 B dX3_byteOr0_17
  · have h := oif_f h c_1
    refine lv_iload_n hx hb dX3_byteOr0_4 rfl (lv_at hl 1 rfl) ?_
    refine lv_aload_n hx hb dX3_byteOr0_5 rfl (lv_at hl 0 rfl) ?_
    refine xalen C0 B 0 0 rfl rfl dX3_byteOr0_6 ?_
    refine lv_icmp_ge (tgt := 16) hx hb dX3_byteOr0_7 (by decide) (fun c_2 => ?_) (fun c_2 => ?_)
    · have h := oif_t h c_2
      refine lv_iconst (v := 0) hx hb dX3_byteOr0_16 (by decide) ?_
      obtain rfl := Option.some.inj h
      exact xretiR C0 B dX3_byteOr0_17
    · have h := oif_f h c_2
      refine lv_aload_n hx hb dX3_byteOr0_10 rfl (lv_at hl 0 rfl) ?_
      refine lv_iload_n hx hb dX3_byteOr0_11 rfl (lv_at hl 1 rfl) ?_
      obtain ⟨b_3, h⟩ := xin_spec h
      refine xiald C0 B 0 rfl b_3 dX3_byteOr0_12 ?_
      refine lv_goto (tgt := 17) hx hb dX3_byteOr0_13 (by decide) ?_
      obtain rfl := Option.some.inj h
      exact xretiR C0 B dX3_byteOr0_17
/-! FilterRows$Rows.nearest(III)I -/
abbrev rm_X3_nearest : Room := { frames := 1, cells := 0, slots := 0, locals := 21 }
def f_X3_nearest (n : Nat)  (x0 : Int32) (x1 : Int32) (x2 : Int32) : Option Int32 := xl (if 0 ≤ (((x0 + x1) - x2) - x0) then (((x0 + x1) - x2) - x0) else 0 - (((x0 + x1) - x2) - x0)) (fun s_1 => xl (if 0 ≤ (((x0 + x1) - x2) - x1) then (((x0 + x1) - x2) - x1) else 0 - (((x0 + x1) - x2) - x1)) (fun s_2 => xl (if 0 ≤ (((x0 + x1) - x2) - x2) then (((x0 + x1) - x2) - x2) else 0 - (((x0 + x1) - x2) - x2)) (fun s_3 => (if s_2 < s_1 then (if s_3 < s_2 then some x2 else some x1) else (if s_3 < s_1 then (if s_3 < s_2 then some x2 else some x1) else some x0)))))
set_option maxHeartbeats 4000000 in
set_option maxRecDepth 100000 in
theorem c_X3_nearest (l : Launch) (G : xG)  (x0 : Int32) (x1 : Int32) (x2 : Int32) (n : Nat) (zr : Int32) (hF : f_X3_nearest n x0 x1 x2 = some zr) (sz : Nat) : Met l yX3_nearest (xws yX3_nearest cX3_nearest 7 (some .int)) rm_X3_nearest (va_Pc [.int x0, .int x1, .int x2] (xPre G [] sz)) (xQR (some (.int zr)) (fun q => sz ≤ q)) 0 0 (fun q => sz ≤ q) := by
  refine xMetR (by decide) (Nat.le_of_ble_eq_true rfl) ?_
  intro p e s m below meth c ls A H locs C0 hnm B hl
  have hl : lv_has ls 7 [(0, .int x0), (1, .int x1), (2, .int x2)] := hl
  have h := hF
  unfold f_X3_nearest at h
  obtain ⟨hx, hb, hr, hml, hown, hts, hlk⟩ := id C0
  refine lv_iload_n hx hb dX3_nearest_0 rfl (lv_at hl 0 rfl) ?_
  refine lv_iload_n hx hb dX3_nearest_1 rfl (lv_at hl 1 rfl) ?_
  refine lv_iadd hx hb dX3_nearest_2 ?_
  refine lv_iload_n hx hb dX3_nearest_3 rfl (lv_at hl 2 rfl) ?_
  refine lv_isub hx hb dX3_nearest_4 ?_
  refine lv_istore_n (lv' := [(3, .int ((x0 + x1) - x2)), (0, .int x0), (1, .int x1), (2, .int x2)]) hx hb dX3_nearest_5 rfl hl (by decide) rfl (fun ls hl => ?_)
  refine lv_iload_n hx hb dX3_nearest_6 rfl (lv_at hl 0 rfl) ?_
  refine lv_iload_n hx hb dX3_nearest_7 rfl (lv_at hl 1 rfl) ?_
  refine lv_isub hx hb dX3_nearest_8 ?_
  refine va_mabs hx hb (hml.trans hl.1.symm) hown (hts _ wd_205) (hts _ wd_206) (hts _ wd_5) (hts _ wd_207) (Nat.le_of_ble_eq_true rfl) (Nat.le_of_ble_eq_true rfl) (Nat.le_of_ble_eq_true rfl) (Nat.le_of_ble_eq_true rfl) dX3_nearest_9 ?_
  refine lv_topi (fun s_1 es_1 => ?_)
  have h := xl_spec h es_1
  refine lv_istore (lv' := [(4, .int s_1), (3, .int ((x0 + x1) - x2)), (0, .int x0), (1, .int x1), (2, .int x2)]) hx hb dX3_nearest_12 hl (by decide) rfl (fun ls hl => ?_)
  refine lv_iload_n hx hb dX3_nearest_14 rfl (lv_at hl 1 rfl) ?_
  refine lv_iload_n hx hb dX3_nearest_15 rfl (lv_at hl 3 rfl) ?_
  refine lv_isub hx hb dX3_nearest_16 ?_
  refine va_mabs hx hb (hml.trans hl.1.symm) hown (hts _ wd_205) (hts _ wd_206) (hts _ wd_5) (hts _ wd_207) (Nat.le_of_ble_eq_true rfl) (Nat.le_of_ble_eq_true rfl) (Nat.le_of_ble_eq_true rfl) (Nat.le_of_ble_eq_true rfl) dX3_nearest_17 ?_
  refine lv_topi (fun s_2 es_2 => ?_)
  have h := xl_spec h es_2
  refine lv_istore (lv' := [(5, .int s_2), (4, .int s_1), (3, .int ((x0 + x1) - x2)), (0, .int x0), (1, .int x1), (2, .int x2)]) hx hb dX3_nearest_20 hl (by decide) rfl (fun ls hl => ?_)
  refine lv_iload_n hx hb dX3_nearest_22 rfl (lv_at hl 2 rfl) ?_
  refine lv_iload_n hx hb dX3_nearest_23 rfl (lv_at hl 5 rfl) ?_
  refine lv_isub hx hb dX3_nearest_24 ?_
  refine va_mabs hx hb (hml.trans hl.1.symm) hown (hts _ wd_205) (hts _ wd_206) (hts _ wd_5) (hts _ wd_207) (Nat.le_of_ble_eq_true rfl) (Nat.le_of_ble_eq_true rfl) (Nat.le_of_ble_eq_true rfl) (Nat.le_of_ble_eq_true rfl) dX3_nearest_25 ?_
  refine lv_topi (fun s_3 es_3 => ?_)
  have h := xl_spec h es_3
  refine lv_istore (lv' := [(6, .int s_3), (5, .int s_2), (4, .int s_1), (3, .int ((x0 + x1) - x2)), (0, .int x0), (1, .int x1), (2, .int x2)]) hx hb dX3_nearest_28 hl (by decide) rfl (fun ls hl => ?_)
  refine lv_iload hx hb dX3_nearest_30 (lv_at hl 2 rfl) ?_
  refine lv_iload hx hb dX3_nearest_32 (lv_at hl 1 rfl) ?_
  refine lv_icmp_gt (tgt := 46) hx hb dX3_nearest_34 (by decide) (fun c_4 => ?_) (fun c_4 => ?_)
  · have h := oif_t h c_4
    refine lv_iload hx hb dX3_nearest_46 (lv_at hl 1 rfl) ?_
    refine lv_iload hx hb dX3_nearest_48 (lv_at hl 0 rfl) ?_
    refine lv_icmp_gt (tgt := 57) hx hb dX3_nearest_50 (by decide) (fun c_5 => ?_) (fun c_5 => ?_)
    · have h := oif_t h c_5
      refine lv_iload_n hx hb dX3_nearest_57 rfl (lv_at hl 6 rfl) ?_
      obtain rfl := Option.some.inj h
      exact xretiR C0 B dX3_nearest_58
    · have h := oif_f h c_5
      refine lv_iload_n hx hb dX3_nearest_53 rfl (lv_at hl 5 rfl) ?_
      refine lv_goto (tgt := 58) hx hb dX3_nearest_54 (by decide) ?_
      obtain rfl := Option.some.inj h
      exact xretiR C0 B dX3_nearest_58
  · have h := oif_f h c_4
    refine lv_iload hx hb dX3_nearest_37 (lv_at hl 2 rfl) ?_
    refine lv_iload hx hb dX3_nearest_39 (lv_at hl 0 rfl) ?_
    refine lv_icmp_gt (tgt := 46) hx hb dX3_nearest_41 (by decide) (fun c_6 => ?_) (fun c_6 => ?_)
    · have h := oif_t h c_6
      refine lv_iload hx hb dX3_nearest_46 (lv_at hl 1 rfl) ?_
      refine lv_iload hx hb dX3_nearest_48 (lv_at hl 0 rfl) ?_
      refine lv_icmp_gt (tgt := 57) hx hb dX3_nearest_50 (by decide) (fun c_7 => ?_) (fun c_7 => ?_)
      · have h := oif_t h c_7
        refine lv_iload_n hx hb dX3_nearest_57 rfl (lv_at hl 6 rfl) ?_
        obtain rfl := Option.some.inj h
        exact xretiR C0 B dX3_nearest_58
      · have h := oif_f h c_7
        refine lv_iload_n hx hb dX3_nearest_53 rfl (lv_at hl 5 rfl) ?_
        refine lv_goto (tgt := 58) hx hb dX3_nearest_54 (by decide) ?_
        obtain rfl := Option.some.inj h
        exact xretiR C0 B dX3_nearest_58
    · have h := oif_f h c_6
      refine lv_iload_n hx hb dX3_nearest_44 rfl (lv_at hl 4 rfl) ?_
      obtain rfl := Option.some.inj h
      exact xretiR C0 B dX3_nearest_45
/-! FilterRows$Rows.guess(II)I -/
abbrev rm_X3_guess : Room := { frames := 2, cells := 0, slots := 0, locals := 47 }
def f_X3_guess (n : Nat) (o_step : Int32) (o_currentN : Nat) (o_currentF : Nat → Int32) (o_aboveN : Nat) (o_aboveF : Nat → Int32) (x1 : Int32) (x2 : Int32) : Option Int32 := xb (f_X3_byteOr0 n o_currentN o_currentF (x2 - o_step)) (fun r_1 => xb (f_X3_byteOr0 n o_aboveN o_aboveF x2) (fun r_3 => (if x1 = (1 : Int32) then some r_1 else (if x1 = (2 : Int32) then some r_3 else (if x1 = (3 : Int32) then some ((r_1 + r_3) >>> ((1 : Int32) &&& 31)) else (if x1 = (4 : Int32) then xb (f_X3_byteOr0 n o_aboveN o_aboveF (x2 - o_step)) (fun r_9 => xb (f_X3_nearest n r_1 r_3 r_9) (fun r_11 => some r_11)) else some (0 : Int32)))))))
set_option maxHeartbeats 4000000 in
set_option maxRecDepth 100000 in
theorem c_X3_guess (l : Launch) (G : xG) (o : Nat) (o_step : Int32) (o_seen : Nat) (o_seenN : Nat) (o_seenF : Nat → Int32) (o_counts : Int32) (o_rests : Nat) (o_restsN : Nat) (o_restsF : Nat → Int32) (o_current : Nat) (o_currentN : Nat) (o_currentF : Nat → Int32) (o_above : Nat) (o_aboveN : Nat) (o_aboveF : Nat → Int32) (o_length : Int32) (x1 : Int32) (x2 : Int32) (n : Nat) (zr : Int32) (hF : f_X3_guess n o_step o_currentN o_currentF o_aboveN o_aboveF x1 x2 = some zr) (sz : Nat) : Met l yX3_guess (xws yX3_guess cX3_guess 5 (some .int)) rm_X3_guess (va_Pc [.ref o, .int x1, .int x2] (xPre G [(o, .inr (3, [.int o_step, .ref o_seen, .int o_counts, .ref o_rests, .ref o_current, .ref o_above, .int o_length])), (o_seen, .inl (G.2.1, o_seenN, .inl o_seenF)), (o_rests, .inl (G.2.1, o_restsN, .inl o_restsF)), (o_current, .inl (G.2.1, o_currentN, .inl o_currentF)), (o_above, .inl (G.2.1, o_aboveN, .inl o_aboveF))] sz)) (xQR (some (.int zr)) (fun q => sz ≤ q)) 0 0 (fun q => sz ≤ q) := by
  refine xMetR (by decide) (Nat.le_of_ble_eq_true rfl) ?_
  intro p e s m below meth c ls A H locs C0 hnm B hl
  have hl : lv_has ls 5 [(0, .ref o), (1, .int x1), (2, .int x2)] := hl
  have h := hF
  unfold f_X3_guess at h
  obtain ⟨hx, hb, hr, hml, hown, hts, hlk⟩ := id C0
  refine lv_aload_n hx hb dX3_guess_0 rfl (lv_at hl 0 rfl) ?_
  refine xget (v := .ref o_current) C0 B inX3 0 rfl rfl 4 (by decide) wd_185 rfl dX3_guess_1 ?_
  refine lv_iload_n hx hb dX3_guess_4 rfl (lv_at hl 2 rfl) ?_
  refine lv_aload_n hx hb dX3_guess_5 rfl (lv_at hl 0 rfl) ?_
  refine xget (v := .int o_step) C0 B inX3 0 rfl rfl 0 (by decide) wd_182 rfl dX3_guess_6 ?_
  refine lv_isub hx hb dX3_guess_9 ?_
  obtain ⟨r_1, e_2, h⟩ := xb_spec h
  refine xcallR (wc := [(o_current, .inl (G.2.1, o_currentN, .inl o_currentF))]) B [3] rfl rfl (xrunS C0 (c_X3_byteOr0 l G o_current o_currentN o_currentF (x2 - o_step) n r_1 e_2 H.size) kb_X3_byteOr0 kv_X3_byteOr0 wd_204 rfl rfl ⟨Nat.le_of_ble_eq_true rfl, Nat.le_of_ble_eq_true rfl⟩ rfl hl rfl (Nat.le_of_ble_eq_true rfl) dX3_guess_10 ⟨Nat.le_of_ble_eq_true rfl, Nat.le_of_ble_eq_true rfl⟩) (fun H locs B => ?_)
  refine lv_istore_n (lv' := [(3, .int r_1), (0, .ref o), (1, .int x1), (2, .int x2)]) hx hb dX3_guess_13 rfl hl (by decide) rfl (fun ls hl => ?_)
  refine lv_aload_n hx hb dX3_guess_14 rfl (lv_at hl 1 rfl) ?_
  refine xget (v := .ref o_above) C0 B inX3 0 rfl rfl 5 (by decide) wd_186 rfl dX3_guess_15 ?_
  refine lv_iload_n hx hb dX3_guess_18 rfl (lv_at hl 3 rfl) ?_
  obtain ⟨r_3, e_4, h⟩ := xb_spec h
  refine xcallR (wc := [(o_above, .inl (G.2.1, o_aboveN, .inl o_aboveF))]) B [4] rfl rfl (xrunS C0 (c_X3_byteOr0 l G o_above o_aboveN o_aboveF x2 n r_3 e_4 H.size) kb_X3_byteOr0 kv_X3_byteOr0 wd_204 rfl rfl ⟨Nat.le_of_ble_eq_true rfl, Nat.le_of_ble_eq_true rfl⟩ rfl hl rfl (Nat.le_of_ble_eq_true rfl) dX3_guess_19 ⟨Nat.le_of_ble_eq_true rfl, Nat.le_of_ble_eq_true rfl⟩) (fun H locs B => ?_)
  refine lv_istore (lv' := [(4, .int r_3), (3, .int r_1), (0, .ref o), (1, .int x1), (2, .int x2)]) hx hb dX3_guess_22 hl (by decide) rfl (fun ls hl => ?_)
  refine lv_iload_n hx hb dX3_guess_24 rfl (lv_at hl 3 rfl) ?_
  rcases Classical.em (x1 = (1 : Int32)) with c_5 | c_5
  · have h := oif_t h c_5
    refine lv_tableIn (tgt := 56) hx hb dX3_guess_25 (by rw [c_5]; decide) (by rw [c_5]; decide) (off := 31) (by rw [c_5]; decide) (by decide) ?_
    refine lv_iload_n hx hb dX3_guess_56 rfl (lv_at hl 1 rfl) ?_
    obtain rfl := Option.some.inj h
    exact xretiR C0 B dX3_guess_57
  · have h := oif_f h c_5
    rcases Classical.em (x1 = (2 : Int32)) with c_6 | c_6
    · have h := oif_t h c_6
      refine lv_tableIn (tgt := 58) hx hb dX3_guess_25 (by rw [c_6]; decide) (by rw [c_6]; decide) (off := 33) (by rw [c_6]; decide) (by decide) ?_
      refine lv_iload hx hb dX3_guess_58 (lv_at hl 0 rfl) ?_
      obtain rfl := Option.some.inj h
      exact xretiR C0 B dX3_guess_60
    · have h := oif_f h c_6
      rcases Classical.em (x1 = (3 : Int32)) with c_7 | c_7
      · have h := oif_t h c_7
        refine lv_tableIn (tgt := 61) hx hb dX3_guess_25 (by rw [c_7]; decide) (by rw [c_7]; decide) (off := 36) (by rw [c_7]; decide) (by decide) ?_
        refine lv_iload_n hx hb dX3_guess_61 rfl (lv_at hl 1 rfl) ?_
        refine lv_iload hx hb dX3_guess_62 (lv_at hl 0 rfl) ?_
        refine lv_iadd hx hb dX3_guess_64 ?_
        refine lv_iconst (v := 1) hx hb dX3_guess_65 (by decide) ?_
        refine lv_ishr hx hb dX3_guess_66 ?_
        obtain rfl := Option.some.inj h
        exact xretiR C0 B dX3_guess_67
      · have h := oif_f h c_7
        rcases Classical.em (x1 = (4 : Int32)) with c_8 | c_8
        · have h := oif_t h c_8
          refine lv_tableIn (tgt := 68) hx hb dX3_guess_25 (by rw [c_8]; decide) (by rw [c_8]; decide) (off := 43) (by rw [c_8]; decide) (by decide) ?_
          refine lv_iload_n hx hb dX3_guess_68 rfl (lv_at hl 1 rfl) ?_
          refine lv_iload hx hb dX3_guess_69 (lv_at hl 0 rfl) ?_
          refine lv_aload_n hx hb dX3_guess_71 rfl (lv_at hl 2 rfl) ?_
          refine xget (v := .ref o_above) C0 B inX3 0 rfl rfl 5 (by decide) wd_186 rfl dX3_guess_72 ?_
          refine lv_iload_n hx hb dX3_guess_75 rfl (lv_at hl 4 rfl) ?_
          refine lv_aload_n hx hb dX3_guess_76 rfl (lv_at hl 2 rfl) ?_
          refine xget (v := .int o_step) C0 B inX3 0 rfl rfl 0 (by decide) wd_182 rfl dX3_guess_77 ?_
          refine lv_isub hx hb dX3_guess_80 ?_
          obtain ⟨r_9, e_10, h⟩ := xb_spec h
          refine xcallR (wc := [(o_above, .inl (G.2.1, o_aboveN, .inl o_aboveF))]) B [4] rfl rfl (xrunS C0 (c_X3_byteOr0 l G o_above o_aboveN o_aboveF (x2 - o_step) n r_9 e_10 H.size) kb_X3_byteOr0 kv_X3_byteOr0 wd_204 rfl rfl ⟨Nat.le_of_ble_eq_true rfl, Nat.le_of_ble_eq_true rfl⟩ rfl hl rfl (Nat.le_of_ble_eq_true rfl) dX3_guess_81 ⟨Nat.le_of_ble_eq_true rfl, Nat.le_of_ble_eq_true rfl⟩) (fun H locs B => ?_)
          obtain ⟨r_11, e_12, h⟩ := xb_spec h
          refine xcallR (wc := []) B [] rfl rfl (xrunS C0 (c_X3_nearest l G  r_1 r_3 r_9 n r_11 e_12 H.size) kb_X3_nearest kv_X3_nearest wd_210 rfl rfl ⟨Nat.le_of_ble_eq_true rfl, Nat.le_of_ble_eq_true rfl⟩ rfl hl rfl (Nat.le_of_ble_eq_true rfl) dX3_guess_84 ⟨Nat.le_of_ble_eq_true rfl, Nat.le_of_ble_eq_true rfl⟩) (fun H locs B => ?_)
          obtain rfl := Option.some.inj h
          exact xretiR C0 B dX3_guess_87
        · have h := oif_f h c_8
          refine lv_tableOut (tgt := 88) hx hb dX3_guess_25 (xsw_1_4 c_5 c_6 c_7 c_8) (by decide) ?_
          refine lv_iconst (v := 0) hx hb dX3_guess_88 (by decide) ?_
          obtain rfl := Option.some.inj h
          exact xretiR C0 B dX3_guess_89
/-! FilterRows$Rows.restoreLine(LFilterRows$ByteStore;I)V -/
abbrev rm_X3_restoreLine : Room := { frames := 3, cells := 0, slots := 0, locals := 71 }
def fl_X3_restoreLine_28 : Nat → Int32 → Nat → (Nat → Int32) → Nat → (Nat → Int32) → Int32 → Nat → (Nat → Int32) → Int32 → Int32 → Int32 → Int32 → Option (Int32 × (Nat → Int32))
  | 0, _, _, _, _, _, _, _, _, _, _, _, _ => none
  | n + 1, o_step, o_currentN, o_currentF, o_aboveN, o_aboveF, o_length, p1_heldN, p1_heldF, p1_count, y2, y4, y5 => (if o_length ≤ y5 then some (y5, o_currentF) else xb (f_X0_byteOf n p1_heldN p1_heldF p1_count ((y2 + (1 : Int32)) + y5)) (fun r_2 => xb (f_X3_guess n o_step o_currentN o_currentF o_aboveN o_aboveF y4 y5) (fun r_4 => xin y5 o_currentN (fl_X3_restoreLine_28 n o_step o_currentN (upd o_currentF (y5).toNatClampNeg ((r_2 + r_4) &&& (255 : Int32))) o_aboveN o_aboveF o_length p1_heldN p1_heldF p1_count y2 y4 (y5 + (1 : Int32))))))
def f_X3_restoreLine (n : Nat) (o_step : Int32) (o_current : Nat) (o_currentN : Nat) (o_currentF : Nat → Int32) (o_above : Nat) (o_aboveN : Nat) (o_aboveF : Nat → Int32) (o_length : Int32) (p1_heldN : Nat) (p1_heldF : Nat → Int32) (p1_count : Int32) (x2 : Int32) : Option (Nat × Nat × (Nat → Int32) × Nat × Nat × (Nat → Int32)) := xb (f_X0_byteOf n p1_heldN p1_heldF p1_count x2) (fun r_1 => xb (fl_X3_restoreLine_28 n o_step o_aboveN o_aboveF o_currentN o_currentF o_length p1_heldN p1_heldF p1_count x2 r_1 (0 : Int32)) (fun (v_3, w_4) => some (o_above, o_aboveN, w_4, o_current, o_currentN, o_currentF)))
set_option maxHeartbeats 4000000 in
set_option maxRecDepth 100000 in
theorem lo_X3_restoreLine_28 {p : Program} {l : Launch} {e : Env} {s : State} {m : MethodId} {args : Array Value} {below : List Frame} {meth : Method} {c : Code} {Q : State → Prop} {G : xG} {A : Nat → Prop} (C0 : xC p s m args meth c "FilterRows$Rows" cX3_restoreLine 6 none) : ∀ (n : Nat) (o : Nat) (o_step : Int32) (o_seen : Nat) (o_seenN : Nat) (o_seenF : Nat → Int32) (o_counts : Int32) (o_rests : Nat) (o_restsN : Nat) (o_restsF : Nat → Int32) (o_current : Nat) (o_currentN : Nat) (o_currentF : Nat → Int32) (o_above : Nat) (o_aboveN : Nat) (o_aboveF : Nat → Int32) (o_length : Int32) (p1 : Nat) (p1_held : Nat) (p1_heldN : Nat) (p1_heldF : Nat → Int32) (p1_count : Int32) (y2 : Int32) (y4 : Int32) (y5 : Int32) (z5 : Int32) (z_o_currentF : Nat → Int32), fl_X3_restoreLine_28 n o_step o_currentN o_currentF o_aboveN o_aboveF o_length p1_heldN p1_heldF p1_count y2 y4 y5 = some (z5, z_o_currentF) → ∀ (H : Heap) (locs : List Loc) (ls : Array Slot), xW G true A s [(o, .inr (3, [.int o_step, .ref o_seen, .int o_counts, .ref o_rests, .ref o_current, .ref o_above, .int o_length])), (o_seen, .inl (G.2.1, o_seenN, .inl o_seenF)), (o_rests, .inl (G.2.1, o_restsN, .inl o_restsF)), (o_current, .inl (G.2.1, o_currentN, .inl o_currentF)), (o_above, .inl (G.2.1, o_aboveN, .inl o_aboveF)), (p1, .inr (0, [.ref p1_held, .int p1_count])), (p1_held, .inl (G.2.1, p1_heldN, .inl p1_heldF))] H locs → lv_has ls 6 [(0, .ref o), (1, .ref p1), (2, .int y2), (3, .ref o_above), (4, .int y4), (5, .int y5)] → (∀ (H : Heap) (locs : List Loc) (ls : Array Slot), xW G true A s [(o, .inr (3, [.int o_step, .ref o_seen, .int o_counts, .ref o_rests, .ref o_current, .ref o_above, .int o_length])), (o_seen, .inl (G.2.1, o_seenN, .inl o_seenF)), (o_rests, .inl (G.2.1, o_restsN, .inl o_restsF)), (o_current, .inl (G.2.1, o_currentN, .inl z_o_currentF)), (o_above, .inl (G.2.1, o_aboveN, .inl o_aboveF)), (p1, .inr (0, [.ref p1_held, .int p1_count])), (p1_held, .inl (G.2.1, p1_heldN, .inl p1_heldF))] H locs → lv_has ls 6 [(0, .ref o), (1, .ref p1), (2, .int y2), (3, .ref o_above), (4, .int y4), (5, .int z5)] → W p l e rm_X3_restoreLine s m args below meth c H locs 0 0 Q (F0 m 73 ls [])) → W p l e rm_X3_restoreLine s m args below meth c H locs 0 0 Q (F0 m 28 ls []) := by
  obtain ⟨hx, hb, hr, hml, hown, hts, hlk⟩ := id C0
  intro n
  induction n with
  | zero =>
    intro o o_step o_seen o_seenN o_seenF o_counts o_rests o_restsN o_restsF o_current o_currentN o_currentF o_above o_aboveN o_aboveF o_length p1 p1_held p1_heldN p1_heldF p1_count y2 y4 y5 z5 z_o_currentF h
    rw [fl_X3_restoreLine_28] at h
    cases h
  | succ n ih =>
    intro o o_step o_seen o_seenN o_seenF o_counts o_rests o_restsN o_restsF o_current o_currentN o_currentF o_above o_aboveN o_aboveF o_length p1 p1_held p1_heldN p1_heldF p1_count y2 y4 y5 z5 z_o_currentF h H locs ls B hl K
    rw [fl_X3_restoreLine_28] at h
    refine lv_iload hx hb dX3_restoreLine_28 (lv_at hl 5 rfl) ?_
    refine lv_aload_n hx hb dX3_restoreLine_30 rfl (lv_at hl 0 rfl) ?_
    refine xget (v := .int o_length) C0 B inX3 0 rfl rfl 6 (by decide) wd_192 rfl dX3_restoreLine_31 ?_
    refine lv_icmp_ge (tgt := 73) hx hb dX3_restoreLine_34 (by decide) (fun c_1 => ?_) (fun c_1 => ?_)
    · have h := oif_t h c_1
      obtain ⟨g1, k1⟩ := Prod.mk.inj (Option.some.inj h)
      subst g1 k1
      exact K H locs ls (B.sub [0, 1, 2, 3, 4, 5, 6] rfl rfl) (lv_sub hl [0, 1, 2, 3, 4, 5] rfl)
    · have h := oif_f h c_1
      refine lv_aload_n hx hb dX3_restoreLine_37 rfl (lv_at hl 0 rfl) ?_
      refine xget (v := .ref o_current) C0 B inX3 0 rfl rfl 4 (by decide) wd_185 rfl dX3_restoreLine_38 ?_
      refine lv_iload hx hb dX3_restoreLine_41 (lv_at hl 5 rfl) ?_
      refine lv_aload_n hx hb dX3_restoreLine_43 rfl (lv_at hl 1 rfl) ?_
      refine lv_iload_n hx hb dX3_restoreLine_44 rfl (lv_at hl 2 rfl) ?_
      refine lv_iconst (v := 1) hx hb dX3_restoreLine_45 (by decide) ?_
      refine lv_iadd hx hb dX3_restoreLine_46 ?_
      refine lv_iload hx hb dX3_restoreLine_47 (lv_at hl 5 rfl) ?_
      refine lv_iadd hx hb dX3_restoreLine_49 ?_
      obtain ⟨r_2, e_3, h⟩ := xb_spec h
      refine xcallR (wc := [(p1, .inr (0, [.ref p1_held, .int p1_count])), (p1_held, .inl (G.2.1, p1_heldN, .inl p1_heldF))]) B [5, 6] rfl rfl (xrunV C0 (c_X0_byteOf l G p1 p1_held p1_heldN p1_heldF p1_count ((y2 + (1 : Int32)) + y5) n r_2 e_3 H.size) kb_X0_byteOf kv_X0_byteOf wd_201 (ci := 0) rfl rfl rfl rfl rfl ⟨Nat.le_of_ble_eq_true rfl, Nat.le_of_ble_eq_true rfl⟩ rfl hl rfl (Nat.le_of_ble_eq_true rfl) dX3_restoreLine_50 ⟨Nat.le_of_ble_eq_true rfl, Nat.le_of_ble_eq_true rfl⟩) (fun H locs B => ?_)
      refine lv_aload_n hx hb dX3_restoreLine_53 rfl (lv_at hl 0 rfl) ?_
      refine lv_iload hx hb dX3_restoreLine_54 (lv_at hl 4 rfl) ?_
      refine lv_iload hx hb dX3_restoreLine_56 (lv_at hl 5 rfl) ?_
      obtain ⟨r_4, e_5, h⟩ := xb_spec h
      refine xcallR (wc := [(o, .inr (3, [.int o_step, .ref o_seen, .int o_counts, .ref o_rests, .ref o_current, .ref o_above, .int o_length])), (o_seen, .inl (G.2.1, o_seenN, .inl o_seenF)), (o_rests, .inl (G.2.1, o_restsN, .inl o_restsF)), (o_current, .inl (G.2.1, o_currentN, .inl o_currentF)), (o_above, .inl (G.2.1, o_aboveN, .inl o_aboveF))]) B [0, 1, 2, 3, 4] rfl rfl (xrunV C0 (c_X3_guess l G o o_step o_seen o_seenN o_seenF o_counts o_rests o_restsN o_restsF o_current o_currentN o_currentF o_above o_aboveN o_aboveF o_length y4 y5 n r_4 e_5 H.size) kb_X3_guess kv_X3_guess wd_214 (ci := 3) rfl rfl rfl rfl rfl ⟨Nat.le_of_ble_eq_true rfl, Nat.le_of_ble_eq_true rfl⟩ rfl hl rfl (Nat.le_of_ble_eq_true rfl) dX3_restoreLine_58 ⟨Nat.le_of_ble_eq_true rfl, Nat.le_of_ble_eq_true rfl⟩) (fun H locs B => ?_)
      refine lv_iadd hx hb dX3_restoreLine_61 ?_
      refine lv_sipush (v := 255) hx hb dX3_restoreLine_62 (by decide) ?_
      refine lv_iand hx hb dX3_restoreLine_65 ?_
      obtain ⟨b_6, h⟩ := xin_spec h
      refine xiast (ws' := [(o, .inr (3, [.int o_step, .ref o_seen, .int o_counts, .ref o_rests, .ref o_current, .ref o_above, .int o_length])), (o_seen, .inl (G.2.1, o_seenN, .inl o_seenF)), (o_rests, .inl (G.2.1, o_restsN, .inl o_restsF)), (o_current, .inl (G.2.1, o_currentN, .inl (upd o_currentF (y5).toNatClampNeg ((r_2 + r_4) &&& (255 : Int32))))), (o_above, .inl (G.2.1, o_aboveN, .inl o_aboveF)), (p1, .inr (0, [.ref p1_held, .int p1_count])), (p1_held, .inl (G.2.1, p1_heldN, .inl p1_heldF))]) C0 B 3 rfl b_6 rfl dX3_restoreLine_66 (fun H locs B => ?_)
      refine lv_iinc (v := (y5 + (1 : Int32))) (lv' := [(5, .int (y5 + (1 : Int32))), (0, .ref o), (1, .ref p1), (2, .int y2), (3, .ref o_above), (4, .int y4)]) hx hb dX3_restoreLine_67 hl (k := 5) rfl rfl (by decide) rfl (fun ls hl => ?_)
      refine lv_goto (tgt := 28) hx hb dX3_restoreLine_70 (by decide) ?_
      exact ih o o_step o_seen o_seenN o_seenF o_counts o_rests o_restsN o_restsF o_current o_currentN (upd o_currentF (y5).toNatClampNeg ((r_2 + r_4) &&& (255 : Int32))) o_above o_aboveN o_aboveF o_length p1 p1_held p1_heldN p1_heldF p1_count y2 y4 (y5 + (1 : Int32)) _ _ h H locs ls (B.sub [0, 1, 2, 3, 4, 5, 6] rfl rfl) (lv_sub hl [1, 2, 3, 4, 5, 0] rfl) K
set_option maxHeartbeats 4000000 in
set_option maxRecDepth 100000 in
theorem c_X3_restoreLine (l : Launch) (G : xG) (o : Nat) (o_step : Int32) (o_seen : Nat) (o_seenN : Nat) (o_seenF : Nat → Int32) (o_counts : Int32) (o_rests : Nat) (o_restsN : Nat) (o_restsF : Nat → Int32) (o_current : Nat) (o_currentN : Nat) (o_currentF : Nat → Int32) (o_above : Nat) (o_aboveN : Nat) (o_aboveF : Nat → Int32) (o_length : Int32) (p1 : Nat) (p1_held : Nat) (p1_heldN : Nat) (p1_heldF : Nat → Int32) (p1_count : Int32) (x2 : Int32) (n : Nat) (z_o_current : Nat) (z_o_currentN : Nat) (z_o_currentF : Nat → Int32) (z_o_above : Nat) (z_o_aboveN : Nat) (z_o_aboveF : Nat → Int32) (hF : f_X3_restoreLine n o_step o_current o_currentN o_currentF o_above o_aboveN o_aboveF o_length p1_heldN p1_heldF p1_count x2 = some (z_o_current, z_o_currentN, z_o_currentF, z_o_above, z_o_aboveN, z_o_aboveF)) (sz : Nat) : Met l yX3_restoreLine (xws yX3_restoreLine cX3_restoreLine 6 none) rm_X3_restoreLine (va_Pc [.ref o, .ref p1, .int x2] (xPre G [(o, .inr (3, [.int o_step, .ref o_seen, .int o_counts, .ref o_rests, .ref o_current, .ref o_above, .int o_length])), (o_seen, .inl (G.2.1, o_seenN, .inl o_seenF)), (o_rests, .inl (G.2.1, o_restsN, .inl o_restsF)), (o_current, .inl (G.2.1, o_currentN, .inl o_currentF)), (o_above, .inl (G.2.1, o_aboveN, .inl o_aboveF)), (p1, .inr (0, [.ref p1_held, .int p1_count])), (p1_held, .inl (G.2.1, p1_heldN, .inl p1_heldF))] sz)) (xQ G none [(o, .inr (3, [.int o_step, .ref o_seen, .int o_counts, .ref o_rests, .ref z_o_current, .ref z_o_above, .int o_length])), (o_seen, .inl (G.2.1, o_seenN, .inl o_seenF)), (o_rests, .inl (G.2.1, o_restsN, .inl o_restsF)), (z_o_current, .inl (G.2.1, z_o_currentN, .inl z_o_currentF)), (z_o_above, .inl (G.2.1, z_o_aboveN, .inl z_o_aboveF)), (p1, .inr (0, [.ref p1_held, .int p1_count])), (p1_held, .inl (G.2.1, p1_heldN, .inl p1_heldF))] (va_A [(o, .inr (3, [.int o_step, .ref o_seen, .int o_counts, .ref o_rests, .ref o_current, .ref o_above, .int o_length])), (o_seen, .inl (G.2.1, o_seenN, .inl o_seenF)), (o_rests, .inl (G.2.1, o_restsN, .inl o_restsF)), (o_current, .inl (G.2.1, o_currentN, .inl o_currentF)), (o_above, .inl (G.2.1, o_aboveN, .inl o_aboveF)), (p1, .inr (0, [.ref p1_held, .int p1_count])), (p1_held, .inl (G.2.1, p1_heldN, .inl p1_heldF))] sz)) 0 0 (va_A [(o, .inr (3, [.int o_step, .ref o_seen, .int o_counts, .ref o_rests, .ref o_current, .ref o_above, .int o_length])), (o_seen, .inl (G.2.1, o_seenN, .inl o_seenF)), (o_rests, .inl (G.2.1, o_restsN, .inl o_restsF)), (o_current, .inl (G.2.1, o_currentN, .inl o_currentF)), (o_above, .inl (G.2.1, o_aboveN, .inl o_aboveF)), (p1, .inr (0, [.ref p1_held, .int p1_count])), (p1_held, .inl (G.2.1, p1_heldN, .inl p1_heldF))] sz) := by
  refine xMetQ (by decide) (Nat.le_of_ble_eq_true rfl) ?_
  intro p e s m below meth c ls A H locs C0 hnm B hl
  have hl : lv_has ls 6 [(0, .ref o), (1, .ref p1), (2, .int x2)] := hl
  have h := hF
  unfold f_X3_restoreLine at h
  obtain ⟨hx, hb, hr, hml, hown, hts, hlk⟩ := id C0
  refine lv_aload_n hx hb dX3_restoreLine_0 rfl (lv_at hl 0 rfl) ?_
  refine xget (v := .ref o_current) C0 B inX3 0 rfl rfl 4 (by decide) wd_185 rfl dX3_restoreLine_1 ?_
  refine lv_astore_n (lv' := [(3, .ref o_current), (0, .ref o), (1, .ref p1), (2, .int x2)]) hx hb dX3_restoreLine_4 rfl hl (by decide) rfl (fun ls hl => ?_)
  refine lv_aload_n hx hb dX3_restoreLine_5 rfl (lv_at hl 1 rfl) ?_
  refine lv_aload_n hx hb dX3_restoreLine_6 rfl (lv_at hl 1 rfl) ?_
  refine xget (v := .ref o_above) C0 B inX3 0 rfl rfl 5 (by decide) wd_186 rfl dX3_restoreLine_7 ?_
  refine xput (ws' := [(o, .inr (3, [.int o_step, .ref o_seen, .int o_counts, .ref o_rests, .ref o_above, .ref o_above, .int o_length])), (o_seen, .inl (G.2.1, o_seenN, .inl o_seenF)), (o_rests, .inl (G.2.1, o_restsN, .inl o_restsF)), (o_current, .inl (G.2.1, o_currentN, .inl o_currentF)), (o_above, .inl (G.2.1, o_aboveN, .inl o_aboveF)), (p1, .inr (0, [.ref p1_held, .int p1_count])), (p1_held, .inl (G.2.1, p1_heldN, .inl p1_heldF))]) C0 B inX3 tyX3 tyX3_ok nmX3 0 rfl rfl 4 (by decide) wd_185 rfl rfl rfl (Nat.le_of_ble_eq_true rfl) rfl dX3_restoreLine_10 (fun H locs B => ?_)
  refine lv_aload_n hx hb dX3_restoreLine_13 rfl (lv_at hl 1 rfl) ?_
  refine lv_aload_n hx hb dX3_restoreLine_14 rfl (lv_at hl 0 rfl) ?_
  refine xput (ws' := [(o, .inr (3, [.int o_step, .ref o_seen, .int o_counts, .ref o_rests, .ref o_above, .ref o_current, .int o_length])), (o_seen, .inl (G.2.1, o_seenN, .inl o_seenF)), (o_rests, .inl (G.2.1, o_restsN, .inl o_restsF)), (o_current, .inl (G.2.1, o_currentN, .inl o_currentF)), (o_above, .inl (G.2.1, o_aboveN, .inl o_aboveF)), (p1, .inr (0, [.ref p1_held, .int p1_count])), (p1_held, .inl (G.2.1, p1_heldN, .inl p1_heldF))]) C0 B inX3 tyX3 tyX3_ok nmX3 0 rfl rfl 5 (by decide) wd_186 rfl rfl rfl (Nat.le_of_ble_eq_true rfl) rfl dX3_restoreLine_15 (fun H locs B => ?_)
  refine lv_aload_n hx hb dX3_restoreLine_18 rfl (lv_at hl 2 rfl) ?_
  refine lv_iload_n hx hb dX3_restoreLine_19 rfl (lv_at hl 3 rfl) ?_
  obtain ⟨r_1, e_2, h⟩ := xb_spec h
  refine xcallR (wc := [(p1, .inr (0, [.ref p1_held, .int p1_count])), (p1_held, .inl (G.2.1, p1_heldN, .inl p1_heldF))]) B [5, 6] rfl rfl (xrunV C0 (c_X0_byteOf l G p1 p1_held p1_heldN p1_heldF p1_count x2 n r_1 e_2 H.size) kb_X0_byteOf kv_X0_byteOf wd_201 (ci := 0) rfl rfl rfl rfl rfl ⟨Nat.le_of_ble_eq_true rfl, Nat.le_of_ble_eq_true rfl⟩ rfl hl rfl (Nat.le_of_ble_eq_true rfl) dX3_restoreLine_20 ⟨Nat.le_of_ble_eq_true rfl, Nat.le_of_ble_eq_true rfl⟩) (fun H locs B => ?_)
  refine lv_istore (lv' := [(4, .int r_1), (3, .ref o_current), (0, .ref o), (1, .ref p1), (2, .int x2)]) hx hb dX3_restoreLine_23 hl (by decide) rfl (fun ls hl => ?_)
  refine lv_iconst (v := 0) hx hb dX3_restoreLine_25 (by decide) ?_
  refine lv_istore (lv' := [(5, .int (0 : Int32)), (4, .int r_1), (3, .ref o_current), (0, .ref o), (1, .ref p1), (2, .int x2)]) hx hb dX3_restoreLine_26 hl (by decide) rfl (fun ls hl => ?_)
  obtain ⟨⟨v_3, w_4⟩, e_5, h⟩ := xb_spec h
  refine lo_X3_restoreLine_28 C0 n o o_step o_seen o_seenN o_seenF o_counts o_rests o_restsN o_restsF o_above o_aboveN o_aboveF o_current o_currentN o_currentF o_length p1 p1_held p1_heldN p1_heldF p1_count x2 r_1 (0 : Int32) v_3 w_4 e_5 H locs ls (B.sub [0, 1, 2, 4, 3, 5, 6] rfl rfl) (lv_sub hl [3, 4, 5, 2, 1, 0] rfl) (fun H locs ls B hl => ?_)
  obtain ⟨g1, k1⟩ := Prod.mk.inj (Option.some.inj h)
  obtain ⟨g2, k2⟩ := Prod.mk.inj k1
  obtain ⟨g3, k3⟩ := Prod.mk.inj k2
  obtain ⟨g4, k4⟩ := Prod.mk.inj k3
  obtain ⟨g5, k5⟩ := Prod.mk.inj k4
  subst g1 g2 g3 g4 g5 k5
  exact xretv C0 B [0, 1, 2, 3, 4, 5, 6] rfl rfl dX3_restoreLine_73
/-! FilterRows$Rows.filterLine(I)V -/
abbrev rm_X3_filterLine : Room := { frames := 3, cells := 0, slots := 0, locals := 71 }
def fl_X3_filterLine_2 : Nat → Int32 → Nat → (Nat → Int32) → Nat → (Nat → Int32) → Nat → (Nat → Int32) → Int32 → Int32 → Int32 → Option (Int32 × (Nat → Int32))
  | 0, _, _, _, _, _, _, _, _, _, _ => none
  | n + 1, o_step, o_restsN, o_restsF, o_currentN, o_currentF, o_aboveN, o_aboveF, o_length, y1, y2 => (if o_length ≤ y2 then some (y2, o_restsF) else xin y2 o_currentN (xb (f_X3_guess n o_step o_currentN o_currentF o_aboveN o_aboveF y1 y2) (fun r_3 => xin y2 o_restsN (fl_X3_filterLine_2 n o_step o_restsN (upd o_restsF (y2).toNatClampNeg (((o_currentF (y2).toNatClampNeg) - r_3) &&& (255 : Int32))) o_currentN o_currentF o_aboveN o_aboveF o_length y1 (y2 + (1 : Int32))))))
def f_X3_filterLine (n : Nat) (o_step : Int32) (o_restsN : Nat) (o_restsF : Nat → Int32) (o_currentN : Nat) (o_currentF : Nat → Int32) (o_aboveN : Nat) (o_aboveF : Nat → Int32) (o_length : Int32) (x1 : Int32) : Option (Nat → Int32) := xb (fl_X3_filterLine_2 n o_step o_restsN o_restsF o_currentN o_currentF o_aboveN o_aboveF o_length x1 (0 : Int32)) (fun (v_1, w_2) => some w_2)
set_option maxHeartbeats 4000000 in
set_option maxRecDepth 100000 in
theorem lo_X3_filterLine_2 {p : Program} {l : Launch} {e : Env} {s : State} {m : MethodId} {args : Array Value} {below : List Frame} {meth : Method} {c : Code} {Q : State → Prop} {G : xG} {A : Nat → Prop} (C0 : xC p s m args meth c "FilterRows$Rows" cX3_filterLine 3 none) : ∀ (n : Nat) (o : Nat) (o_step : Int32) (o_seen : Nat) (o_seenN : Nat) (o_seenF : Nat → Int32) (o_counts : Int32) (o_rests : Nat) (o_restsN : Nat) (o_restsF : Nat → Int32) (o_current : Nat) (o_currentN : Nat) (o_currentF : Nat → Int32) (o_above : Nat) (o_aboveN : Nat) (o_aboveF : Nat → Int32) (o_length : Int32) (y1 : Int32) (y2 : Int32) (z2 : Int32) (z_o_restsF : Nat → Int32), fl_X3_filterLine_2 n o_step o_restsN o_restsF o_currentN o_currentF o_aboveN o_aboveF o_length y1 y2 = some (z2, z_o_restsF) → ∀ (H : Heap) (locs : List Loc) (ls : Array Slot), xW G true A s [(o, .inr (3, [.int o_step, .ref o_seen, .int o_counts, .ref o_rests, .ref o_current, .ref o_above, .int o_length])), (o_seen, .inl (G.2.1, o_seenN, .inl o_seenF)), (o_rests, .inl (G.2.1, o_restsN, .inl o_restsF)), (o_current, .inl (G.2.1, o_currentN, .inl o_currentF)), (o_above, .inl (G.2.1, o_aboveN, .inl o_aboveF))] H locs → lv_has ls 3 [(0, .ref o), (1, .int y1), (2, .int y2)] → (∀ (H : Heap) (locs : List Loc) (ls : Array Slot), xW G true A s [(o, .inr (3, [.int o_step, .ref o_seen, .int o_counts, .ref o_rests, .ref o_current, .ref o_above, .int o_length])), (o_seen, .inl (G.2.1, o_seenN, .inl o_seenF)), (o_rests, .inl (G.2.1, o_restsN, .inl z_o_restsF)), (o_current, .inl (G.2.1, o_currentN, .inl o_currentF)), (o_above, .inl (G.2.1, o_aboveN, .inl o_aboveF))] H locs → lv_has ls 3 [(0, .ref o), (1, .int y1), (2, .int z2)] → W p l e rm_X3_filterLine s m args below meth c H locs 0 0 Q (F0 m 39 ls [])) → W p l e rm_X3_filterLine s m args below meth c H locs 0 0 Q (F0 m 2 ls []) := by
  obtain ⟨hx, hb, hr, hml, hown, hts, hlk⟩ := id C0
  intro n
  induction n with
  | zero =>
    intro o o_step o_seen o_seenN o_seenF o_counts o_rests o_restsN o_restsF o_current o_currentN o_currentF o_above o_aboveN o_aboveF o_length y1 y2 z2 z_o_restsF h
    rw [fl_X3_filterLine_2] at h
    cases h
  | succ n ih =>
    intro o o_step o_seen o_seenN o_seenF o_counts o_rests o_restsN o_restsF o_current o_currentN o_currentF o_above o_aboveN o_aboveF o_length y1 y2 z2 z_o_restsF h H locs ls B hl K
    rw [fl_X3_filterLine_2] at h
    refine lv_iload_n hx hb dX3_filterLine_2 rfl (lv_at hl 2 rfl) ?_
    refine lv_aload_n hx hb dX3_filterLine_3 rfl (lv_at hl 0 rfl) ?_
    refine xget (v := .int o_length) C0 B inX3 0 rfl rfl 6 (by decide) wd_192 rfl dX3_filterLine_4 ?_
    refine lv_icmp_ge (tgt := 39) hx hb dX3_filterLine_7 (by decide) (fun c_1 => ?_) (fun c_1 => ?_)
    · have h := oif_t h c_1
      obtain ⟨g1, k1⟩ := Prod.mk.inj (Option.some.inj h)
      subst g1 k1
      exact K H locs ls (B.sub [0, 1, 2, 3, 4] rfl rfl) (lv_sub hl [0, 1, 2] rfl)
    · have h := oif_f h c_1
      refine lv_aload_n hx hb dX3_filterLine_10 rfl (lv_at hl 0 rfl) ?_
      refine xget (v := .ref o_rests) C0 B inX3 0 rfl rfl 3 (by decide) wd_184 rfl dX3_filterLine_11 ?_
      refine lv_iload_n hx hb dX3_filterLine_14 rfl (lv_at hl 2 rfl) ?_
      refine lv_aload_n hx hb dX3_filterLine_15 rfl (lv_at hl 0 rfl) ?_
      refine xget (v := .ref o_current) C0 B inX3 0 rfl rfl 4 (by decide) wd_185 rfl dX3_filterLine_16 ?_
      refine lv_iload_n hx hb dX3_filterLine_19 rfl (lv_at hl 2 rfl) ?_
      obtain ⟨b_2, h⟩ := xin_spec h
      refine xiald C0 B 3 rfl b_2 dX3_filterLine_20 ?_
      refine lv_aload_n hx hb dX3_filterLine_21 rfl (lv_at hl 0 rfl) ?_
      refine lv_iload_n hx hb dX3_filterLine_22 rfl (lv_at hl 1 rfl) ?_
      refine lv_iload_n hx hb dX3_filterLine_23 rfl (lv_at hl 2 rfl) ?_
      obtain ⟨r_3, e_4, h⟩ := xb_spec h
      refine xcallR (wc := [(o, .inr (3, [.int o_step, .ref o_seen, .int o_counts, .ref o_rests, .ref o_current, .ref o_above, .int o_length])), (o_seen, .inl (G.2.1, o_seenN, .inl o_seenF)), (o_rests, .inl (G.2.1, o_restsN, .inl o_restsF)), (o_current, .inl (G.2.1, o_currentN, .inl o_currentF)), (o_above, .inl (G.2.1, o_aboveN, .inl o_aboveF))]) B [0, 1, 2, 3, 4] rfl rfl (xrunV C0 (c_X3_guess l G o o_step o_seen o_seenN o_seenF o_counts o_rests o_restsN o_restsF o_current o_currentN o_currentF o_above o_aboveN o_aboveF o_length y1 y2 n r_3 e_4 H.size) kb_X3_guess kv_X3_guess wd_214 (ci := 3) rfl rfl rfl rfl rfl ⟨Nat.le_of_ble_eq_true rfl, Nat.le_of_ble_eq_true rfl⟩ rfl hl rfl (Nat.le_of_ble_eq_true rfl) dX3_filterLine_24 ⟨Nat.le_of_ble_eq_true rfl, Nat.le_of_ble_eq_true rfl⟩) (fun H locs B => ?_)
      refine lv_isub hx hb dX3_filterLine_27 ?_
      refine lv_sipush (v := 255) hx hb dX3_filterLine_28 (by decide) ?_
      refine lv_iand hx hb dX3_filterLine_31 ?_
      obtain ⟨b_5, h⟩ := xin_spec h
      refine xiast (ws' := [(o, .inr (3, [.int o_step, .ref o_seen, .int o_counts, .ref o_rests, .ref o_current, .ref o_above, .int o_length])), (o_seen, .inl (G.2.1, o_seenN, .inl o_seenF)), (o_rests, .inl (G.2.1, o_restsN, .inl (upd o_restsF (y2).toNatClampNeg (((o_currentF (y2).toNatClampNeg) - r_3) &&& (255 : Int32))))), (o_current, .inl (G.2.1, o_currentN, .inl o_currentF)), (o_above, .inl (G.2.1, o_aboveN, .inl o_aboveF))]) C0 B 2 rfl b_5 rfl dX3_filterLine_32 (fun H locs B => ?_)
      refine lv_iinc (v := (y2 + (1 : Int32))) (lv' := [(2, .int (y2 + (1 : Int32))), (0, .ref o), (1, .int y1)]) hx hb dX3_filterLine_33 hl (k := 2) rfl rfl (by decide) rfl (fun ls hl => ?_)
      refine lv_goto (tgt := 2) hx hb dX3_filterLine_36 (by decide) ?_
      exact ih o o_step o_seen o_seenN o_seenF o_counts o_rests o_restsN (upd o_restsF (y2).toNatClampNeg (((o_currentF (y2).toNatClampNeg) - r_3) &&& (255 : Int32))) o_current o_currentN o_currentF o_above o_aboveN o_aboveF o_length y1 (y2 + (1 : Int32)) _ _ h H locs ls (B.sub [0, 1, 2, 3, 4] rfl rfl) (lv_sub hl [1, 2, 0] rfl) K
set_option maxHeartbeats 4000000 in
set_option maxRecDepth 100000 in
theorem c_X3_filterLine (l : Launch) (G : xG) (o : Nat) (o_step : Int32) (o_seen : Nat) (o_seenN : Nat) (o_seenF : Nat → Int32) (o_counts : Int32) (o_rests : Nat) (o_restsN : Nat) (o_restsF : Nat → Int32) (o_current : Nat) (o_currentN : Nat) (o_currentF : Nat → Int32) (o_above : Nat) (o_aboveN : Nat) (o_aboveF : Nat → Int32) (o_length : Int32) (x1 : Int32) (n : Nat) (z_o_restsF : Nat → Int32) (hF : f_X3_filterLine n o_step o_restsN o_restsF o_currentN o_currentF o_aboveN o_aboveF o_length x1 = some z_o_restsF) (sz : Nat) : Met l yX3_filterLine (xws yX3_filterLine cX3_filterLine 3 none) rm_X3_filterLine (va_Pc [.ref o, .int x1] (xPre G [(o, .inr (3, [.int o_step, .ref o_seen, .int o_counts, .ref o_rests, .ref o_current, .ref o_above, .int o_length])), (o_seen, .inl (G.2.1, o_seenN, .inl o_seenF)), (o_rests, .inl (G.2.1, o_restsN, .inl o_restsF)), (o_current, .inl (G.2.1, o_currentN, .inl o_currentF)), (o_above, .inl (G.2.1, o_aboveN, .inl o_aboveF))] sz)) (xQ G none [(o, .inr (3, [.int o_step, .ref o_seen, .int o_counts, .ref o_rests, .ref o_current, .ref o_above, .int o_length])), (o_seen, .inl (G.2.1, o_seenN, .inl o_seenF)), (o_rests, .inl (G.2.1, o_restsN, .inl z_o_restsF)), (o_current, .inl (G.2.1, o_currentN, .inl o_currentF)), (o_above, .inl (G.2.1, o_aboveN, .inl o_aboveF))] (va_A [(o, .inr (3, [.int o_step, .ref o_seen, .int o_counts, .ref o_rests, .ref o_current, .ref o_above, .int o_length])), (o_seen, .inl (G.2.1, o_seenN, .inl o_seenF)), (o_rests, .inl (G.2.1, o_restsN, .inl o_restsF)), (o_current, .inl (G.2.1, o_currentN, .inl o_currentF)), (o_above, .inl (G.2.1, o_aboveN, .inl o_aboveF))] sz)) 0 0 (va_A [(o, .inr (3, [.int o_step, .ref o_seen, .int o_counts, .ref o_rests, .ref o_current, .ref o_above, .int o_length])), (o_seen, .inl (G.2.1, o_seenN, .inl o_seenF)), (o_rests, .inl (G.2.1, o_restsN, .inl o_restsF)), (o_current, .inl (G.2.1, o_currentN, .inl o_currentF)), (o_above, .inl (G.2.1, o_aboveN, .inl o_aboveF))] sz) := by
  refine xMetQ (by decide) (Nat.le_of_ble_eq_true rfl) ?_
  intro p e s m below meth c ls A H locs C0 hnm B hl
  have hl : lv_has ls 3 [(0, .ref o), (1, .int x1)] := hl
  have h := hF
  unfold f_X3_filterLine at h
  obtain ⟨hx, hb, hr, hml, hown, hts, hlk⟩ := id C0
  refine lv_iconst (v := 0) hx hb dX3_filterLine_0 (by decide) ?_
  refine lv_istore_n (lv' := [(2, .int (0 : Int32)), (0, .ref o), (1, .int x1)]) hx hb dX3_filterLine_1 rfl hl (by decide) rfl (fun ls hl => ?_)
  obtain ⟨⟨v_1, w_2⟩, e_3, h⟩ := xb_spec h
  refine lo_X3_filterLine_2 C0 n o o_step o_seen o_seenN o_seenF o_counts o_rests o_restsN o_restsF o_current o_currentN o_currentF o_above o_aboveN o_aboveF o_length x1 (0 : Int32) v_1 w_2 e_3 H locs ls (B.sub [0, 1, 2, 3, 4] rfl rfl) (lv_sub hl [1, 2, 0] rfl) (fun H locs ls B hl => ?_)
  obtain rfl := Option.some.inj h
  exact xretv C0 B [0, 1, 2, 3, 4] rfl rfl dX3_filterLine_39
/-! FilterRows$Rows.differentRests()I -/
abbrev rm_X3_differentRests : Room := { frames := 0, cells := 0, slots := 0, locals := 0 }
def fl_X3_differentRests_14 : Nat → Nat → (Nat → Int32) → Int32 → Nat → (Nat → Int32) → Int32 → Int32 → Int32 → Option (Int32 × Int32 × (Nat → Int32))
  | 0, _, _, _, _, _, _, _, _ => none
  | n + 1, o_seenN, o_seenF, o_counts, o_restsN, o_restsF, o_length, y1, y2 => (if o_length ≤ y2 then some (y1, y2, o_seenF) else xin y2 o_restsN (xl ((o_restsF (y2).toNatClampNeg) &&& (255 : Int32)) (fun s_3 => xin s_3 o_seenN ((if (o_seenF (s_3).toNatClampNeg) = o_counts then xin s_3 o_seenN (fl_X3_differentRests_14 n o_seenN (upd o_seenF (s_3).toNatClampNeg o_counts) o_counts o_restsN o_restsF o_length y1 (y2 + (1 : Int32))) else xin s_3 o_seenN (fl_X3_differentRests_14 n o_seenN (upd o_seenF (s_3).toNatClampNeg o_counts) o_counts o_restsN o_restsF o_length (y1 + (1 : Int32)) (y2 + (1 : Int32))))))))
def f_X3_differentRests (n : Nat) (o_seenN : Nat) (o_seenF : Nat → Int32) (o_counts : Int32) (o_restsN : Nat) (o_restsF : Nat → Int32) (o_length : Int32)  : Option (Int32 × (Nat → Int32) × Int32) := xb (fl_X3_differentRests_14 n o_seenN o_seenF (o_counts + (1 : Int32)) o_restsN o_restsF o_length (0 : Int32) (0 : Int32)) (fun (v_1, v_2, w_3) => some (v_1, w_3, (o_counts + (1 : Int32))))
set_option maxHeartbeats 4000000 in
set_option maxRecDepth 100000 in
theorem lo_X3_differentRests_14 {p : Program} {l : Launch} {e : Env} {s : State} {m : MethodId} {args : Array Value} {below : List Frame} {meth : Method} {c : Code} {Q : State → Prop} {G : xG} {A : Nat → Prop} (C0 : xC p s m args meth c "FilterRows$Rows" cX3_differentRests 4 (some .int)) : ∀ (n : Nat) (o : Nat) (o_step : Int32) (o_seen : Nat) (o_seenN : Nat) (o_seenF : Nat → Int32) (o_counts : Int32) (o_rests : Nat) (o_restsN : Nat) (o_restsF : Nat → Int32) (o_current : Nat) (o_currentN : Nat) (o_currentF : Nat → Int32) (o_above : Nat) (o_aboveN : Nat) (o_aboveF : Nat → Int32) (o_length : Int32) (y1 : Int32) (y2 : Int32) (z1 : Int32) (z2 : Int32) (z_o_seenF : Nat → Int32), fl_X3_differentRests_14 n o_seenN o_seenF o_counts o_restsN o_restsF o_length y1 y2 = some (z1, z2, z_o_seenF) → ∀ (H : Heap) (locs : List Loc) (ls : Array Slot), xW G true A s [(o, .inr (3, [.int o_step, .ref o_seen, .int o_counts, .ref o_rests, .ref o_current, .ref o_above, .int o_length])), (o_seen, .inl (G.2.1, o_seenN, .inl o_seenF)), (o_rests, .inl (G.2.1, o_restsN, .inl o_restsF)), (o_current, .inl (G.2.1, o_currentN, .inl o_currentF)), (o_above, .inl (G.2.1, o_aboveN, .inl o_aboveF))] H locs → lv_has ls 4 [(0, .ref o), (1, .int y1), (2, .int y2)] → (∀ (H : Heap) (locs : List Loc) (ls : Array Slot), xW G true A s [(o, .inr (3, [.int o_step, .ref o_seen, .int o_counts, .ref o_rests, .ref o_current, .ref o_above, .int o_length])), (o_seen, .inl (G.2.1, o_seenN, .inl z_o_seenF)), (o_rests, .inl (G.2.1, o_restsN, .inl o_restsF)), (o_current, .inl (G.2.1, o_currentN, .inl o_currentF)), (o_above, .inl (G.2.1, o_aboveN, .inl o_aboveF))] H locs → lv_has ls 4 [(0, .ref o), (1, .int z1), (2, .int z2)] → W p l e rm_X3_differentRests s m args below meth c H locs 0 0 Q (F0 m 65 ls [])) → W p l e rm_X3_differentRests s m args below meth c H locs 0 0 Q (F0 m 14 ls []) := by
  obtain ⟨hx, hb, hr, hml, hown, hts, hlk⟩ := id C0
  intro n
  induction n with
  | zero =>
    intro o o_step o_seen o_seenN o_seenF o_counts o_rests o_restsN o_restsF o_current o_currentN o_currentF o_above o_aboveN o_aboveF o_length y1 y2 z1 z2 z_o_seenF h
    rw [fl_X3_differentRests_14] at h
    cases h
  | succ n ih =>
    intro o o_step o_seen o_seenN o_seenF o_counts o_rests o_restsN o_restsF o_current o_currentN o_currentF o_above o_aboveN o_aboveF o_length y1 y2 z1 z2 z_o_seenF h H locs ls B hl K
    rw [fl_X3_differentRests_14] at h
    refine lv_iload_n hx hb dX3_differentRests_14 rfl (lv_at hl 2 rfl) ?_
    refine lv_aload_n hx hb dX3_differentRests_15 rfl (lv_at hl 0 rfl) ?_
    refine xget (v := .int o_length) C0 B inX3 0 rfl rfl 6 (by decide) wd_192 rfl dX3_differentRests_16 ?_
    refine lv_icmp_ge (tgt := 65) hx hb dX3_differentRests_19 (by decide) (fun c_1 => ?_) (fun c_1 => ?_)
    · have h := oif_t h c_1
      obtain ⟨g1, k1⟩ := Prod.mk.inj (Option.some.inj h)
      obtain ⟨g2, k2⟩ := Prod.mk.inj k1
      subst g1 g2 k2
      exact K H locs ls (B.sub [0, 1, 2, 3, 4] rfl rfl) (lv_sub hl [0, 1, 2] rfl)
    · have h := oif_f h c_1
      refine lv_aload_n hx hb dX3_differentRests_22 rfl (lv_at hl 0 rfl) ?_
      refine xget (v := .ref o_rests) C0 B inX3 0 rfl rfl 3 (by decide) wd_184 rfl dX3_differentRests_23 ?_
      refine lv_iload_n hx hb dX3_differentRests_26 rfl (lv_at hl 2 rfl) ?_
      obtain ⟨b_2, h⟩ := xin_spec h
      refine xiald C0 B 2 rfl b_2 dX3_differentRests_27 ?_
      refine lv_sipush (v := 255) hx hb dX3_differentRests_28 (by decide) ?_
      refine lv_iand hx hb dX3_differentRests_31 ?_
      refine lv_topi (fun s_3 es_3 => ?_)
      have h := xl_spec h es_3
      refine lv_istore_n (lv' := [(3, .int s_3), (0, .ref o), (1, .int y1), (2, .int y2)]) hx hb dX3_differentRests_32 rfl hl (by decide) rfl (fun ls hl => ?_)
      refine lv_aload_n hx hb dX3_differentRests_33 rfl (lv_at hl 1 rfl) ?_
      refine xget (v := .ref o_seen) C0 B inX3 0 rfl rfl 1 (by decide) wd_181 rfl dX3_differentRests_34 ?_
      refine lv_iload_n hx hb dX3_differentRests_37 rfl (lv_at hl 0 rfl) ?_
      obtain ⟨b_4, h⟩ := xin_spec h
      refine xiald C0 B 1 rfl b_4 dX3_differentRests_38 ?_
      refine lv_aload_n hx hb dX3_differentRests_39 rfl (lv_at hl 1 rfl) ?_
      refine xget (v := .int o_counts) C0 B inX3 0 rfl rfl 2 (by decide) wd_222 rfl dX3_differentRests_40 ?_
      refine lv_icmp_eq (tgt := 49) hx hb dX3_differentRests_43 (by decide) (fun c_5 => ?_) (fun c_5 => ?_)
      · have h := oif_t h c_5
        refine lv_aload_n hx hb dX3_differentRests_49 rfl (lv_at hl 1 rfl) ?_
        refine xget (v := .ref o_seen) C0 B inX3 0 rfl rfl 1 (by decide) wd_181 rfl dX3_differentRests_50 ?_
        refine lv_iload_n hx hb dX3_differentRests_53 rfl (lv_at hl 0 rfl) ?_
        refine lv_aload_n hx hb dX3_differentRests_54 rfl (lv_at hl 1 rfl) ?_
        refine xget (v := .int o_counts) C0 B inX3 0 rfl rfl 2 (by decide) wd_222 rfl dX3_differentRests_55 ?_
        obtain ⟨b_6, h⟩ := xin_spec h
        refine xiast (ws' := [(o, .inr (3, [.int o_step, .ref o_seen, .int o_counts, .ref o_rests, .ref o_current, .ref o_above, .int o_length])), (o_seen, .inl (G.2.1, o_seenN, .inl (upd o_seenF (s_3).toNatClampNeg o_counts))), (o_rests, .inl (G.2.1, o_restsN, .inl o_restsF)), (o_current, .inl (G.2.1, o_currentN, .inl o_currentF)), (o_above, .inl (G.2.1, o_aboveN, .inl o_aboveF))]) C0 B 1 rfl b_6 rfl dX3_differentRests_58 (fun H locs B => ?_)
        refine lv_iinc (v := (y2 + (1 : Int32))) (lv' := [(2, .int (y2 + (1 : Int32))), (3, .int s_3), (0, .ref o), (1, .int y1)]) hx hb dX3_differentRests_59 hl (k := 3) rfl rfl (by decide) rfl (fun ls hl => ?_)
        refine lv_goto (tgt := 14) hx hb dX3_differentRests_62 (by decide) ?_
        exact ih o o_step o_seen o_seenN (upd o_seenF (s_3).toNatClampNeg o_counts) o_counts o_rests o_restsN o_restsF o_current o_currentN o_currentF o_above o_aboveN o_aboveF o_length y1 (y2 + (1 : Int32)) _ _ _ h H locs ls (B.sub [0, 1, 2, 3, 4] rfl rfl) (lv_sub hl [2, 3, 0] rfl) K
      · have h := oif_f h c_5
        refine lv_iinc (v := (y1 + (1 : Int32))) (lv' := [(1, .int (y1 + (1 : Int32))), (3, .int s_3), (0, .ref o), (2, .int y2)]) hx hb dX3_differentRests_46 hl (k := 2) rfl rfl (by decide) rfl (fun ls hl => ?_)
        refine lv_aload_n hx hb dX3_differentRests_49 rfl (lv_at hl 2 rfl) ?_
        refine xget (v := .ref o_seen) C0 B inX3 0 rfl rfl 1 (by decide) wd_181 rfl dX3_differentRests_50 ?_
        refine lv_iload_n hx hb dX3_differentRests_53 rfl (lv_at hl 1 rfl) ?_
        refine lv_aload_n hx hb dX3_differentRests_54 rfl (lv_at hl 2 rfl) ?_
        refine xget (v := .int o_counts) C0 B inX3 0 rfl rfl 2 (by decide) wd_222 rfl dX3_differentRests_55 ?_
        obtain ⟨b_7, h⟩ := xin_spec h
        refine xiast (ws' := [(o, .inr (3, [.int o_step, .ref o_seen, .int o_counts, .ref o_rests, .ref o_current, .ref o_above, .int o_length])), (o_seen, .inl (G.2.1, o_seenN, .inl (upd o_seenF (s_3).toNatClampNeg o_counts))), (o_rests, .inl (G.2.1, o_restsN, .inl o_restsF)), (o_current, .inl (G.2.1, o_currentN, .inl o_currentF)), (o_above, .inl (G.2.1, o_aboveN, .inl o_aboveF))]) C0 B 1 rfl b_7 rfl dX3_differentRests_58 (fun H locs B => ?_)
        refine lv_iinc (v := (y2 + (1 : Int32))) (lv' := [(2, .int (y2 + (1 : Int32))), (1, .int (y1 + (1 : Int32))), (3, .int s_3), (0, .ref o)]) hx hb dX3_differentRests_59 hl (k := 3) rfl rfl (by decide) rfl (fun ls hl => ?_)
        refine lv_goto (tgt := 14) hx hb dX3_differentRests_62 (by decide) ?_
        exact ih o o_step o_seen o_seenN (upd o_seenF (s_3).toNatClampNeg o_counts) o_counts o_rests o_restsN o_restsF o_current o_currentN o_currentF o_above o_aboveN o_aboveF o_length (y1 + (1 : Int32)) (y2 + (1 : Int32)) _ _ _ h H locs ls (B.sub [0, 1, 2, 3, 4] rfl rfl) (lv_sub hl [3, 1, 0] rfl) K
set_option maxHeartbeats 4000000 in
set_option maxRecDepth 100000 in
theorem c_X3_differentRests (l : Launch) (G : xG) (o : Nat) (o_step : Int32) (o_seen : Nat) (o_seenN : Nat) (o_seenF : Nat → Int32) (o_counts : Int32) (o_rests : Nat) (o_restsN : Nat) (o_restsF : Nat → Int32) (o_current : Nat) (o_currentN : Nat) (o_currentF : Nat → Int32) (o_above : Nat) (o_aboveN : Nat) (o_aboveF : Nat → Int32) (o_length : Int32)  (n : Nat) (zr : Int32) (z_o_seenF : Nat → Int32) (z_o_counts : Int32) (hF : f_X3_differentRests n o_seenN o_seenF o_counts o_restsN o_restsF o_length = some (zr, z_o_seenF, z_o_counts)) (sz : Nat) : Met l yX3_differentRests (xws yX3_differentRests cX3_differentRests 4 (some .int)) rm_X3_differentRests (va_Pc [.ref o] (xPre G [(o, .inr (3, [.int o_step, .ref o_seen, .int o_counts, .ref o_rests, .ref o_current, .ref o_above, .int o_length])), (o_seen, .inl (G.2.1, o_seenN, .inl o_seenF)), (o_rests, .inl (G.2.1, o_restsN, .inl o_restsF)), (o_current, .inl (G.2.1, o_currentN, .inl o_currentF)), (o_above, .inl (G.2.1, o_aboveN, .inl o_aboveF))] sz)) (xQ G (some (.int zr)) [(o, .inr (3, [.int o_step, .ref o_seen, .int z_o_counts, .ref o_rests, .ref o_current, .ref o_above, .int o_length])), (o_seen, .inl (G.2.1, o_seenN, .inl z_o_seenF)), (o_rests, .inl (G.2.1, o_restsN, .inl o_restsF)), (o_current, .inl (G.2.1, o_currentN, .inl o_currentF)), (o_above, .inl (G.2.1, o_aboveN, .inl o_aboveF))] (va_A [(o, .inr (3, [.int o_step, .ref o_seen, .int o_counts, .ref o_rests, .ref o_current, .ref o_above, .int o_length])), (o_seen, .inl (G.2.1, o_seenN, .inl o_seenF)), (o_rests, .inl (G.2.1, o_restsN, .inl o_restsF)), (o_current, .inl (G.2.1, o_currentN, .inl o_currentF)), (o_above, .inl (G.2.1, o_aboveN, .inl o_aboveF))] sz)) 0 0 (va_A [(o, .inr (3, [.int o_step, .ref o_seen, .int o_counts, .ref o_rests, .ref o_current, .ref o_above, .int o_length])), (o_seen, .inl (G.2.1, o_seenN, .inl o_seenF)), (o_rests, .inl (G.2.1, o_restsN, .inl o_restsF)), (o_current, .inl (G.2.1, o_currentN, .inl o_currentF)), (o_above, .inl (G.2.1, o_aboveN, .inl o_aboveF))] sz) := by
  refine xMetQ (by decide) (Nat.le_of_ble_eq_true rfl) ?_
  intro p e s m below meth c ls A H locs C0 hnm B hl
  have hl : lv_has ls 4 [(0, .ref o)] := hl
  have h := hF
  unfold f_X3_differentRests at h
  obtain ⟨hx, hb, hr, hml, hown, hts, hlk⟩ := id C0
  refine lv_aload_n hx hb dX3_differentRests_0 rfl (lv_at hl 0 rfl) ?_
  refine lv_dup hx hb dX3_differentRests_1 rfl ?_
  refine xget (v := .int o_counts) C0 B inX3 0 rfl rfl 2 (by decide) wd_222 rfl dX3_differentRests_2 ?_
  refine lv_iconst (v := 1) hx hb dX3_differentRests_5 (by decide) ?_
  refine lv_iadd hx hb dX3_differentRests_6 ?_
  refine xput (ws' := [(o, .inr (3, [.int o_step, .ref o_seen, .int (o_counts + (1 : Int32)), .ref o_rests, .ref o_current, .ref o_above, .int o_length])), (o_seen, .inl (G.2.1, o_seenN, .inl o_seenF)), (o_rests, .inl (G.2.1, o_restsN, .inl o_restsF)), (o_current, .inl (G.2.1, o_currentN, .inl o_currentF)), (o_above, .inl (G.2.1, o_aboveN, .inl o_aboveF))]) C0 B inX3 tyX3 tyX3_ok nmX3 0 rfl rfl 2 (by decide) wd_222 rfl rfl rfl (Nat.le_of_ble_eq_true rfl) rfl dX3_differentRests_7 (fun H locs B => ?_)
  refine lv_iconst (v := 0) hx hb dX3_differentRests_10 (by decide) ?_
  refine lv_istore_n (lv' := [(1, .int (0 : Int32)), (0, .ref o)]) hx hb dX3_differentRests_11 rfl hl (by decide) rfl (fun ls hl => ?_)
  refine lv_iconst (v := 0) hx hb dX3_differentRests_12 (by decide) ?_
  refine lv_istore_n (lv' := [(2, .int (0 : Int32)), (1, .int (0 : Int32)), (0, .ref o)]) hx hb dX3_differentRests_13 rfl hl (by decide) rfl (fun ls hl => ?_)
  obtain ⟨⟨v_1, v_2, w_3⟩, e_4, h⟩ := xb_spec h
  refine lo_X3_differentRests_14 C0 n o o_step o_seen o_seenN o_seenF (o_counts + (1 : Int32)) o_rests o_restsN o_restsF o_current o_currentN o_currentF o_above o_aboveN o_aboveF o_length (0 : Int32) (0 : Int32) v_1 v_2 w_3 e_4 H locs ls (B.sub [0, 1, 2, 3, 4] rfl rfl) (lv_sub hl [2, 1, 0] rfl) (fun H locs ls B hl => ?_)
  refine lv_iload_n hx hb dX3_differentRests_65 rfl (lv_at hl 1 rfl) ?_
  obtain ⟨g1, k1⟩ := Prod.mk.inj (Option.some.inj h)
  obtain ⟨g2, k2⟩ := Prod.mk.inj k1
  subst g1 g2 k2
  exact xreti C0 B [0, 1, 2, 3, 4] rfl rfl dX3_differentRests_66
/-! FilterRows$Rows.changesOfRests()I -/
abbrev rm_X3_changesOfRests : Room := { frames := 0, cells := 0, slots := 0, locals := 0 }
def fl_X3_changesOfRests_6 : Nat → Nat → (Nat → Int32) → Int32 → Int32 → Int32 → Int32 → Option (Int32 × Int32 × Int32)
  | 0, _, _, _, _, _, _ => none
  | n + 1, o_restsN, o_restsF, o_length, y1, y2, y3 => (if o_length ≤ y3 then some (y1, y2, y3) else xin y3 o_restsN ((if (o_restsF (y3).toNatClampNeg) = y2 then xin y3 o_restsN (xl (o_restsF (y3).toNatClampNeg) (fun s_5 => fl_X3_changesOfRests_6 n o_restsN o_restsF o_length y1 s_5 (y3 + (1 : Int32)))) else xin y3 o_restsN (xl (o_restsF (y3).toNatClampNeg) (fun s_7 => fl_X3_changesOfRests_6 n o_restsN o_restsF o_length (y1 + (1 : Int32)) s_7 (y3 + (1 : Int32)))))))
def f_X3_changesOfRests (n : Nat) (o_restsN : Nat) (o_restsF : Nat → Int32) (o_length : Int32)  : Option Int32 := xb (fl_X3_changesOfRests_6 n o_restsN o_restsF o_length (0 : Int32) (0 : Int32) (0 : Int32)) (fun (v_1, v_2, v_3) => some v_1)
set_option maxHeartbeats 4000000 in
set_option maxRecDepth 100000 in
theorem lo_X3_changesOfRests_6 {p : Program} {l : Launch} {e : Env} {s : State} {m : MethodId} {args : Array Value} {below : List Frame} {meth : Method} {c : Code} {Q : State → Prop} {G : xG} {A : Nat → Prop} (C0 : xC p s m args meth c "FilterRows$Rows" cX3_changesOfRests 4 (some .int)) : ∀ (n : Nat) (o : Nat) (o_step : Int32) (o_seen : Nat) (o_seenN : Nat) (o_seenF : Nat → Int32) (o_counts : Int32) (o_rests : Nat) (o_restsN : Nat) (o_restsF : Nat → Int32) (o_current : Nat) (o_currentN : Nat) (o_currentF : Nat → Int32) (o_above : Nat) (o_aboveN : Nat) (o_aboveF : Nat → Int32) (o_length : Int32) (y1 : Int32) (y2 : Int32) (y3 : Int32) (z1 : Int32) (z2 : Int32) (z3 : Int32), fl_X3_changesOfRests_6 n o_restsN o_restsF o_length y1 y2 y3 = some (z1, z2, z3) → ∀ (H : Heap) (locs : List Loc) (ls : Array Slot), xW G false A s [(o, .inr (3, [.int o_step, .ref o_seen, .int o_counts, .ref o_rests, .ref o_current, .ref o_above, .int o_length])), (o_seen, .inl (G.2.1, o_seenN, .inl o_seenF)), (o_rests, .inl (G.2.1, o_restsN, .inl o_restsF)), (o_current, .inl (G.2.1, o_currentN, .inl o_currentF)), (o_above, .inl (G.2.1, o_aboveN, .inl o_aboveF))] H locs → lv_has ls 4 [(0, .ref o), (1, .int y1), (2, .int y2), (3, .int y3)] → (∀ (H : Heap) (locs : List Loc) (ls : Array Slot), xW G false A s [(o, .inr (3, [.int o_step, .ref o_seen, .int o_counts, .ref o_rests, .ref o_current, .ref o_above, .int o_length])), (o_seen, .inl (G.2.1, o_seenN, .inl o_seenF)), (o_rests, .inl (G.2.1, o_restsN, .inl o_restsF)), (o_current, .inl (G.2.1, o_currentN, .inl o_currentF)), (o_above, .inl (G.2.1, o_aboveN, .inl o_aboveF))] H locs → lv_has ls 4 [(0, .ref o), (1, .int z1), (2, .int z2), (3, .int z3)] → W p l e rm_X3_changesOfRests s m args below meth c H locs 0 0 Q (F0 m 40 ls [])) → W p l e rm_X3_changesOfRests s m args below meth c H locs 0 0 Q (F0 m 6 ls []) := by
  obtain ⟨hx, hb, hr, hml, hown, hts, hlk⟩ := id C0
  intro n
  induction n with
  | zero =>
    intro o o_step o_seen o_seenN o_seenF o_counts o_rests o_restsN o_restsF o_current o_currentN o_currentF o_above o_aboveN o_aboveF o_length y1 y2 y3 z1 z2 z3 h
    rw [fl_X3_changesOfRests_6] at h
    cases h
  | succ n ih =>
    intro o o_step o_seen o_seenN o_seenF o_counts o_rests o_restsN o_restsF o_current o_currentN o_currentF o_above o_aboveN o_aboveF o_length y1 y2 y3 z1 z2 z3 h H locs ls B hl K
    rw [fl_X3_changesOfRests_6] at h
    refine lv_iload_n hx hb dX3_changesOfRests_6 rfl (lv_at hl 3 rfl) ?_
    refine lv_aload_n hx hb dX3_changesOfRests_7 rfl (lv_at hl 0 rfl) ?_
    refine xget (v := .int o_length) C0 B inX3 0 rfl rfl 6 (by decide) wd_192 rfl dX3_changesOfRests_8 ?_
    refine lv_icmp_ge (tgt := 40) hx hb dX3_changesOfRests_11 (by decide) (fun c_1 => ?_) (fun c_1 => ?_)
    · have h := oif_t h c_1
      obtain ⟨g1, k1⟩ := Prod.mk.inj (Option.some.inj h)
      obtain ⟨g2, k2⟩ := Prod.mk.inj k1
      subst g1 g2 k2
      exact K H locs ls (B.sub [0, 1, 2, 3, 4] rfl rfl) (lv_sub hl [0, 1, 2, 3] rfl)
    · have h := oif_f h c_1
      refine lv_aload_n hx hb dX3_changesOfRests_14 rfl (lv_at hl 0 rfl) ?_
      refine xget (v := .ref o_rests) C0 B inX3 0 rfl rfl 3 (by decide) wd_184 rfl dX3_changesOfRests_15 ?_
      refine lv_iload_n hx hb dX3_changesOfRests_18 rfl (lv_at hl 3 rfl) ?_
      obtain ⟨b_2, h⟩ := xin_spec h
      refine xiald C0 B 2 rfl b_2 dX3_changesOfRests_19 ?_
      refine lv_iload_n hx hb dX3_changesOfRests_20 rfl (lv_at hl 2 rfl) ?_
      refine lv_icmp_eq (tgt := 27) hx hb dX3_changesOfRests_21 (by decide) (fun c_3 => ?_) (fun c_3 => ?_)
      · have h := oif_t h c_3
        refine lv_aload_n hx hb dX3_changesOfRests_27 rfl (lv_at hl 0 rfl) ?_
        refine xget (v := .ref o_rests) C0 B inX3 0 rfl rfl 3 (by decide) wd_184 rfl dX3_changesOfRests_28 ?_
        refine lv_iload_n hx hb dX3_changesOfRests_31 rfl (lv_at hl 3 rfl) ?_
        obtain ⟨b_4, h⟩ := xin_spec h
        refine xiald C0 B 2 rfl b_4 dX3_changesOfRests_32 ?_
        refine lv_topi (fun s_5 es_5 => ?_)
        have h := xl_spec h es_5
        refine lv_istore_n (lv' := [(2, .int s_5), (0, .ref o), (1, .int y1), (3, .int y3)]) hx hb dX3_changesOfRests_33 rfl hl (by decide) rfl (fun ls hl => ?_)
        refine lv_iinc (v := (y3 + (1 : Int32))) (lv' := [(3, .int (y3 + (1 : Int32))), (2, .int s_5), (0, .ref o), (1, .int y1)]) hx hb dX3_changesOfRests_34 hl (k := 3) rfl rfl (by decide) rfl (fun ls hl => ?_)
        refine lv_goto (tgt := 6) hx hb dX3_changesOfRests_37 (by decide) ?_
        exact ih o o_step o_seen o_seenN o_seenF o_counts o_rests o_restsN o_restsF o_current o_currentN o_currentF o_above o_aboveN o_aboveF o_length y1 s_5 (y3 + (1 : Int32)) _ _ _ h H locs ls (B.sub [0, 1, 2, 3, 4] rfl rfl) (lv_sub hl [2, 3, 1, 0] rfl) K
      · have h := oif_f h c_3
        refine lv_iinc (v := (y1 + (1 : Int32))) (lv' := [(1, .int (y1 + (1 : Int32))), (0, .ref o), (2, .int y2), (3, .int y3)]) hx hb dX3_changesOfRests_24 hl (k := 1) rfl rfl (by decide) rfl (fun ls hl => ?_)
        refine lv_aload_n hx hb dX3_changesOfRests_27 rfl (lv_at hl 1 rfl) ?_
        refine xget (v := .ref o_rests) C0 B inX3 0 rfl rfl 3 (by decide) wd_184 rfl dX3_changesOfRests_28 ?_
        refine lv_iload_n hx hb dX3_changesOfRests_31 rfl (lv_at hl 3 rfl) ?_
        obtain ⟨b_6, h⟩ := xin_spec h
        refine xiald C0 B 2 rfl b_6 dX3_changesOfRests_32 ?_
        refine lv_topi (fun s_7 es_7 => ?_)
        have h := xl_spec h es_7
        refine lv_istore_n (lv' := [(2, .int s_7), (1, .int (y1 + (1 : Int32))), (0, .ref o), (3, .int y3)]) hx hb dX3_changesOfRests_33 rfl hl (by decide) rfl (fun ls hl => ?_)
        refine lv_iinc (v := (y3 + (1 : Int32))) (lv' := [(3, .int (y3 + (1 : Int32))), (2, .int s_7), (1, .int (y1 + (1 : Int32))), (0, .ref o)]) hx hb dX3_changesOfRests_34 hl (k := 3) rfl rfl (by decide) rfl (fun ls hl => ?_)
        refine lv_goto (tgt := 6) hx hb dX3_changesOfRests_37 (by decide) ?_
        exact ih o o_step o_seen o_seenN o_seenF o_counts o_rests o_restsN o_restsF o_current o_currentN o_currentF o_above o_aboveN o_aboveF o_length (y1 + (1 : Int32)) s_7 (y3 + (1 : Int32)) _ _ _ h H locs ls (B.sub [0, 1, 2, 3, 4] rfl rfl) (lv_sub hl [3, 2, 1, 0] rfl) K
set_option maxHeartbeats 4000000 in
set_option maxRecDepth 100000 in
theorem c_X3_changesOfRests (l : Launch) (G : xG) (o : Nat) (o_step : Int32) (o_seen : Nat) (o_seenN : Nat) (o_seenF : Nat → Int32) (o_counts : Int32) (o_rests : Nat) (o_restsN : Nat) (o_restsF : Nat → Int32) (o_current : Nat) (o_currentN : Nat) (o_currentF : Nat → Int32) (o_above : Nat) (o_aboveN : Nat) (o_aboveF : Nat → Int32) (o_length : Int32)  (n : Nat) (zr : Int32) (hF : f_X3_changesOfRests n o_restsN o_restsF o_length = some zr) (sz : Nat) : Met l yX3_changesOfRests (xws yX3_changesOfRests cX3_changesOfRests 4 (some .int)) rm_X3_changesOfRests (va_Pc [.ref o] (xPre G [(o, .inr (3, [.int o_step, .ref o_seen, .int o_counts, .ref o_rests, .ref o_current, .ref o_above, .int o_length])), (o_seen, .inl (G.2.1, o_seenN, .inl o_seenF)), (o_rests, .inl (G.2.1, o_restsN, .inl o_restsF)), (o_current, .inl (G.2.1, o_currentN, .inl o_currentF)), (o_above, .inl (G.2.1, o_aboveN, .inl o_aboveF))] sz)) (xQR (some (.int zr)) (fun q => sz ≤ q)) 0 0 (fun q => sz ≤ q) := by
  refine xMetR (by decide) (Nat.le_of_ble_eq_true rfl) ?_
  intro p e s m below meth c ls A H locs C0 hnm B hl
  have hl : lv_has ls 4 [(0, .ref o)] := hl
  have h := hF
  unfold f_X3_changesOfRests at h
  obtain ⟨hx, hb, hr, hml, hown, hts, hlk⟩ := id C0
  refine lv_iconst (v := 0) hx hb dX3_changesOfRests_0 (by decide) ?_
  refine lv_istore_n (lv' := [(1, .int (0 : Int32)), (0, .ref o)]) hx hb dX3_changesOfRests_1 rfl hl (by decide) rfl (fun ls hl => ?_)
  refine lv_iconst (v := 0) hx hb dX3_changesOfRests_2 (by decide) ?_
  refine lv_istore_n (lv' := [(2, .int (0 : Int32)), (1, .int (0 : Int32)), (0, .ref o)]) hx hb dX3_changesOfRests_3 rfl hl (by decide) rfl (fun ls hl => ?_)
  refine lv_iconst (v := 0) hx hb dX3_changesOfRests_4 (by decide) ?_
  refine lv_istore_n (lv' := [(3, .int (0 : Int32)), (2, .int (0 : Int32)), (1, .int (0 : Int32)), (0, .ref o)]) hx hb dX3_changesOfRests_5 rfl hl (by decide) rfl (fun ls hl => ?_)
  obtain ⟨⟨v_1, v_2, v_3⟩, e_4, h⟩ := xb_spec h
  refine lo_X3_changesOfRests_6 C0 n o o_step o_seen o_seenN o_seenF o_counts o_rests o_restsN o_restsF o_current o_currentN o_currentF o_above o_aboveN o_aboveF o_length (0 : Int32) (0 : Int32) (0 : Int32) v_1 v_2 v_3 e_4 H locs ls (B.sub [0, 1, 2, 3, 4] rfl rfl) (lv_sub hl [3, 2, 1, 0] rfl) (fun H locs ls B hl => ?_)
  refine lv_iload_n hx hb dX3_changesOfRests_40 rfl (lv_at hl 1 rfl) ?_
  obtain rfl := Option.some.inj h
  exact xretiR C0 B dX3_changesOfRests_41
/-! FilterRows$Rows.sumOfRests()I -/
abbrev rm_X3_sumOfRests : Room := { frames := 0, cells := 0, slots := 0, locals := 0 }
def fl_X3_sumOfRests_4 : Nat → Nat → (Nat → Int32) → Int32 → Int32 → Int32 → Option (Int32 × Int32)
  | 0, _, _, _, _, _ => none
  | n + 1, o_restsN, o_restsF, o_length, y1, y2 => (if o_length ≤ y2 then some (y1, y2) else xin y2 o_restsN (xl (o_restsF (y2).toNatClampNeg) (fun s_3 => (if (128 : Int32) ≤ s_3 then xl (y1 + ((256 : Int32) - s_3)) (fun s_5 => fl_X3_sumOfRests_4 n o_restsN o_restsF o_length s_5 (y2 + (1 : Int32))) else fl_X3_sumOfRests_4 n o_restsN o_restsF o_length (y1 + s_3) (y2 + (1 : Int32))))))
def f_X3_sumOfRests (n : Nat) (o_restsN : Nat) (o_restsF : Nat → Int32) (o_length : Int32)  : Option Int32 := xb (fl_X3_sumOfRests_4 n o_restsN o_restsF o_length (0 : Int32) (0 : Int32)) (fun (v_1, v_2) => some v_1)
set_option maxHeartbeats 4000000 in
set_option maxRecDepth 100000 in
theorem lo_X3_sumOfRests_4 {p : Program} {l : Launch} {e : Env} {s : State} {m : MethodId} {args : Array Value} {below : List Frame} {meth : Method} {c : Code} {Q : State → Prop} {G : xG} {A : Nat → Prop} (C0 : xC p s m args meth c "FilterRows$Rows" cX3_sumOfRests 4 (some .int)) : ∀ (n : Nat) (o : Nat) (o_step : Int32) (o_seen : Nat) (o_seenN : Nat) (o_seenF : Nat → Int32) (o_counts : Int32) (o_rests : Nat) (o_restsN : Nat) (o_restsF : Nat → Int32) (o_current : Nat) (o_currentN : Nat) (o_currentF : Nat → Int32) (o_above : Nat) (o_aboveN : Nat) (o_aboveF : Nat → Int32) (o_length : Int32) (y1 : Int32) (y2 : Int32) (z1 : Int32) (z2 : Int32), fl_X3_sumOfRests_4 n o_restsN o_restsF o_length y1 y2 = some (z1, z2) → ∀ (H : Heap) (locs : List Loc) (ls : Array Slot), xW G false A s [(o, .inr (3, [.int o_step, .ref o_seen, .int o_counts, .ref o_rests, .ref o_current, .ref o_above, .int o_length])), (o_seen, .inl (G.2.1, o_seenN, .inl o_seenF)), (o_rests, .inl (G.2.1, o_restsN, .inl o_restsF)), (o_current, .inl (G.2.1, o_currentN, .inl o_currentF)), (o_above, .inl (G.2.1, o_aboveN, .inl o_aboveF))] H locs → lv_has ls 4 [(0, .ref o), (1, .int y1), (2, .int y2)] → (∀ (H : Heap) (locs : List Loc) (ls : Array Slot), xW G false A s [(o, .inr (3, [.int o_step, .ref o_seen, .int o_counts, .ref o_rests, .ref o_current, .ref o_above, .int o_length])), (o_seen, .inl (G.2.1, o_seenN, .inl o_seenF)), (o_rests, .inl (G.2.1, o_restsN, .inl o_restsF)), (o_current, .inl (G.2.1, o_currentN, .inl o_currentF)), (o_above, .inl (G.2.1, o_aboveN, .inl o_aboveF))] H locs → lv_has ls 4 [(0, .ref o), (1, .int z1), (2, .int z2)] → W p l e rm_X3_sumOfRests s m args below meth c H locs 0 0 Q (F0 m 44 ls [])) → W p l e rm_X3_sumOfRests s m args below meth c H locs 0 0 Q (F0 m 4 ls []) := by
  obtain ⟨hx, hb, hr, hml, hown, hts, hlk⟩ := id C0
  intro n
  induction n with
  | zero =>
    intro o o_step o_seen o_seenN o_seenF o_counts o_rests o_restsN o_restsF o_current o_currentN o_currentF o_above o_aboveN o_aboveF o_length y1 y2 z1 z2 h
    rw [fl_X3_sumOfRests_4] at h
    cases h
  | succ n ih =>
    intro o o_step o_seen o_seenN o_seenF o_counts o_rests o_restsN o_restsF o_current o_currentN o_currentF o_above o_aboveN o_aboveF o_length y1 y2 z1 z2 h H locs ls B hl K
    rw [fl_X3_sumOfRests_4] at h
    refine lv_iload_n hx hb dX3_sumOfRests_4 rfl (lv_at hl 2 rfl) ?_
    refine lv_aload_n hx hb dX3_sumOfRests_5 rfl (lv_at hl 0 rfl) ?_
    refine xget (v := .int o_length) C0 B inX3 0 rfl rfl 6 (by decide) wd_192 rfl dX3_sumOfRests_6 ?_
    refine lv_icmp_ge (tgt := 44) hx hb dX3_sumOfRests_9 (by decide) (fun c_1 => ?_) (fun c_1 => ?_)
    · have h := oif_t h c_1
      obtain ⟨g1, k1⟩ := Prod.mk.inj (Option.some.inj h)
      subst g1 k1
      exact K H locs ls (B.sub [0, 1, 2, 3, 4] rfl rfl) (lv_sub hl [0, 1, 2] rfl)
    · have h := oif_f h c_1
      refine lv_aload_n hx hb dX3_sumOfRests_12 rfl (lv_at hl 0 rfl) ?_
      refine xget (v := .ref o_rests) C0 B inX3 0 rfl rfl 3 (by decide) wd_184 rfl dX3_sumOfRests_13 ?_
      refine lv_iload_n hx hb dX3_sumOfRests_16 rfl (lv_at hl 2 rfl) ?_
      obtain ⟨b_2, h⟩ := xin_spec h
      refine xiald C0 B 2 rfl b_2 dX3_sumOfRests_17 ?_
      refine lv_topi (fun s_3 es_3 => ?_)
      have h := xl_spec h es_3
      refine lv_istore_n (lv' := [(3, .int s_3), (0, .ref o), (1, .int y1), (2, .int y2)]) hx hb dX3_sumOfRests_18 rfl hl (by decide) rfl (fun ls hl => ?_)
      refine lv_iload_n hx hb dX3_sumOfRests_19 rfl (lv_at hl 2 rfl) ?_
      refine lv_iload_n hx hb dX3_sumOfRests_20 rfl (lv_at hl 0 rfl) ?_
      refine lv_sipush (v := 128) hx hb dX3_sumOfRests_21 (by decide) ?_
      refine lv_icmp_ge (tgt := 31) hx hb dX3_sumOfRests_24 (by decide) (fun c_4 => ?_) (fun c_4 => ?_)
      · have h := oif_t h c_4
        refine lv_sipush (v := 256) hx hb dX3_sumOfRests_31 (by decide) ?_
        refine lv_iload_n hx hb dX3_sumOfRests_34 rfl (lv_at hl 0 rfl) ?_
        refine lv_isub hx hb dX3_sumOfRests_35 ?_
        refine lv_iadd hx hb dX3_sumOfRests_36 ?_
        refine lv_topi (fun s_5 es_5 => ?_)
        have h := xl_spec h es_5
        refine lv_istore_n (lv' := [(1, .int s_5), (3, .int s_3), (0, .ref o), (2, .int y2)]) hx hb dX3_sumOfRests_37 rfl hl (by decide) rfl (fun ls hl => ?_)
        refine lv_iinc (v := (y2 + (1 : Int32))) (lv' := [(2, .int (y2 + (1 : Int32))), (1, .int s_5), (3, .int s_3), (0, .ref o)]) hx hb dX3_sumOfRests_38 hl (k := 3) rfl rfl (by decide) rfl (fun ls hl => ?_)
        refine lv_goto (tgt := 4) hx hb dX3_sumOfRests_41 (by decide) ?_
        exact ih o o_step o_seen o_seenN o_seenF o_counts o_rests o_restsN o_restsF o_current o_currentN o_currentF o_above o_aboveN o_aboveF o_length s_5 (y2 + (1 : Int32)) _ _ h H locs ls (B.sub [0, 1, 2, 3, 4] rfl rfl) (lv_sub hl [3, 1, 0] rfl) K
      · have h := oif_f h c_4
        refine lv_iload_n hx hb dX3_sumOfRests_27 rfl (lv_at hl 0 rfl) ?_
        refine lv_goto (tgt := 36) hx hb dX3_sumOfRests_28 (by decide) ?_
        refine lv_iadd hx hb dX3_sumOfRests_36 ?_
        refine lv_istore_n (lv' := [(1, .int (y1 + s_3)), (3, .int s_3), (0, .ref o), (2, .int y2)]) hx hb dX3_sumOfRests_37 rfl hl (by decide) rfl (fun ls hl => ?_)
        refine lv_iinc (v := (y2 + (1 : Int32))) (lv' := [(2, .int (y2 + (1 : Int32))), (1, .int (y1 + s_3)), (3, .int s_3), (0, .ref o)]) hx hb dX3_sumOfRests_38 hl (k := 3) rfl rfl (by decide) rfl (fun ls hl => ?_)
        refine lv_goto (tgt := 4) hx hb dX3_sumOfRests_41 (by decide) ?_
        exact ih o o_step o_seen o_seenN o_seenF o_counts o_rests o_restsN o_restsF o_current o_currentN o_currentF o_above o_aboveN o_aboveF o_length (y1 + s_3) (y2 + (1 : Int32)) _ _ h H locs ls (B.sub [0, 1, 2, 3, 4] rfl rfl) (lv_sub hl [3, 1, 0] rfl) K
set_option maxHeartbeats 4000000 in
set_option maxRecDepth 100000 in
theorem c_X3_sumOfRests (l : Launch) (G : xG) (o : Nat) (o_step : Int32) (o_seen : Nat) (o_seenN : Nat) (o_seenF : Nat → Int32) (o_counts : Int32) (o_rests : Nat) (o_restsN : Nat) (o_restsF : Nat → Int32) (o_current : Nat) (o_currentN : Nat) (o_currentF : Nat → Int32) (o_above : Nat) (o_aboveN : Nat) (o_aboveF : Nat → Int32) (o_length : Int32)  (n : Nat) (zr : Int32) (hF : f_X3_sumOfRests n o_restsN o_restsF o_length = some zr) (sz : Nat) : Met l yX3_sumOfRests (xws yX3_sumOfRests cX3_sumOfRests 4 (some .int)) rm_X3_sumOfRests (va_Pc [.ref o] (xPre G [(o, .inr (3, [.int o_step, .ref o_seen, .int o_counts, .ref o_rests, .ref o_current, .ref o_above, .int o_length])), (o_seen, .inl (G.2.1, o_seenN, .inl o_seenF)), (o_rests, .inl (G.2.1, o_restsN, .inl o_restsF)), (o_current, .inl (G.2.1, o_currentN, .inl o_currentF)), (o_above, .inl (G.2.1, o_aboveN, .inl o_aboveF))] sz)) (xQR (some (.int zr)) (fun q => sz ≤ q)) 0 0 (fun q => sz ≤ q) := by
  refine xMetR (by decide) (Nat.le_of_ble_eq_true rfl) ?_
  intro p e s m below meth c ls A H locs C0 hnm B hl
  have hl : lv_has ls 4 [(0, .ref o)] := hl
  have h := hF
  unfold f_X3_sumOfRests at h
  obtain ⟨hx, hb, hr, hml, hown, hts, hlk⟩ := id C0
  refine lv_iconst (v := 0) hx hb dX3_sumOfRests_0 (by decide) ?_
  refine lv_istore_n (lv' := [(1, .int (0 : Int32)), (0, .ref o)]) hx hb dX3_sumOfRests_1 rfl hl (by decide) rfl (fun ls hl => ?_)
  refine lv_iconst (v := 0) hx hb dX3_sumOfRests_2 (by decide) ?_
  refine lv_istore_n (lv' := [(2, .int (0 : Int32)), (1, .int (0 : Int32)), (0, .ref o)]) hx hb dX3_sumOfRests_3 rfl hl (by decide) rfl (fun ls hl => ?_)
  obtain ⟨⟨v_1, v_2⟩, e_3, h⟩ := xb_spec h
  refine lo_X3_sumOfRests_4 C0 n o o_step o_seen o_seenN o_seenF o_counts o_rests o_restsN o_restsF o_current o_currentN o_currentF o_above o_aboveN o_aboveF o_length (0 : Int32) (0 : Int32) v_1 v_2 e_3 H locs ls (B.sub [0, 1, 2, 3, 4] rfl rfl) (lv_sub hl [2, 1, 0] rfl) (fun H locs ls B hl => ?_)
  refine lv_iload_n hx hb dX3_sumOfRests_44 rfl (lv_at hl 1 rfl) ?_
  obtain rfl := Option.some.inj h
  exact xretiR C0 B dX3_sumOfRests_45
/-! FilterRows$Rows.worthOf(II)I -/
abbrev rm_X3_worthOf : Room := { frames := 4, cells := 0, slots := 0, locals := 93 }
def f_X3_worthOf (n : Nat) (o_step : Int32) (o_seenN : Nat) (o_seenF : Nat → Int32) (o_counts : Int32) (o_restsN : Nat) (o_restsF : Nat → Int32) (o_currentN : Nat) (o_currentF : Nat → Int32) (o_aboveN : Nat) (o_aboveF : Nat → Int32) (o_length : Int32) (x1 : Int32) (x2 : Int32) : Option (Int32 × (Nat → Int32) × Int32 × (Nat → Int32)) := xb (f_X3_filterLine n o_step o_restsN o_restsF o_currentN o_currentF o_aboveN o_aboveF o_length x1) (fun w_1 => (if x2 = (5 : Int32) then xb (f_X3_sumOfRests n o_restsN w_1 o_length) (fun r_11 => some (r_11, o_seenF, o_counts, w_1)) else (if x2 = (6 : Int32) then xb (f_X3_changesOfRests n o_restsN w_1 o_length) (fun r_9 => some (r_9, o_seenF, o_counts, w_1)) else xb (f_X3_differentRests n o_seenN o_seenF o_counts o_restsN w_1 o_length) (fun (r_5, w_6, w_7) => some (r_5, w_6, w_7, w_1)))))
set_option maxHeartbeats 4000000 in
set_option maxRecDepth 100000 in
theorem c_X3_worthOf (l : Launch) (G : xG) (o : Nat) (o_step : Int32) (o_seen : Nat) (o_seenN : Nat) (o_seenF : Nat → Int32) (o_counts : Int32) (o_rests : Nat) (o_restsN : Nat) (o_restsF : Nat → Int32) (o_current : Nat) (o_currentN : Nat) (o_currentF : Nat → Int32) (o_above : Nat) (o_aboveN : Nat) (o_aboveF : Nat → Int32) (o_length : Int32) (x1 : Int32) (x2 : Int32) (n : Nat) (zr : Int32) (z_o_seenF : Nat → Int32) (z_o_counts : Int32) (z_o_restsF : Nat → Int32) (hF : f_X3_worthOf n o_step o_seenN o_seenF o_counts o_restsN o_restsF o_currentN o_currentF o_aboveN o_aboveF o_length x1 x2 = some (zr, z_o_seenF, z_o_counts, z_o_restsF)) (sz : Nat) : Met l yX3_worthOf (xws yX3_worthOf cX3_worthOf 3 (some .int)) rm_X3_worthOf (va_Pc [.ref o, .int x1, .int x2] (xPre G [(o, .inr (3, [.int o_step, .ref o_seen, .int o_counts, .ref o_rests, .ref o_current, .ref o_above, .int o_length])), (o_seen, .inl (G.2.1, o_seenN, .inl o_seenF)), (o_rests, .inl (G.2.1, o_restsN, .inl o_restsF)), (o_current, .inl (G.2.1, o_currentN, .inl o_currentF)), (o_above, .inl (G.2.1, o_aboveN, .inl o_aboveF))] sz)) (xQ G (some (.int zr)) [(o, .inr (3, [.int o_step, .ref o_seen, .int z_o_counts, .ref o_rests, .ref o_current, .ref o_above, .int o_length])), (o_seen, .inl (G.2.1, o_seenN, .inl z_o_seenF)), (o_rests, .inl (G.2.1, o_restsN, .inl z_o_restsF)), (o_current, .inl (G.2.1, o_currentN, .inl o_currentF)), (o_above, .inl (G.2.1, o_aboveN, .inl o_aboveF))] (va_A [(o, .inr (3, [.int o_step, .ref o_seen, .int o_counts, .ref o_rests, .ref o_current, .ref o_above, .int o_length])), (o_seen, .inl (G.2.1, o_seenN, .inl o_seenF)), (o_rests, .inl (G.2.1, o_restsN, .inl o_restsF)), (o_current, .inl (G.2.1, o_currentN, .inl o_currentF)), (o_above, .inl (G.2.1, o_aboveN, .inl o_aboveF))] sz)) 0 0 (va_A [(o, .inr (3, [.int o_step, .ref o_seen, .int o_counts, .ref o_rests, .ref o_current, .ref o_above, .int o_length])), (o_seen, .inl (G.2.1, o_seenN, .inl o_seenF)), (o_rests, .inl (G.2.1, o_restsN, .inl o_restsF)), (o_current, .inl (G.2.1, o_currentN, .inl o_currentF)), (o_above, .inl (G.2.1, o_aboveN, .inl o_aboveF))] sz) := by
  refine xMetQ (by decide) (Nat.le_of_ble_eq_true rfl) ?_
  intro p e s m below meth c ls A H locs C0 hnm B hl
  have hl : lv_has ls 3 [(0, .ref o), (1, .int x1), (2, .int x2)] := hl
  have h := hF
  unfold f_X3_worthOf at h
  obtain ⟨hx, hb, hr, hml, hown, hts, hlk⟩ := id C0
  refine lv_aload_n hx hb dX3_worthOf_0 rfl (lv_at hl 0 rfl) ?_
  refine lv_iload_n hx hb dX3_worthOf_1 rfl (lv_at hl 1 rfl) ?_
  obtain ⟨w_1, e_2, h⟩ := xb_spec h
  refine xcall0 (wc := [(o, .inr (3, [.int o_step, .ref o_seen, .int o_counts, .ref o_rests, .ref o_current, .ref o_above, .int o_length])), (o_seen, .inl (G.2.1, o_seenN, .inl o_seenF)), (o_rests, .inl (G.2.1, o_restsN, .inl o_restsF)), (o_current, .inl (G.2.1, o_currentN, .inl o_currentF)), (o_above, .inl (G.2.1, o_aboveN, .inl o_aboveF))]) (wr := []) (w1 := [(o, .inr (3, [.int o_step, .ref o_seen, .int o_counts, .ref o_rests, .ref o_current, .ref o_above, .int o_length])), (o_seen, .inl (G.2.1, o_seenN, .inl o_seenF)), (o_rests, .inl (G.2.1, o_restsN, .inl w_1)), (o_current, .inl (G.2.1, o_currentN, .inl o_currentF)), (o_above, .inl (G.2.1, o_aboveN, .inl o_aboveF))]) (ws' := [(o, .inr (3, [.int o_step, .ref o_seen, .int o_counts, .ref o_rests, .ref o_current, .ref o_above, .int o_length])), (o_seen, .inl (G.2.1, o_seenN, .inl o_seenF)), (o_rests, .inl (G.2.1, o_restsN, .inl w_1)), (o_current, .inl (G.2.1, o_currentN, .inl o_currentF)), (o_above, .inl (G.2.1, o_aboveN, .inl o_aboveF))]) B [0, 1, 2, 3, 4] [] [0, 1, 2, 3, 4] rfl rfl rfl rfl (by decide) rfl rfl (xrunV C0 (c_X3_filterLine l G o o_step o_seen o_seenN o_seenF o_counts o_rests o_restsN o_restsF o_current o_currentN o_currentF o_above o_aboveN o_aboveF o_length x1 n w_1 e_2 H.size) kb_X3_filterLine kv_X3_filterLine wd_221 (ci := 3) rfl rfl rfl rfl rfl ⟨Nat.le_of_ble_eq_true rfl, Nat.le_of_ble_eq_true rfl⟩ rfl hl rfl (Nat.le_of_ble_eq_true rfl) dX3_worthOf_2 ⟨Nat.le_of_ble_eq_true rfl, Nat.le_of_ble_eq_true rfl⟩) (fun H locs B => ?_)
  refine lv_iload_n hx hb dX3_worthOf_5 rfl (lv_at hl 2 rfl) ?_
  refine lv_iconst (v := 5) hx hb dX3_worthOf_6 (by decide) ?_
  refine lv_icmp_ne (tgt := 15) hx hb dX3_worthOf_7 (by decide) (fun c_3 => ?_) (fun c_3 => ?_)
  · have h := oif_f h c_3
    refine lv_iload_n hx hb dX3_worthOf_15 rfl (lv_at hl 2 rfl) ?_
    refine lv_bipush (v := 6) hx hb dX3_worthOf_16 (by decide) ?_
    refine lv_icmp_ne (tgt := 28) hx hb dX3_worthOf_18 (by decide) (fun c_4 => ?_) (fun c_4 => ?_)
    · have h := oif_f h c_4
      refine lv_aload_n hx hb dX3_worthOf_28 rfl (lv_at hl 0 rfl) ?_
      obtain ⟨⟨r_5, w_6, w_7⟩, e_8, h⟩ := xb_spec h
      dsimp only at h
      refine xcall0 (wc := [(o, .inr (3, [.int o_step, .ref o_seen, .int o_counts, .ref o_rests, .ref o_current, .ref o_above, .int o_length])), (o_seen, .inl (G.2.1, o_seenN, .inl o_seenF)), (o_rests, .inl (G.2.1, o_restsN, .inl w_1)), (o_current, .inl (G.2.1, o_currentN, .inl o_currentF)), (o_above, .inl (G.2.1, o_aboveN, .inl o_aboveF))]) (wr := []) (w1 := [(o, .inr (3, [.int o_step, .ref o_seen, .int w_7, .ref o_rests, .ref o_current, .ref o_above, .int o_length])), (o_seen, .inl (G.2.1, o_seenN, .inl w_6)), (o_rests, .inl (G.2.1, o_restsN, .inl w_1)), (o_current, .inl (G.2.1, o_currentN, .inl o_currentF)), (o_above, .inl (G.2.1, o_aboveN, .inl o_aboveF))]) (ws' := [(o, .inr (3, [.int o_step, .ref o_seen, .int w_7, .ref o_rests, .ref o_current, .ref o_above, .int o_length])), (o_seen, .inl (G.2.1, o_seenN, .inl w_6)), (o_rests, .inl (G.2.1, o_restsN, .inl w_1)), (o_current, .inl (G.2.1, o_currentN, .inl o_currentF)), (o_above, .inl (G.2.1, o_aboveN, .inl o_aboveF))]) B [0, 1, 2, 3, 4] [] [0, 1, 2, 3, 4] rfl rfl rfl rfl (by decide) rfl rfl (xrunV C0 (c_X3_differentRests l G o o_step o_seen o_seenN o_seenF o_counts o_rests o_restsN w_1 o_current o_currentN o_currentF o_above o_aboveN o_aboveF o_length  n r_5 w_6 w_7 e_8 H.size) kb_X3_differentRests kv_X3_differentRests wd_226 (ci := 3) rfl rfl rfl rfl rfl ⟨Nat.le_of_ble_eq_true rfl, Nat.le_of_ble_eq_true rfl⟩ rfl hl rfl (Nat.le_of_ble_eq_true rfl) dX3_worthOf_29 ⟨Nat.le_of_ble_eq_true rfl, Nat.le_of_ble_eq_true rfl⟩) (fun H locs B => ?_)
      obtain ⟨g1, k1⟩ := Prod.mk.inj (Option.some.inj h)
      obtain ⟨g2, k2⟩ := Prod.mk.inj k1
      obtain ⟨g3, k3⟩ := Prod.mk.inj k2
      subst g1 g2 g3 k3
      exact xreti C0 B [0, 1, 2, 3, 4] rfl rfl dX3_worthOf_32
    · have h := oif_t h c_4
      refine lv_aload_n hx hb dX3_worthOf_21 rfl (lv_at hl 0 rfl) ?_
      obtain ⟨r_9, e_10, h⟩ := xb_spec h
      refine xcallR (wc := [(o, .inr (3, [.int o_step, .ref o_seen, .int o_counts, .ref o_rests, .ref o_current, .ref o_above, .int o_length])), (o_seen, .inl (G.2.1, o_seenN, .inl o_seenF)), (o_rests, .inl (G.2.1, o_restsN, .inl w_1)), (o_current, .inl (G.2.1, o_currentN, .inl o_currentF)), (o_above, .inl (G.2.1, o_aboveN, .inl o_aboveF))]) B [0, 1, 2, 3, 4] rfl rfl (xrunV C0 (c_X3_changesOfRests l G o o_step o_seen o_seenN o_seenF o_counts o_rests o_restsN w_1 o_current o_currentN o_currentF o_above o_aboveN o_aboveF o_length  n r_9 e_10 H.size) kb_X3_changesOfRests kv_X3_changesOfRests wd_230 (ci := 3) rfl rfl rfl rfl rfl ⟨Nat.le_of_ble_eq_true rfl, Nat.le_of_ble_eq_true rfl⟩ rfl hl rfl (Nat.le_of_ble_eq_true rfl) dX3_worthOf_22 ⟨Nat.le_of_ble_eq_true rfl, Nat.le_of_ble_eq_true rfl⟩) (fun H locs B => ?_)
      refine lv_goto (tgt := 32) hx hb dX3_worthOf_25 (by decide) ?_
      obtain ⟨g1, k1⟩ := Prod.mk.inj (Option.some.inj h)
      obtain ⟨g2, k2⟩ := Prod.mk.inj k1
      obtain ⟨g3, k3⟩ := Prod.mk.inj k2
      subst g1 g2 g3 k3
      exact xreti C0 B [0, 1, 2, 3, 4] rfl rfl dX3_worthOf_32
  · have h := oif_t h c_3
    refine lv_aload_n hx hb dX3_worthOf_10 rfl (lv_at hl 0 rfl) ?_
    obtain ⟨r_11, e_12, h⟩ := xb_spec h
    refine xcallR (wc := [(o, .inr (3, [.int o_step, .ref o_seen, .int o_counts, .ref o_rests, .ref o_current, .ref o_above, .int o_length])), (o_seen, .inl (G.2.1, o_seenN, .inl o_seenF)), (o_rests, .inl (G.2.1, o_restsN, .inl w_1)), (o_current, .inl (G.2.1, o_currentN, .inl o_currentF)), (o_above, .inl (G.2.1, o_aboveN, .inl o_aboveF))]) B [0, 1, 2, 3, 4] rfl rfl (xrunV C0 (c_X3_sumOfRests l G o o_step o_seen o_seenN o_seenF o_counts o_rests o_restsN w_1 o_current o_currentN o_currentF o_above o_aboveN o_aboveF o_length  n r_11 e_12 H.size) kb_X3_sumOfRests kv_X3_sumOfRests wd_234 (ci := 3) rfl rfl rfl rfl rfl ⟨Nat.le_of_ble_eq_true rfl, Nat.le_of_ble_eq_true rfl⟩ rfl hl rfl (Nat.le_of_ble_eq_true rfl) dX3_worthOf_11 ⟨Nat.le_of_ble_eq_true rfl, Nat.le_of_ble_eq_true rfl⟩) (fun H locs B => ?_)
    obtain ⟨g1, k1⟩ := Prod.mk.inj (Option.some.inj h)
    obtain ⟨g2, k2⟩ := Prod.mk.inj k1
    obtain ⟨g3, k3⟩ := Prod.mk.inj k2
    subst g1 g2 g3 k3
    exact xreti C0 B [0, 1, 2, 3, 4] rfl rfl dX3_worthOf_14
/-! FilterRows$Rows.bestKind(I)I -/
abbrev rm_X3_bestKind : Room := { frames := 5, cells := 0, slots := 0, locals := 115 }
def fl_X3_bestKind_12 : Nat → Int32 → Nat → (Nat → Int32) → Int32 → Nat → (Nat → Int32) → Nat → (Nat → Int32) → Nat → (Nat → Int32) → Int32 → Int32 → Int32 → Int32 → Int32 → Option (Int32 × Int32 × Int32 × (Nat → Int32) × Int32 × (Nat → Int32))
  | 0, _, _, _, _, _, _, _, _, _, _, _, _, _, _, _ => none
  | n + 1, o_step, o_seenN, o_seenF, o_counts, o_restsN, o_restsF, o_currentN, o_currentF, o_aboveN, o_aboveF, o_length, y1, y2, y3, y4 => (if (4 : Int32) < y4 then some (y2, y3, y4, o_seenF, o_counts, o_restsF) else xb (f_X3_worthOf n o_step o_seenN o_seenF o_counts o_restsN o_restsF o_currentN o_currentF o_aboveN o_aboveF o_length y4 y1) (fun (r_2, w_3, w_4, w_5) => (if y3 ≤ r_2 then fl_X3_bestKind_12 n o_step o_seenN w_3 w_4 o_restsN w_5 o_currentN o_currentF o_aboveN o_aboveF o_length y1 y2 y3 (y4 + (1 : Int32)) else fl_X3_bestKind_12 n o_step o_seenN w_3 w_4 o_restsN w_5 o_currentN o_currentF o_aboveN o_aboveF o_length y1 y4 r_2 (y4 + (1 : Int32)))))
def f_X3_bestKind (n : Nat) (o_step : Int32) (o_seenN : Nat) (o_seenF : Nat → Int32) (o_counts : Int32) (o_restsN : Nat) (o_restsF : Nat → Int32) (o_currentN : Nat) (o_currentF : Nat → Int32) (o_aboveN : Nat) (o_aboveF : Nat → Int32) (o_length : Int32) (x1 : Int32) : Option (Int32 × (Nat → Int32) × Int32 × (Nat → Int32)) := xb (f_X3_worthOf n o_step o_seenN o_seenF o_counts o_restsN o_restsF o_currentN o_currentF o_aboveN o_aboveF o_length (0 : Int32) x1) (fun (r_1, w_2, w_3, w_4) => xb (fl_X3_bestKind_12 n o_step o_seenN w_2 w_3 o_restsN w_4 o_currentN o_currentF o_aboveN o_aboveF o_length x1 (0 : Int32) r_1 (1 : Int32)) (fun (v_6, v_7, v_8, w_9, w_10, w_11) => some (v_6, w_9, w_10, w_11)))
set_option maxHeartbeats 4000000 in
set_option maxRecDepth 100000 in
theorem lo_X3_bestKind_12 {p : Program} {l : Launch} {e : Env} {s : State} {m : MethodId} {args : Array Value} {below : List Frame} {meth : Method} {c : Code} {Q : State → Prop} {G : xG} {A : Nat → Prop} (C0 : xC p s m args meth c "FilterRows$Rows" cX3_bestKind 6 (some .int)) : ∀ (n : Nat) (o : Nat) (o_step : Int32) (o_seen : Nat) (o_seenN : Nat) (o_seenF : Nat → Int32) (o_counts : Int32) (o_rests : Nat) (o_restsN : Nat) (o_restsF : Nat → Int32) (o_current : Nat) (o_currentN : Nat) (o_currentF : Nat → Int32) (o_above : Nat) (o_aboveN : Nat) (o_aboveF : Nat → Int32) (o_length : Int32) (y1 : Int32) (y2 : Int32) (y3 : Int32) (y4 : Int32) (z2 : Int32) (z3 : Int32) (z4 : Int32) (z_o_seenF : Nat → Int32) (z_o_counts : Int32) (z_o_restsF : Nat → Int32), fl_X3_bestKind_12 n o_step o_seenN o_seenF o_counts o_restsN o_restsF o_currentN o_currentF o_aboveN o_aboveF o_length y1 y2 y3 y4 = some (z2, z3, z4, z_o_seenF, z_o_counts, z_o_restsF) → ∀ (H : Heap) (locs : List Loc) (ls : Array Slot), xW G true A s [(o, .inr (3, [.int o_step, .ref o_seen, .int o_counts, .ref o_rests, .ref o_current, .ref o_above, .int o_length])), (o_seen, .inl (G.2.1, o_seenN, .inl o_seenF)), (o_rests, .inl (G.2.1, o_restsN, .inl o_restsF)), (o_current, .inl (G.2.1, o_currentN, .inl o_currentF)), (o_above, .inl (G.2.1, o_aboveN, .inl o_aboveF))] H locs → lv_has ls 6 [(0, .ref o), (1, .int y1), (2, .int y2), (3, .int y3), (4, .int y4)] → (∀ (H : Heap) (locs : List Loc) (ls : Array Slot), xW G true A s [(o, .inr (3, [.int o_step, .ref o_seen, .int z_o_counts, .ref o_rests, .ref o_current, .ref o_above, .int o_length])), (o_seen, .inl (G.2.1, o_seenN, .inl z_o_seenF)), (o_rests, .inl (G.2.1, o_restsN, .inl z_o_restsF)), (o_current, .inl (G.2.1, o_currentN, .inl o_currentF)), (o_above, .inl (G.2.1, o_aboveN, .inl o_aboveF))] H locs → lv_has ls 6 [(0, .ref o), (1, .int y1), (2, .int z2), (3, .int z3), (4, .int z4)] → W p l e rm_X3_bestKind s m args below meth c H locs 0 0 Q (F0 m 45 ls [])) → W p l e rm_X3_bestKind s m args below meth c H locs 0 0 Q (F0 m 12 ls []) := by
  obtain ⟨hx, hb, hr, hml, hown, hts, hlk⟩ := id C0
  intro n
  induction n with
  | zero =>
    intro o o_step o_seen o_seenN o_seenF o_counts o_rests o_restsN o_restsF o_current o_currentN o_currentF o_above o_aboveN o_aboveF o_length y1 y2 y3 y4 z2 z3 z4 z_o_seenF z_o_counts z_o_restsF h
    rw [fl_X3_bestKind_12] at h
    cases h
  | succ n ih =>
    intro o o_step o_seen o_seenN o_seenF o_counts o_rests o_restsN o_restsF o_current o_currentN o_currentF o_above o_aboveN o_aboveF o_length y1 y2 y3 y4 z2 z3 z4 z_o_seenF z_o_counts z_o_restsF h H locs ls B hl K
    rw [fl_X3_bestKind_12] at h
    refine lv_iload hx hb dX3_bestKind_12 (lv_at hl 4 rfl) ?_
    refine lv_iconst (v := 4) hx hb dX3_bestKind_14 (by decide) ?_
    refine lv_icmp_gt (tgt := 45) hx hb dX3_bestKind_15 (by decide) (fun c_1 => ?_) (fun c_1 => ?_)
    · have h := oif_t h c_1
      obtain ⟨g1, k1⟩ := Prod.mk.inj (Option.some.inj h)
      obtain ⟨g2, k2⟩ := Prod.mk.inj k1
      obtain ⟨g3, k3⟩ := Prod.mk.inj k2
      obtain ⟨g4, k4⟩ := Prod.mk.inj k3
      obtain ⟨g5, k5⟩ := Prod.mk.inj k4
      subst g1 g2 g3 g4 g5 k5
      exact K H locs ls (B.sub [0, 1, 2, 3, 4] rfl rfl) (lv_sub hl [0, 1, 2, 3, 4] rfl)
    · have h := oif_f h c_1
      refine lv_aload_n hx hb dX3_bestKind_18 rfl (lv_at hl 0 rfl) ?_
      refine lv_iload hx hb dX3_bestKind_19 (lv_at hl 4 rfl) ?_
      refine lv_iload_n hx hb dX3_bestKind_21 rfl (lv_at hl 1 rfl) ?_
      obtain ⟨⟨r_2, w_3, w_4, w_5⟩, e_6, h⟩ := xb_spec h
      dsimp only at h
      refine xcall0 (wc := [(o, .inr (3, [.int o_step, .ref o_seen, .int o_counts, .ref o_rests, .ref o_current, .ref o_above, .int o_length])), (o_seen, .inl (G.2.1, o_seenN, .inl o_seenF)), (o_rests, .inl (G.2.1, o_restsN, .inl o_restsF)), (o_current, .inl (G.2.1, o_currentN, .inl o_currentF)), (o_above, .inl (G.2.1, o_aboveN, .inl o_aboveF))]) (wr := []) (w1 := [(o, .inr (3, [.int o_step, .ref o_seen, .int w_4, .ref o_rests, .ref o_current, .ref o_above, .int o_length])), (o_seen, .inl (G.2.1, o_seenN, .inl w_3)), (o_rests, .inl (G.2.1, o_restsN, .inl w_5)), (o_current, .inl (G.2.1, o_currentN, .inl o_currentF)), (o_above, .inl (G.2.1, o_aboveN, .inl o_aboveF))]) (ws' := [(o, .inr (3, [.int o_step, .ref o_seen, .int w_4, .ref o_rests, .ref o_current, .ref o_above, .int o_length])), (o_seen, .inl (G.2.1, o_seenN, .inl w_3)), (o_rests, .inl (G.2.1, o_restsN, .inl w_5)), (o_current, .inl (G.2.1, o_currentN, .inl o_currentF)), (o_above, .inl (G.2.1, o_aboveN, .inl o_aboveF))]) B [0, 1, 2, 3, 4] [] [0, 1, 2, 3, 4] rfl rfl rfl rfl (by decide) rfl rfl (xrunV C0 (c_X3_worthOf l G o o_step o_seen o_seenN o_seenF o_counts o_rests o_restsN o_restsF o_current o_currentN o_currentF o_above o_aboveN o_aboveF o_length y4 y1 n r_2 w_3 w_4 w_5 e_6 H.size) kb_X3_worthOf kv_X3_worthOf wd_238 (ci := 3) rfl rfl rfl rfl rfl ⟨Nat.le_of_ble_eq_true rfl, Nat.le_of_ble_eq_true rfl⟩ rfl hl rfl (Nat.le_of_ble_eq_true rfl) dX3_bestKind_22 ⟨Nat.le_of_ble_eq_true rfl, Nat.le_of_ble_eq_true rfl⟩) (fun H locs B => ?_)
      refine lv_istore (lv' := [(5, .int r_2), (0, .ref o), (1, .int y1), (2, .int y2), (3, .int y3), (4, .int y4)]) hx hb dX3_bestKind_25 hl (by decide) rfl (fun ls hl => ?_)
      refine lv_iload hx hb dX3_bestKind_27 (lv_at hl 0 rfl) ?_
      refine lv_iload_n hx hb dX3_bestKind_29 rfl (lv_at hl 4 rfl) ?_
      refine lv_icmp_ge (tgt := 39) hx hb dX3_bestKind_30 (by decide) (fun c_7 => ?_) (fun c_7 => ?_)
      · have h := oif_t h c_7
        refine lv_iinc (v := (y4 + (1 : Int32))) (lv' := [(4, .int (y4 + (1 : Int32))), (5, .int r_2), (0, .ref o), (1, .int y1), (2, .int y2), (3, .int y3)]) hx hb dX3_bestKind_39 hl (k := 5) rfl rfl (by decide) rfl (fun ls hl => ?_)
        refine lv_goto (tgt := 12) hx hb dX3_bestKind_42 (by decide) ?_
        exact ih o o_step o_seen o_seenN w_3 w_4 o_rests o_restsN w_5 o_current o_currentN o_currentF o_above o_aboveN o_aboveF o_length y1 y2 y3 (y4 + (1 : Int32)) _ _ _ _ _ _ h H locs ls (B.sub [0, 1, 2, 3, 4] rfl rfl) (lv_sub hl [2, 3, 4, 5, 0] rfl) K
      · have h := oif_f h c_7
        refine lv_iload hx hb dX3_bestKind_33 (lv_at hl 0 rfl) ?_
        refine lv_istore_n (lv' := [(3, .int r_2), (5, .int r_2), (0, .ref o), (1, .int y1), (2, .int y2), (4, .int y4)]) hx hb dX3_bestKind_35 rfl hl (by decide) rfl (fun ls hl => ?_)
        refine lv_iload hx hb dX3_bestKind_36 (lv_at hl 5 rfl) ?_
        refine lv_istore_n (lv' := [(2, .int y4), (3, .int r_2), (5, .int r_2), (0, .ref o), (1, .int y1), (4, .int y4)]) hx hb dX3_bestKind_38 rfl hl (by decide) rfl (fun ls hl => ?_)
        refine lv_iinc (v := (y4 + (1 : Int32))) (lv' := [(4, .int (y4 + (1 : Int32))), (2, .int y4), (3, .int r_2), (5, .int r_2), (0, .ref o), (1, .int y1)]) hx hb dX3_bestKind_39 hl (k := 5) rfl rfl (by decide) rfl (fun ls hl => ?_)
        refine lv_goto (tgt := 12) hx hb dX3_bestKind_42 (by decide) ?_
        exact ih o o_step o_seen o_seenN w_3 w_4 o_rests o_restsN w_5 o_current o_currentN o_currentF o_above o_aboveN o_aboveF o_length y1 y4 r_2 (y4 + (1 : Int32)) _ _ _ _ _ _ h H locs ls (B.sub [0, 1, 2, 3, 4] rfl rfl) (lv_sub hl [4, 5, 1, 2, 0] rfl) K
set_option maxHeartbeats 4000000 in
set_option maxRecDepth 100000 in
theorem c_X3_bestKind (l : Launch) (G : xG) (o : Nat) (o_step : Int32) (o_seen : Nat) (o_seenN : Nat) (o_seenF : Nat → Int32) (o_counts : Int32) (o_rests : Nat) (o_restsN : Nat) (o_restsF : Nat → Int32) (o_current : Nat) (o_currentN : Nat) (o_currentF : Nat → Int32) (o_above : Nat) (o_aboveN : Nat) (o_aboveF : Nat → Int32) (o_length : Int32) (x1 : Int32) (n : Nat) (zr : Int32) (z_o_seenF : Nat → Int32) (z_o_counts : Int32) (z_o_restsF : Nat → Int32) (hF : f_X3_bestKind n o_step o_seenN o_seenF o_counts o_restsN o_restsF o_currentN o_currentF o_aboveN o_aboveF o_length x1 = some (zr, z_o_seenF, z_o_counts, z_o_restsF)) (sz : Nat) : Met l yX3_bestKind (xws yX3_bestKind cX3_bestKind 6 (some .int)) rm_X3_bestKind (va_Pc [.ref o, .int x1] (xPre G [(o, .inr (3, [.int o_step, .ref o_seen, .int o_counts, .ref o_rests, .ref o_current, .ref o_above, .int o_length])), (o_seen, .inl (G.2.1, o_seenN, .inl o_seenF)), (o_rests, .inl (G.2.1, o_restsN, .inl o_restsF)), (o_current, .inl (G.2.1, o_currentN, .inl o_currentF)), (o_above, .inl (G.2.1, o_aboveN, .inl o_aboveF))] sz)) (xQ G (some (.int zr)) [(o, .inr (3, [.int o_step, .ref o_seen, .int z_o_counts, .ref o_rests, .ref o_current, .ref o_above, .int o_length])), (o_seen, .inl (G.2.1, o_seenN, .inl z_o_seenF)), (o_rests, .inl (G.2.1, o_restsN, .inl z_o_restsF)), (o_current, .inl (G.2.1, o_currentN, .inl o_currentF)), (o_above, .inl (G.2.1, o_aboveN, .inl o_aboveF))] (va_A [(o, .inr (3, [.int o_step, .ref o_seen, .int o_counts, .ref o_rests, .ref o_current, .ref o_above, .int o_length])), (o_seen, .inl (G.2.1, o_seenN, .inl o_seenF)), (o_rests, .inl (G.2.1, o_restsN, .inl o_restsF)), (o_current, .inl (G.2.1, o_currentN, .inl o_currentF)), (o_above, .inl (G.2.1, o_aboveN, .inl o_aboveF))] sz)) 0 0 (va_A [(o, .inr (3, [.int o_step, .ref o_seen, .int o_counts, .ref o_rests, .ref o_current, .ref o_above, .int o_length])), (o_seen, .inl (G.2.1, o_seenN, .inl o_seenF)), (o_rests, .inl (G.2.1, o_restsN, .inl o_restsF)), (o_current, .inl (G.2.1, o_currentN, .inl o_currentF)), (o_above, .inl (G.2.1, o_aboveN, .inl o_aboveF))] sz) := by
  refine xMetQ (by decide) (Nat.le_of_ble_eq_true rfl) ?_
  intro p e s m below meth c ls A H locs C0 hnm B hl
  have hl : lv_has ls 6 [(0, .ref o), (1, .int x1)] := hl
  have h := hF
  unfold f_X3_bestKind at h
  obtain ⟨hx, hb, hr, hml, hown, hts, hlk⟩ := id C0
  refine lv_iconst (v := 0) hx hb dX3_bestKind_0 (by decide) ?_
  refine lv_istore_n (lv' := [(2, .int (0 : Int32)), (0, .ref o), (1, .int x1)]) hx hb dX3_bestKind_1 rfl hl (by decide) rfl (fun ls hl => ?_)
  refine lv_aload_n hx hb dX3_bestKind_2 rfl (lv_at hl 1 rfl) ?_
  refine lv_iconst (v := 0) hx hb dX3_bestKind_3 (by decide) ?_
  refine lv_iload_n hx hb dX3_bestKind_4 rfl (lv_at hl 2 rfl) ?_
  obtain ⟨⟨r_1, w_2, w_3, w_4⟩, e_5, h⟩ := xb_spec h
  dsimp only at h
  refine xcall0 (wc := [(o, .inr (3, [.int o_step, .ref o_seen, .int o_counts, .ref o_rests, .ref o_current, .ref o_above, .int o_length])), (o_seen, .inl (G.2.1, o_seenN, .inl o_seenF)), (o_rests, .inl (G.2.1, o_restsN, .inl o_restsF)), (o_current, .inl (G.2.1, o_currentN, .inl o_currentF)), (o_above, .inl (G.2.1, o_aboveN, .inl o_aboveF))]) (wr := []) (w1 := [(o, .inr (3, [.int o_step, .ref o_seen, .int w_3, .ref o_rests, .ref o_current, .ref o_above, .int o_length])), (o_seen, .inl (G.2.1, o_seenN, .inl w_2)), (o_rests, .inl (G.2.1, o_restsN, .inl w_4)), (o_current, .inl (G.2.1, o_currentN, .inl o_currentF)), (o_above, .inl (G.2.1, o_aboveN, .inl o_aboveF))]) (ws' := [(o, .inr (3, [.int o_step, .ref o_seen, .int w_3, .ref o_rests, .ref o_current, .ref o_above, .int o_length])), (o_seen, .inl (G.2.1, o_seenN, .inl w_2)), (o_rests, .inl (G.2.1, o_restsN, .inl w_4)), (o_current, .inl (G.2.1, o_currentN, .inl o_currentF)), (o_above, .inl (G.2.1, o_aboveN, .inl o_aboveF))]) B [0, 1, 2, 3, 4] [] [0, 1, 2, 3, 4] rfl rfl rfl rfl (by decide) rfl rfl (xrunV C0 (c_X3_worthOf l G o o_step o_seen o_seenN o_seenF o_counts o_rests o_restsN o_restsF o_current o_currentN o_currentF o_above o_aboveN o_aboveF o_length (0 : Int32) x1 n r_1 w_2 w_3 w_4 e_5 H.size) kb_X3_worthOf kv_X3_worthOf wd_238 (ci := 3) rfl rfl rfl rfl rfl ⟨Nat.le_of_ble_eq_true rfl, Nat.le_of_ble_eq_true rfl⟩ rfl hl rfl (Nat.le_of_ble_eq_true rfl) dX3_bestKind_5 ⟨Nat.le_of_ble_eq_true rfl, Nat.le_of_ble_eq_true rfl⟩) (fun H locs B => ?_)
  refine lv_istore_n (lv' := [(3, .int r_1), (2, .int (0 : Int32)), (0, .ref o), (1, .int x1)]) hx hb dX3_bestKind_8 rfl hl (by decide) rfl (fun ls hl => ?_)
  refine lv_iconst (v := 1) hx hb dX3_bestKind_9 (by decide) ?_
  refine lv_istore (lv' := [(4, .int (1 : Int32)), (3, .int r_1), (2, .int (0 : Int32)), (0, .ref o), (1, .int x1)]) hx hb dX3_bestKind_10 hl (by decide) rfl (fun ls hl => ?_)
  obtain ⟨⟨v_6, v_7, v_8, w_9, w_10, w_11⟩, e_12, h⟩ := xb_spec h
  refine lo_X3_bestKind_12 C0 n o o_step o_seen o_seenN w_2 w_3 o_rests o_restsN w_4 o_current o_currentN o_currentF o_above o_aboveN o_aboveF o_length x1 (0 : Int32) r_1 (1 : Int32) v_6 v_7 v_8 w_9 w_10 w_11 e_12 H locs ls (B.sub [0, 1, 2, 3, 4] rfl rfl) (lv_sub hl [3, 4, 2, 1, 0] rfl) (fun H locs ls B hl => ?_)
  refine lv_iload_n hx hb dX3_bestKind_45 rfl (lv_at hl 2 rfl) ?_
  obtain ⟨g1, k1⟩ := Prod.mk.inj (Option.some.inj h)
  obtain ⟨g2, k2⟩ := Prod.mk.inj k1
  obtain ⟨g3, k3⟩ := Prod.mk.inj k2
  subst g1 g2 g3 k3
  exact xreti C0 B [0, 1, 2, 3, 4] rfl rfl dX3_bestKind_46
