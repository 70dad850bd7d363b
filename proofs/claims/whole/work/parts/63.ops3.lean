/-! ===== passes ===== -/
def Tab (a b c d : Nat → Int32) : Prop := ∀ p, p < 8 → a p = nI (gFC p) ∧ b p = nI (gCS p) ∧ c p = nI (gFR p) ∧ d p = nI (gRS p)
theorem gLines_le {w h p : Nat} (hh : h ≤ 16) (hp : p < 8) : gLines w h p ≤ 16 := by
  unfold gLines
  split
  · omega
  · exact gRows_le h (by omega) p hp
theorem linesOf_ok (n : Nat) {w h p : Nat} (hw : 1 ≤ w ∧ w ≤ 16) (hh : 1 ≤ h ∧ h ≤ 16) (hp : p < 8) : f_X2_linesOf n (nI w) (nI h) (nI p) = some (nI (gLines w h p)) := by
  unfold f_X2_linesOf gLines
  rw [columnsOf_fuel, columnsOf_ok w (by omega) p hp hw.1, xb_some, rowsOf_fuel, rowsOf_ok h (by omega) p hp hh.1, xb_some]
  have := gCols_le w (by omega) p hp
  split
  · rename_i e
    rw [nI_z (by omega)] at e
    rw [if_pos e]; rfl
  · rename_i e
    rw [nI_z (by omega)] at e
    rw [if_neg e]
theorem cb_le {c ch bt : Nat} (h1 : c ≤ 16) (h2 : ch ≤ 4) (h3 : bt ≤ 16) : c * ch * bt ≤ 1024 :=
  Nat.le_trans (Nat.mul_le_mul (Nat.mul_le_mul h1 h2) h3) (by decide)
theorem lineBytes_ok (n : Nat) {w h p ch bt : Nat} (hw : 1 ≤ w ∧ w ≤ 16) (hh : 1 ≤ h ∧ h ≤ 16) (hp : p < 8) (hc : ch ≤ 4) (hb : bt ≤ 16) : f_X2_lineBytes n (nI w) (nI h) (nI bt) (nI ch) (nI p) = some (nI (gLB w h ch bt p)) := by
  unfold f_X2_lineBytes gLB gLines
  have h1 := gCols_le w (by omega) p hp
  have h2 := gRows_le h (by omega) p hp
  have h3 := cb_le h1 hc hb
  rw [columnsOf_fuel, columnsOf_ok w (by omega) p hp hw.1, xb_some, rowsOf_fuel, rowsOf_ok h (by omega) p hp hh.1, xb_some, pk_mul, pk_mul, show (7 : Int32) = nI 7 by decide, nI_add, pk_shrN (by omega) _ 3 (by decide)]
  by_cases e1 : gRows h p = 0
  · rw [if_pos (by rw [e1]; rfl), if_pos (by rw [e1]; split <;> rfl)]; rfl
  · rw [if_neg (by rw [nI_z (by omega)]; exact e1)]
    by_cases e2 : gCols w p = 0
    · rw [if_pos (by rw [if_pos e2]), e2]
      rw [Nat.zero_mul, Nat.zero_mul]
    · rw [if_neg (by rw [if_neg e2]; exact e1)]
theorem wide_tab : ∀ w, w < 17 → ∀ p, p < 8 → 1 ≤ w → (nI (gCS p) ≠ 0 ∧ (((nI w - nI (gFC p)) + nI (gCS p)) - (1 : Int32)) / nI (gCS p) = nI (gCols w p)) := by decide +kernel
theorem high_tab : ∀ w, w < 17 → ∀ p, p < 8 → 1 ≤ w → (nI (gRS p) ≠ 0 ∧ (((nI w - nI (gFR p)) + nI (gRS p)) - (1 : Int32)) / nI (gRS p) = nI (gRows w p)) := by decide +kernel
theorem wide_ok (n : Nat) {w p : Nat} (hw : 1 ≤ w ∧ w ≤ 16) (hp : p < 8) {a b c d : Nat → Int32} (hT : Tab a b c d) : f_X5_wide n (nI w) 8 a 8 b (nI p) = some (nI (gCols w p)) := by
  obtain ⟨h1, h2, -, -⟩ := hT p hp
  obtain ⟨h3, h4⟩ := wide_tab w (by omega) p hp hw.1
  unfold f_X5_wide
  rw [xin_nI hp (by decide), xin_nI hp (by decide), xin_nI hp (by decide), nI_clamp (by omega), h1, h2, xnz_ok h3, h4]
theorem high_ok (n : Nat) {w p : Nat} (hw : 1 ≤ w ∧ w ≤ 16) (hp : p < 8) {a b c d : Nat → Int32} (hT : Tab a b c d) : f_X5_high n (nI w) 8 c 8 d (nI p) = some (nI (gRows w p)) := by
  obtain ⟨-, -, h1, h2⟩ := hT p hp
  obtain ⟨h3, h4⟩ := high_tab w (by omega) p hp hw.1
  unfold f_X5_high
  rw [xin_nI hp (by decide), xin_nI hp (by decide), xin_nI hp (by decide), nI_clamp (by omega), h1, h2, xnz_ok h3, h4]
theorem nI_le0 {a : Nat} (h : a < 2 ^ 31) : nI a ≤ 0 ↔ a = 0 := by
  rw [← nI_0, nI_leI h (by decide)]; omega
theorem mlines_ok (n : Nat) {w h p : Nat} (hw : 1 ≤ w ∧ w ≤ 16) (hh : 1 ≤ h ∧ h ≤ 16) (hp : p < 8) {a b c d : Nat → Int32} (hT : Tab a b c d) : f_X5_lines n (nI w) (nI h) 8 a 8 b 8 c 8 d (nI p) = some (nI (gLines w h p)) := by
  unfold f_X5_lines gLines
  have h1 := gCols_le w (by omega) p hp
  have h2 := gRows_le h (by omega) p hp
  rw [wide_ok n hw hp hT, xb_some, high_ok n hh hp hT, xb_some]
  by_cases e : gCols w p = 0
  · rw [if_pos (by rw [nI_le0 (by omega)]; exact e), if_pos e]; rfl
  · rw [if_neg (by rw [nI_le0 (by omega)]; exact e), if_neg e]
    split
    · rename_i e2
      rw [nI_le0 (by omega)] at e2
      rw [e2]; rfl
    · rfl
theorem mbytes_ok (n : Nat) {w h p ch bt : Nat} (hw : 1 ≤ w ∧ w ≤ 16) (hh : 1 ≤ h ∧ h ≤ 16) (hp : p < 8) (hc : ch ≤ 4) (hb : bt ≤ 16) {a b c d : Nat → Int32} (hT : Tab a b c d) : f_X5_bytes n (nI w) (nI h) (nI bt) (nI ch) 8 a 8 b 8 c 8 d (nI p) = some (nI (gLB w h ch bt p)) := by
  unfold f_X5_bytes gLB
  have h1 := gCols_le w (by omega) p hp
  have h2 := gLines_le (w := w) hh.2 hp
  have h3 := cb_le h1 hc hb
  rw [mlines_ok n hw hh hp hT, xb_some, wide_ok n hw hp hT, xb_some, xnz_ok (by decide), pk_mul, pk_mul, show (7 : Int32) = nI 7 by decide, nI_add, show (8 : Int32) = nI 8 by decide, pk_div (by omega) (by decide) (by decide)]
  split
  · rename_i e
    rw [nI_z (by omega)] at e
    rw [if_pos e]; rfl
  · rename_i e
    rw [nI_z (by omega)] at e
    rw [if_neg e]
theorem pass_cases (n : Nat) (x : Int32) : (∃ p : Nat, p < 8 ∧ x = nI p ∧ f_X4_isPass n x = some 1 ∧ f_X5_in n x 0 7 = some 1) ∨ (f_X4_isPass n x = some 0 ∧ f_X5_in n x 0 7 = some 0) := by
  rcases i_cases x with h | ⟨j, hj, rfl⟩
  · right
    exact ⟨if_pos h, in_lt h⟩
  · rcases Nat.lt_or_ge j 8 with h | h
    · left
      refine ⟨j, h, rfl, ?_, in_ok (nI_pos hj) (by rw [nI7, nI_ltI (by decide) hj]; omega)⟩
      unfold f_X4_isPass
      rw [if_neg (nI_pos hj), if_neg (by rw [nI7, nI_ltI (by decide) hj]; omega)]
    · right
      refine ⟨?_, in_gt (by rw [nI7, nI_ltI (by decide) hj]; omega)⟩
      unfold f_X4_isPass
      rw [if_neg (nI_pos hj), if_pos (by rw [nI7, nI_ltI (by decide) hj]; omega)]
theorem nI4 : (4 : Int32) = nI 4 := by decide
theorem nI2 : (2 : Int32) = nI 2 := by decide
theorem nI1 : (1 : Int32) = nI 1 := by decide
theorem nI5 : (5 : Int32) = nI 5 := by decide
theorem kind_cases (n : Nat) (x : Int32) : (∃ p : Nat, p < 5 ∧ x = nI p ∧ f_X4_isKind n x = some 1 ∧ f_X5_in n x 0 4 = some 1) ∨ (f_X4_isKind n x = some 0 ∧ f_X5_in n x 0 4 = some 0) := by
  rcases i_cases x with h | ⟨j, hj, rfl⟩
  · right
    exact ⟨if_pos h, in_lt h⟩
  · rcases Nat.lt_or_ge j 5 with h | h
    · left
      refine ⟨j, h, rfl, ?_, in_ok (nI_pos hj) (by rw [nI4, nI_ltI (by decide) hj]; omega)⟩
      unfold f_X4_isKind
      rw [if_neg (nI_pos hj), if_neg (by rw [nI4, nI_ltI (by decide) hj]; omega)]
    · right
      refine ⟨?_, in_gt (by rw [nI4, nI_ltI (by decide) hj]; omega)⟩
      unfold f_X4_isKind
      rw [if_neg (nI_pos hj), if_pos (by rw [nI4, nI_ltI (by decide) hj]; omega)]
theorem gPlaces {w h p : Nat} : gLines w h p * gCols w p = gCols w p * gRows h p := by
  unfold gLines
  split
  · rename_i e
    rw [e, Nat.zero_mul, Nat.zero_mul]
  · rw [Nat.mul_comm]
/-- pass -/
theorem op3 {n w h ch bt : Nat} (hG : Geo w h ch bt) {a b c d : Nat → Int32} (hT : Tab a b c d) (x y : Int32) (oLF : Nat → Int64) : ∃ (ret v : Int32) (oLF' : Nat → Int64), f_L_pass n (nI w) (nI h) (nI bt) (nI ch) oLF x y = some (ret, oLF') ∧ f_X5_pass n (nI w) (nI h) (nI bt) (nI ch) 8 a 8 b 8 c 8 d x y = some (v, ret) ∧ (ret = 0 → lg_cmp (oLF' ((0 : Int32)).toNatClampNeg) v.toInt64 = 0) := by
  have c1 : ¬ (1 : Int32) ≤ 0 := by decide
  have c0 : (0 : Int32) ≤ 0 := by decide
  have c10 : ¬ (1 : Int32) = 0 := by decide
  obtain ⟨hw1, hw2, hh1, hh2, hc1, hc2, hb, -⟩ := hG
  obtain ⟨hb1, hb2, -, -⟩ := bt_le hb
  rcases pass_cases n x with ⟨p, hp, rfl, e1, e2⟩ | ⟨e1, e2⟩
  · have l1 := linesOf_ok n ⟨hw1, hw2⟩ ⟨hh1, hh2⟩ hp
    have l2 := lineBytes_ok n ⟨hw1, hw2⟩ ⟨hh1, hh2⟩ hp hc2 hb2
    have l3 : f_X2_placesOf n (nI w) (nI h) (nI p) = some (nI (gCols w p * gRows h p)) := by
      unfold f_X2_placesOf
      rw [columnsOf_fuel, columnsOf_ok w (by omega) p hp hw1, xb_some, rowsOf_fuel, rowsOf_ok h (by omega) p hp hh1, xb_some, pk_mul]
    have m1 := mlines_ok n ⟨hw1, hw2⟩ ⟨hh1, hh2⟩ hp hT
    have m2 := mbytes_ok n ⟨hw1, hw2⟩ ⟨hh1, hh2⟩ hp hc2 hb2 hT
    have m3 := wide_ok n ⟨hw1, hw2⟩ hp hT
    rcases i_cases y with h | ⟨j, hj, rfl⟩
    · refine ⟨1, 0, oLF, ?_, ?_, fun q => absurd q c10⟩
      · unfold f_L_pass f_X4_pass
        rw [e1, xb_some, if_neg c10, if_pos h]; rfl
      · unfold f_X5_pass
        rw [e2, xb_some, if_neg c10, in_lt h, xb_some, if_pos rfl, if_neg c1]
    · rcases Nat.lt_or_ge j 3 with hj2 | hj2
      · have i1 : f_X5_in n (nI j) 0 2 = some 1 := in_ok (nI_pos hj) (by rw [nI2, nI_ltI (by decide) hj]; omega)
        rcases Nat.lt_or_ge j 1 with h0 | h0
        · have : j = 0 := by omega
          subst this
          refine ⟨0, nI (gLines w h p), vp_updL oLF ((0 : Int32)).toNatClampNeg (nI (gLines w h p)).toInt64, ?_, ?_, fun _ => ?_⟩
          · unfold f_L_pass f_X4_pass
            rw [e1, xb_some, if_neg c10, if_neg (nI_pos hj), if_pos (by decide), if_pos (by decide), l1]; rfl
          · unfold f_X5_pass
            rw [e2, xb_some, if_neg c10, i1, xb_some, if_neg c10, if_pos c0, if_pos (by decide), m1]; rfl
          · rw [out0]; exact lg_same _
        · rcases Nat.lt_or_ge j 2 with h1 | h1
          · have : j = 1 := by omega
            subst this
            refine ⟨0, nI (gLB w h ch bt p), vp_updL oLF ((0 : Int32)).toNatClampNeg (nI (gLB w h ch bt p)).toInt64, ?_, ?_, fun _ => ?_⟩
            · unfold f_L_pass f_X4_pass
              rw [e1, xb_some, if_neg c10, if_neg (nI_pos hj), if_pos (by decide), if_neg (by decide), if_pos (by decide), l2]; rfl
            · unfold f_X5_pass
              rw [e2, xb_some, if_neg c10, i1, xb_some, if_neg c10, if_pos c0, if_neg (by decide), if_pos (by decide), m2]; rfl
            · rw [out0]; exact lg_same _
          · have : j = 2 := by omega
            subst this
            refine ⟨0, nI (gCols w p * gRows h p), vp_updL oLF ((0 : Int32)).toNatClampNeg (nI (gCols w p * gRows h p)).toInt64, ?_, ?_, fun _ => ?_⟩
            · unfold f_L_pass f_X4_pass
              rw [e1, xb_some, if_neg c10, if_neg (nI_pos hj), if_pos (by decide), if_neg (by decide), if_neg (by decide), l3]; rfl
            · unfold f_X5_pass
              rw [e2, xb_some, if_neg c10, i1, xb_some, if_neg c10, if_pos c0, if_neg (by decide), if_neg (by decide), m1, xb_some, m3, xb_some, pk_mul, gPlaces]
            · rw [out0]; exact lg_same _
      · refine ⟨1, 0, oLF, ?_, ?_, fun q => absurd q c10⟩
        · unfold f_L_pass f_X4_pass
          rw [e1, xb_some, if_neg c10, if_neg (nI_pos hj), if_neg (by rw [nI2]; exact nI_ge (by omega) hj)]; rfl
        · unfold f_X5_pass
          rw [e2, xb_some, if_neg c10, in_gt (by rw [nI2, nI_ltI (by decide) hj]; omega), xb_some, if_pos rfl, if_neg c1]
  · refine ⟨1, 0, oLF, ?_, ?_, fun q => absurd q c10⟩
    · unfold f_L_pass f_X4_pass
      rw [e1, xb_some, if_pos rfl]; rfl
    · unfold f_X5_pass
      rw [e2, xb_some, if_pos rfl, if_neg c1]
