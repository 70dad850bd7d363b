/-! ===== lines ===== -/
def RelY (M : Nat) (F G : Nat → Int32) : Prop := ∀ i, i < M → ∃ v : Nat, v < 256 ∧ F i = nI v ∧ G i = nI v
theorem RelL.toY {M T : Nat} {F G : Nat → Int32} (h : RelL M F G T) : RelY M F G := fun i hi => by
  obtain ⟨v, a, b, c, -⟩ := h i hi
  exact ⟨v, a, b, c⟩
theorem above_97 (n : Nat) : ∀ a b c d e f g h i j k l, fl_X5_build_o_above_97 n a b c d e f g h i j k l = fl_X5_build_o_line_97 n a b c d e f g h i j k l := by
  induction n with
  | zero => intros; rfl
  | succ n ih =>
    intros
    rw [fl_X5_build_o_above_97, fl_X5_build_o_line_97]
    simp only [ih]
theorem above_80 (n : Nat) : ∀ a b c d e f g h i j k l m, fl_X5_build_o_above_80 n a b c d e f g h i j k l m = fl_X5_build_o_line_80 n a b c d e f g h i j k l m := by
  induction n with
  | zero => intros; rfl
  | succ n ih =>
    intros
    rw [fl_X5_build_o_above_80, fl_X5_build_o_line_80]
    simp only [ih, above_97]
theorem above_28 (n : Nat) : ∀ a b c d e f g h i j k l m o p q r s t, fl_X5_build_o_above_28 n a b c d e f g h i j k l m o p q r s t = fl_X5_build_o_line_28 n a b c d e f g h i j k l m o p q r s t := by
  induction n with
  | zero => intros; rfl
  | succ n ih =>
    intros
    rw [fl_X5_build_o_above_28, fl_X5_build_o_line_28]
    simp only [ih, above_80]
theorem above_3 (n : Nat) : ∀ a b c d e, fl_X5_build_o_above_3 n a b c d e = fl_X5_build_o_line_3 n a b c d e := by
  induction n with
  | zero => intros; rfl
  | succ n ih =>
    intros
    rw [fl_X5_build_o_above_3, fl_X5_build_o_line_3]
    simp only [ih]
theorem above_b (n : Nat) (a b c d e f g h i j k l m o p q r) : f_X5_build_o_above n a b c d e f g h i j k l m o p q r = f_X5_build_o_line n a b c d e f g h i j k l m o p q r := by
  unfold f_X5_build_o_above f_X5_build_o_line
  simp only [above_3, above_28]
theorem x_tab : ∀ p, p < 8 → ∀ k, k < 17 → tb_FIRST_COLUMN p + (nI k <<< (tb_COLUMN_SHIFT p &&& 31)) = nI (gFC p + k * gCS p) := by decide +kernel
theorem y_tab : ∀ p, p < 8 → ∀ k, k < 17 → tb_FIRST_ROW p + (nI k <<< (tb_ROW_SHIFT p &&& 31)) = nI (gFR p + k * gRS p) := by decide +kernel
theorem x_in : ∀ w, w < 17 → ∀ p, p < 8 → ∀ k, k < gCols w p → gFC p + k * gCS p < w := by decide +kernel
theorem y_in : ∀ w, w < 17 → ∀ p, p < 8 → ∀ k, k < gRows w p → gFR p + k * gRS p < w := by decide +kernel
theorem cols_w : ∀ w, w < 17 → ∀ p, p < 8 → gCols w p ≤ w ∧ gCols w 0 = w := by decide +kernel
theorem rows_h : ∀ w, w < 17 → gRows w 0 = w := by decide +kernel
theorem gLB0 {w h ch bt : Nat} (hw : 1 ≤ w ∧ w ≤ 16) (hh : 1 ≤ h ∧ h ≤ 16) : gLB w h ch bt 0 = (w * ch * bt + 7) / 8 := by
  unfold gLB gLines
  have h1 := (cols_w w (by omega) 0 (by omega)).2
  have h2 := rows_h h (by omega)
  rw [h1, h2, if_neg (by rw [if_neg (by omega)]; omega)]
theorem gLB_le {w h ch bt p : Nat} (hw : 1 ≤ w ∧ w ≤ 16) (hh : 1 ≤ h ∧ h ≤ 16) (hp : p < 8) : gLB w h ch bt p ≤ gLB w h ch bt 0 := by
  rw [gLB0 hw hh]
  unfold gLB
  have h1 := (cols_w w (by omega) p hp).1
  have h2 : gCols w p * ch * bt ≤ w * ch * bt := Nat.mul_le_mul_right _ (Nat.mul_le_mul_right _ h1)
  split <;> omega
theorem gLB_128 {w h ch bt p : Nat} (hw : 1 ≤ w ∧ w ≤ 16) (hh : 1 ≤ h ∧ h ≤ 16) (hp : p < 8) (hc : ch ≤ 4) (hb : bt ≤ 16) : gLB w h ch bt p ≤ 128 := by
  refine Nat.le_trans (gLB_le hw hh hp) ?_
  rw [gLB0 hw hh]
  have := cb_le hw.2 hc hb
  omega
theorem lines_pos {w h p j : Nat} (h1 : j < gLines w h p) : gCols w p ≠ 0 ∧ j < gRows h p ∧ gLines w h p = gRows h p := by
  unfold gLines at h1 ⊢
  split at h1
  · omega
  · rename_i e
    exact ⟨e, h1, if_neg e⟩
theorem gLB_fit {w h ch bt p j : Nat} (hj : j < gLines w h p) : gCols w p * ch * bt ≤ 8 * gLB w h ch bt p := by
  unfold gLB
  rw [if_neg (by omega)]
  omega
theorem sampleOfLine_ok (n : Nat) {w ch p j k : Nat} (hp : p < 8) (hj : j < 17) (hk : k < 17) : f_X2_sampleOfLine n (nI w) (nI ch) (nI p) (nI j) (nI k) = some (nI (((gFR p + j * gRS p) * w + (gFC p + k * gCS p)) * ch)) := by
  unfold f_X2_sampleOfLine f_X2_indexOf
  rw [xin_nI hp (by decide), xin_nI hp (by decide), nI_clamp (by omega), x_tab p hp k hk, xl_eq, xin_nI hp (by decide), xin_nI hp (by decide), y_tab p hp j hj, xl_eq, xb_some, ← nI_0, idx_nI, Nat.add_zero]
theorem chan_ok {w h ch bt x y k M : Nat} (hG : Geo w h ch bt) (hx : x < w) (hy : y < h) {oS mS : Nat → Int32} (hR : RelS w h ch bt oS mS) (hM : M ≤ 128) (hfit : (k * ch + ch) * bt ≤ 8 * M) {y1 y2 y4 y6 z1 z2 z5 : Int32} : ∀ (r n c : Nat) (F G : Nat → Int32), c + r = ch → r + 20 < n → RelL M F G ((k * ch + c) * bt) → ∃ F' G' : Nat → Int32, fl_X2_packLine_58 n (nI bt) (nI ch) (w * h * ch) oS M F y1 y2 y4 (nI ((k * ch + c) * bt)) y6 (nI ((y * w + x) * ch)) (nI c) = some (nI ((k * ch + ch) * bt), nI ch, F') ∧ fl_X5_build_o_line_80 n (nI bt) (nI ch) 1024 mS 140 G z1 z2 (nI ((k * ch + c) * bt)) z5 (nI x) (nI y) (nI c) = some (nI ((k * ch + ch) * bt), nI ch, G') ∧ RelL M F' G' ((k * ch + ch) * bt) := by
  obtain ⟨hw1, hw2, hh1, hh2, hc1, hc2, hb, -⟩ := hG
  have hN := whc_le hw2 hh2 hc2
  intro r
  induction r with
  | zero =>
    intro n c F G h1 h2 h3
    obtain ⟨n, rfl⟩ : ∃ m, n = m + 1 := ⟨n - 1, by omega⟩
    have : c = ch := by omega
    subst this
    refine ⟨F, G, ?_, ?_, h3⟩
    · rw [fl_X2_packLine_58, if_pos (nI_le (Nat.le_refl _) (by omega))]
    · rw [fl_X5_build_o_line_80, if_pos (nI_le (Nat.le_refl _) (by omega))]
  | succ r ih =>
    intro n c F G h1 h2 h3
    obtain ⟨n, rfl⟩ : ∃ m, n = m + 1 := ⟨n - 1, by omega⟩
    have hk : c < ch := by omega
    obtain ⟨s, hs, e1, e2⟩ := hR y hy x hx c hk
    have hl := idx_lt hx hy hk
    have hT : (k * ch + c) * bt + bt = (k * ch + (c + 1)) * bt := by rw [← Nat.add_assoc, Nat.succ_mul]
    have hT2 : (k * ch + (c + 1)) * bt ≤ (k * ch + ch) * bt := Nat.mul_le_mul_right _ (by omega)
    obtain ⟨F1, G1, a1, a2, a3⟩ := sample_ok (y1 := z1) (y2 := z2) (y5 := z5) hb (T := (k * ch + c) * bt) (Nat.mul_mod_left _ _) (by omega) hM hs (show 4 * (16 * y + x) + c < 1024 by omega) e2 h3 n n (by omega)
    rw [hT] at a2 a3
    obtain ⟨F', G', i1, i2, i3⟩ := ih n (c + 1) F1 G1 (by omega) (by omega) a3
    refine ⟨F', G', ?_, ?_, i3⟩
    · rw [fl_X2_packLine_58, if_neg (nI_ge hk (by omega)), nI_add, xin_nI hl (by omega), nI_clamp (by omega), e1, a1, xb_some, nI_add, hT, nI_1]
      exact i1
    · rw [fl_X5_build_o_line_80, if_neg (nI_ge hk (by omega)), a2, xb_some]
      dsimp only
      rw [nI_1]
      exact i2
theorem cols_ok {w h ch bt p j M : Nat} (hG : Geo w h ch bt) (hp : p < 8) (hj : j < gLines w h p) {oS mS : Nat → Int32} (hR : RelS w h ch bt oS mS) {a b c d : Nat → Int32} (hT : Tab a b c d) (hM : M ≤ 128) (hfit : gLB w h ch bt p ≤ M) : ∀ (r n k : Nat) (F G : Nat → Int32), k + r = gCols w p → r + 40 < n → RelL M F G (k * ch * bt) → ∃ F' G' : Nat → Int32, fl_X2_packLine_38 n (nI w) (nI bt) (nI ch) (w * h * ch) oS M F (nI p) (nI j) (nI (gCols w p)) (nI (k * ch * bt)) (nI k) = some (nI (gCols w p * ch * bt), nI (gCols w p), F') ∧ fl_X5_build_o_line_28 n (nI w) (nI bt) (nI ch) 8 a 8 b 8 c 8 d 1024 mS 140 G (nI p) (nI j) (nI (k * ch * bt)) (nI k) = some (nI (gCols w p * ch * bt), nI (gCols w p), G') ∧ RelL M F' G' (gCols w p * ch * bt) := by
  have hG0 := hG
  obtain ⟨hw1, hw2, hh1, hh2, hc1, hc2, hb, -⟩ := hG
  obtain ⟨l1, l2, l3⟩ := lines_pos hj
  have hcw := gCols_le w (by omega) p hp
  have hrh := gRows_le h (by omega) p hp
  have hft := gLB_fit (ch := ch) (bt := bt) hj
  obtain ⟨t1, t2, t3, t4⟩ := hT p hp
  intro r
  induction r with
  | zero =>
    intro n k F G h1 h2 h3
    obtain ⟨n, rfl⟩ : ∃ m, n = m + 1 := ⟨n - 1, by omega⟩
    have : k = gCols w p := by omega
    subst this
    refine ⟨F, G, ?_, ?_, h3⟩
    · rw [fl_X2_packLine_38, if_pos (nI_le (Nat.le_refl _) (by omega))]
    · rw [fl_X5_build_o_line_28, wide_ok n ⟨hw1, hw2⟩ hp hT, xb_some, if_pos (nI_le (Nat.le_refl _) (by omega))]
  | succ r ih =>
    intro n k F G h1 h2 h3
    obtain ⟨n, rfl⟩ : ∃ m, n = m + 1 := ⟨n - 1, by omega⟩
    have hkc : k < gCols w p := by omega
    have hx := x_in w (by omega) p hp k hkc
    have hy := y_in h (by omega) p hp j l2
    have hS : (k * ch + ch) * bt = (k + 1) * ch * bt := by rw [Nat.succ_mul k ch]
    have hS2 : (k + 1) * ch * bt ≤ gCols w p * ch * bt := Nat.mul_le_mul_right _ (Nat.mul_le_mul_right _ hkc)
    obtain ⟨F1, G1, a1, a2, a3⟩ := chan_ok (k := k) (M := M) (y1 := nI p) (y2 := nI j) (y4 := nI (gCols w p)) (y6 := nI k) (z1 := nI p) (z2 := nI j) (z5 := nI k) hG0 hx hy hR hM (by omega) ch n 0 F G (by omega) (by omega) (by rw [Nat.add_zero]; exact h3)
    rw [hS] at a1 a2 a3
    rw [Nat.add_zero, nI_0] at a1 a2
    obtain ⟨F', G', i1, i2, i3⟩ := ih n (k + 1) F1 G1 (by omega) (by omega) a3
    refine ⟨F', G', ?_, ?_, i3⟩
    · rw [fl_X2_packLine_38, if_neg (nI_ge hkc (by omega)), sampleOfLine_ok n hp (by omega) (by omega), xb_some, a1, xb_some]
      dsimp only
      rw [nI_1]
      exact i1
    · rw [fl_X5_build_o_line_28, wide_ok n ⟨hw1, hw2⟩ hp hT, xb_some, if_neg (nI_ge hkc (by omega)), if_neg (nI_pos (by omega)), xin_nI hp (by decide), xin_nI hp (by decide), nI_clamp (by omega), t1, t2, pk_mul, nI_add, xl_eq, xin_nI hp (by decide), xin_nI hp (by decide), t3, t4, pk_mul, nI_add, xl_eq, a2, xb_some]
      dsimp only
      rw [nI_1]
      exact i2
theorem mfill_ok {y1 y2 : Int32} : ∀ (k n i : Nat) (F : Nat → Int32), i + k = 140 → k < n → ∃ G : Nat → Int32, fl_X5_build_o_line_3 n 140 F y1 y2 (nI i) = some (nI 140, G) ∧ (∀ j, i ≤ j → j < 140 → G j = 0) ∧ (∀ j, j < i ∨ 140 ≤ j → G j = F j) := by
  intro k
  have e64 : (140 : Int32) = nI 140 := by decide
  induction k with
  | zero =>
    intro n i F h1 h2
    obtain ⟨n, rfl⟩ : ∃ m, n = m + 1 := ⟨n - 1, by omega⟩
    refine ⟨F, ?_, fun j a b => by omega, fun j _ => rfl⟩
    rw [fl_X5_build_o_line_3]
    have : i = 140 := by omega
    subst this
    rw [if_pos (by decide)]
  | succ k ih =>
    intro n i F h1 h2
    obtain ⟨n, rfl⟩ : ∃ m, n = m + 1 := ⟨n - 1, by omega⟩
    obtain ⟨G, e, g1, g2⟩ := ih n (i + 1) (upd F i 0) (by omega) (by omega)
    refine ⟨G, ?_, fun j a b => ?_, fun j a => ?_⟩
    · rw [fl_X5_build_o_line_3, if_neg (by rw [e64]; exact nI_ge (by omega) (by decide)), xin_nI (by omega) (by decide), nI_clamp (by omega), nI_1]
      exact e
    · rcases Nat.eq_or_lt_of_le a with h | h
      · rw [g2 j (Or.inl (by omega)), ← h, pk_us]
      · exact g1 j h b
    · rw [g2 j (by omega), pk_un (by omega)]
/-- a line of both, the -1st being empty -/
theorem line_ok {n w h ch bt p : Nat} (hn : 300 < n) (hG : Geo w h ch bt) (hp : p < 8) {oS mS : Nat → Int32} (hR : RelS w h ch bt oS mS) {a b c d : Nat → Int32} (hT : Tab a b c d) (F G : Nat → Int32) (z : Int32) (hz : z < 0 ∨ ∃ j : Nat, j < gLines w h p ∧ z = nI j) : ∃ F' G' : Nat → Int32, f_X2_packLine n (nI w) (nI h) (nI bt) (nI ch) (w * h * ch) oS (gLB w h ch bt 0) F (nI p) z = some F' ∧ f_X5_build_o_line n (nI w) (nI bt) (nI ch) 8 a 8 b 8 c 8 d 1024 mS 140 G (nI p) z = some G' ∧ RelY (gLB w h ch bt 0) F' G' := by
  have hG0 := hG
  obtain ⟨hw1, hw2, hh1, hh2, hc1, hc2, hb, -⟩ := hG
  obtain ⟨hb1, hb2, -, -⟩ := bt_le hb
  have hM := gLB_128 (p := 0) ⟨hw1, hw2⟩ ⟨hh1, hh2⟩ (by omega) hc2 hb2
  obtain ⟨F0, f1, f2, -⟩ := f_fill_ok (0 : Int32) (n := n) F (show gLB w h ch bt 0 < 2 ^ 31 by omega) (by omega)
  obtain ⟨G0, g1, g2, -⟩ := mfill_ok (y1 := nI p) (y2 := z) 140 n 0 G (by omega) (by omega)
  rw [nI_0] at g1
  have hr : RelL (gLB w h ch bt 0) F0 G0 0 := fun i hi => ⟨0, by omega, f2 i hi, g2 i (by omega) (by omega), fun _ => rfl⟩
  rcases hz with hz | ⟨j, hj, rfl⟩
  · refine ⟨F0, G0, ?_, ?_, hr.toY⟩
    · unfold f_X2_packLine f_X2_hasLine
      rw [f1, xb_some, if_pos hz, xb_some, if_pos rfl]
    · unfold f_X5_build_o_line
      obtain ⟨m, rfl⟩ : ∃ m, n = m + 1 := ⟨n - 1, by omega⟩
      rw [g1, xb_some]
      dsimp only
      rw [fl_X5_build_o_line_28, wide_ok m ⟨hw1, hw2⟩ hp hT, xb_some]
      split
      · rfl
      · first | rfl | (rw [if_pos hz]; rfl)
  · have hl := gLines_le (w := w) hh2 hp
    obtain ⟨F', G', i1, i2, i3⟩ := cols_ok (M := gLB w h ch bt 0) hG0 hp hj hR hT hM (gLB_le ⟨hw1, hw2⟩ ⟨hh1, hh2⟩ hp) (gCols w p) n 0 F0 G0 (by omega) (by have := gCols_le w (by omega) p hp; omega) (by rw [Nat.zero_mul, Nat.zero_mul]; exact hr)
    rw [Nat.zero_mul, Nat.zero_mul, nI_0] at i1 i2
    refine ⟨F', G', ?_, ?_, i3.toY⟩
    · unfold f_X2_packLine f_X2_hasLine
      rw [f1, xb_some, if_neg (nI_pos (by omega)), linesOf_ok n ⟨hw1, hw2⟩ ⟨hh1, hh2⟩ hp, xb_some, if_neg (nI_ge hj (by omega)), xb_some, if_neg (by decide), lineBytes_ok n ⟨hw1, hw2⟩ ⟨hh1, hh2⟩ hp hc2 hb2, xb_some, if_pos (nI_le (gLB_le ⟨hw1, hw2⟩ ⟨hh1, hh2⟩ hp) (by omega)), columnsOf_fuel, columnsOf_ok w (by omega) p hp hw1, xb_some, i1]
      rfl
    · unfold f_X5_build_o_line
      rw [g1, xb_some]
      dsimp only
      rw [i2]
      rfl
/-- both lines taken -/
theorem take_ok {n w h ch bt p j : Nat} (hn : 300 < n) (hG : Geo w h ch bt) (hp : p < 8) (hj : j < gLines w h p) {oS mS : Nat → Int32} (hR : RelS w h ch bt oS mS) {a b c d : Nat → Int32} (hT : Tab a b c d) (cF aF lF bF : Nat → Int32) : ∃ C A C' A' : Nat → Int32, f_X3_takeLine n (gLB w h ch bt 0) (gLB w h ch bt 0) cF (gLB w h ch bt 0) aF (nI w) (nI h) (nI bt) (nI ch) (w * h * ch) oS (nI p) (nI j) = some (C, A, nI (gLB w h ch bt p)) ∧ f_X5_prepare n (nI w) (nI bt) (nI ch) 8 a 8 b 8 c 8 d 1024 mS 140 lF 140 bF (nI p) (nI j) = some (C', A') ∧ RelY (gLB w h ch bt 0) C C' ∧ RelY (gLB w h ch bt 0) A A' := by
  have hG0 := hG
  obtain ⟨hw1, hw2, hh1, hh2, hc1, hc2, hb, -⟩ := hG
  obtain ⟨hb1, hb2, -, -⟩ := bt_le hb
  have hM := gLB_128 (p := 0) ⟨hw1, hw2⟩ ⟨hh1, hh2⟩ (by omega) hc2 hb2
  have hle := gLB_le (ch := ch) (bt := bt) ⟨hw1, hw2⟩ ⟨hh1, hh2⟩ hp
  have hl := gLines_le (w := w) hh2 hp
  obtain ⟨C, C', c1, c2, c3⟩ := line_ok hn hG0 hp hR hT cF lF (nI j) (Or.inr ⟨j, hj, rfl⟩)
  obtain ⟨A, A', a1, a2, a3⟩ := line_ok hn hG0 hp hR hT aF bF (nI j - 1) (by
    cases j with
    | zero => left; rw [nI_0]; decide
    | succ j => right; exact ⟨j, by omega, nI_pred j⟩)
  refine ⟨C, A, C', A', ?_, ?_, c3, a3⟩
  · unfold f_X3_takeLine
    rw [lineBytes_ok n ⟨hw1, hw2⟩ ⟨hh1, hh2⟩ hp hc2 hb2, xb_some, c1, xb_some, a1, xb_some]
    split
    · rfl
    · rename_i e
      rw [nI_ltI (by omega) (by omega)] at e
      rw [show gLB w h ch bt p = gLB w h ch bt 0 by omega]
  · unfold f_X5_prepare
    rw [above_b, c2, xb_some, a2, xb_some]
