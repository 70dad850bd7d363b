/-! ===== paint ===== -/
theorem paint37_ok {w h ch bt x y : Nat} (hG : Geo w h ch bt) (hx : x < w) (hy : y < h) (v by_ : Int32) : ∀ (k n c : Nat) (F G : Nat → Int32) (y3 y4 : Int32), c + k = ch → k < n → RelS w h ch bt F G → ∃ (F' G' : Nat → Int32) (y3' y4' : Int32), fl_X5_paint_37 n (nI bt) (nI ch) 1024 G v by_ y3 y4 (nI y) (nI x) (nI c) = some (y3', y4', nI ch, G') ∧ (∀ m, fl_X2_paintAll_8 (m + k) (nI (2 ^ bt - 1)) (w * h * ch) F v by_ y3 y4 (nI ((y * w + x) * ch + c)) = fl_X2_paintAll_8 m (nI (2 ^ bt - 1)) (w * h * ch) F' v by_ y3' y4' (nI ((y * w + x) * ch + ch))) ∧ RelS w h ch bt F' G' := by
  obtain ⟨hw1, hw2, hh1, hh2, hc1, hc2, hb, -⟩ := hG
  have hN := whc_le hw2 hh2 hc2
  obtain ⟨-, -, hb1, hb2⟩ := bt_le hb
  have hm := most_ok hb
  intro k
  induction k with
  | zero =>
    intro n c F G y3 y4 h1 h2 h3
    obtain ⟨n, rfl⟩ : ∃ m, n = m + 1 := ⟨n - 1, by omega⟩
    have : c = ch := by omega
    subst this
    refine ⟨F, G, y3, y4, ?_, fun m => rfl, h3⟩
    rw [fl_X5_paint_37, if_pos (nI_le (Nat.le_refl _) (by omega))]
  | succ k ih =>
    intro n c F G y3 y4 h1 h2 h3
    obtain ⟨n, rfl⟩ : ∃ m, n = m + 1 := ⟨n - 1, by omega⟩
    have hk : c < ch := by omega
    have hl := idx_lt hx hy hk
    obtain ⟨q, hq, eq⟩ := pk_andE y4 (m := nI (2 ^ bt - 1)) bt (pk_tn (by omega))
    obtain ⟨u, hu, e1, e2⟩ := h3 y hy x hx c hk
    by_cases e : nI u = nI q
    · obtain ⟨F', G', z3, z4, i1, i2, i3⟩ := ih n (c + 1) _ _ y3 (y4 + by_) (by omega) (by omega) (h3.put (j := y) hx hw2 hk hc2 hq)
      refine ⟨F', G', z3, z4, ?_, fun m => ?_, i3⟩
      · rw [fl_X5_paint_37, if_neg (nI_ge hk (by omega)), hm, xl_eq, eq, place_nI, xb_some, xb_some, nI_add, xin_nI (by omega) (by decide), xin_nI (by omega) (by decide), nI_clamp (by omega), e2, if_pos e, nI_1]
        exact i1
      · rw [← i2 m, show m + (k + 1) = (m + k) + 1 by omega, fl_X2_paintAll_8, if_neg (nI_ge hl (by omega)), xin_nI hl (by omega), xin_nI hl (by omega), nI_clamp (by omega), e1, eq, if_pos e, nI_1]; rfl
    · obtain ⟨F', G', z3, z4, i1, i2, i3⟩ := ih n (c + 1) _ _ (y3 + 1) (y4 + by_) (by omega) (by omega) (h3.put (j := y) hx hw2 hk hc2 hq)
      refine ⟨F', G', z3, z4, ?_, fun m => ?_, i3⟩
      · rw [fl_X5_paint_37, if_neg (nI_ge hk (by omega)), hm, xl_eq, eq, place_nI, xb_some, nI_add, xin_nI (by omega) (by decide), nI_clamp (by omega), e2, if_neg e, xb_some, nI_add, xin_nI (by omega) (by decide), nI_clamp (by omega), nI_1]
        exact i1
      · rw [← i2 m, show m + (k + 1) = (m + k) + 1 by omega, fl_X2_paintAll_8, if_neg (nI_ge hl (by omega)), xin_nI hl (by omega), nI_clamp (by omega), e1, eq, if_neg e, xin_nI hl (by omega), nI_1]; rfl
theorem paint25_ok {w h ch bt y : Nat} (hG : Geo w h ch bt) (hy : y < h) (v by_ : Int32) : ∀ (k n x : Nat) (F G : Nat → Int32) (y3 y4 : Int32), x + k = w → k + 8 < n → RelS w h ch bt F G → ∃ (F' G' : Nat → Int32) (y3' y4' : Int32), fl_X5_paint_25 n (nI w) (nI bt) (nI ch) 1024 G v by_ y3 y4 (nI y) (nI x) = some (y3', y4', nI w, G') ∧ (∀ m, fl_X2_paintAll_8 (m + k * ch) (nI (2 ^ bt - 1)) (w * h * ch) F v by_ y3 y4 (nI ((y * w + x) * ch)) = fl_X2_paintAll_8 m (nI (2 ^ bt - 1)) (w * h * ch) F' v by_ y3' y4' (nI ((y * w + w) * ch))) ∧ RelS w h ch bt F' G' := by
  have hG0 := hG
  obtain ⟨hw1, hw2, hh1, hh2, hc1, hc2, hb, -⟩ := hG
  intro k
  induction k with
  | zero =>
    intro n x F G y3 y4 h1 h2 h3
    obtain ⟨n, rfl⟩ : ∃ m, n = m + 1 := ⟨n - 1, by omega⟩
    have : x = w := by omega
    subst this
    refine ⟨F, G, y3, y4, ?_, fun m => by rw [Nat.zero_mul]; rfl, h3⟩
    rw [fl_X5_paint_25, if_pos (nI_le (Nat.le_refl _) (by omega))]
  | succ k ih =>
    intro n x F G y3 y4 h1 h2 h3
    obtain ⟨n, rfl⟩ : ∃ m, n = m + 1 := ⟨n - 1, by omega⟩
    obtain ⟨F1, G1, z3, z4, a1, a2, a3⟩ := paint37_ok hG0 (show x < w by omega) hy v by_ ch n 0 F G y3 y4 (by omega) (by omega) h3
    obtain ⟨F', G', z5, z6, i1, i2, i3⟩ := ih n (x + 1) F1 G1 z3 z4 (by omega) (by omega) a3
    refine ⟨F', G', z5, z6, ?_, fun m => ?_, i3⟩
    · rw [nI_0] at a1
      rw [fl_X5_paint_25, if_neg (nI_ge (by omega) (by omega)), a1, xb_some, nI_1]
      exact i1
    · have := a2 (m + k * ch)
      rw [← i2 m, show m + (k + 1) * ch = m + k * ch + ch by rw [Nat.succ_mul]; omega]
      rw [Nat.add_zero] at this
      rw [this, show (y * w + x) * ch + ch = (y * w + (x + 1)) * ch by rw [← Nat.add_assoc, Nat.succ_mul]]
theorem paint13_ok {w h ch bt : Nat} (hG : Geo w h ch bt) (v by_ : Int32) : ∀ (k n y : Nat) (F G : Nat → Int32) (y3 y4 : Int32), y + k = h → k + 40 < n → RelS w h ch bt F G → ∃ (F' G' : Nat → Int32) (y3' y4' : Int32), fl_X5_paint_13 n (nI w) (nI h) (nI bt) (nI ch) 1024 G v by_ y3 y4 (nI y) = some (y3', y4', nI h, G') ∧ (∀ m, fl_X2_paintAll_8 (m + k * w * ch) (nI (2 ^ bt - 1)) (w * h * ch) F v by_ y3 y4 (nI (y * w * ch)) = fl_X2_paintAll_8 m (nI (2 ^ bt - 1)) (w * h * ch) F' v by_ y3' y4' (nI (w * h * ch))) ∧ RelS w h ch bt F' G' := by
  have hG0 := hG
  obtain ⟨hw1, hw2, hh1, hh2, hc1, hc2, hb, -⟩ := hG
  intro k
  induction k with
  | zero =>
    intro n y F G y3 y4 h1 h2 h3
    obtain ⟨n, rfl⟩ : ∃ m, n = m + 1 := ⟨n - 1, by omega⟩
    have : y = h := by omega
    subst this
    refine ⟨F, G, y3, y4, ?_, fun m => by rw [Nat.zero_mul, Nat.zero_mul, Nat.mul_comm y w]; rfl, h3⟩
    rw [fl_X5_paint_13, if_pos (nI_le (Nat.le_refl _) (by omega))]
  | succ k ih =>
    intro n y F G y3 y4 h1 h2 h3
    obtain ⟨n, rfl⟩ : ∃ m, n = m + 1 := ⟨n - 1, by omega⟩
    obtain ⟨F1, G1, z3, z4, a1, a2, a3⟩ := paint25_ok hG0 (show y < h by omega) v by_ w n 0 F G y3 y4 (by omega) (by omega) h3
    obtain ⟨F', G', z5, z6, i1, i2, i3⟩ := ih n (y + 1) F1 G1 z3 z4 (by omega) (by omega) a3
    refine ⟨F', G', z5, z6, ?_, fun m => ?_, i3⟩
    · rw [nI_0] at a1
      rw [fl_X5_paint_13, if_neg (nI_ge (by omega) (by omega)), a1, xb_some, nI_1]
      exact i1
    · have := a2 (m + k * w * ch)
      rw [← i2 m, show m + (k + 1) * w * ch = m + k * w * ch + w * ch by rw [Nat.succ_mul, Nat.add_mul]; omega]
      rw [Nat.add_zero] at this
      rw [this, show y * w + w = (y + 1) * w by rw [Nat.succ_mul]]
/-- paint -/
theorem op1 {n w h ch bt : Nat} (hn : 2000 < n) (hG : Geo w h ch bt) {oS mS : Nat → Int32} (hR : RelS w h ch bt oS mS) (v by_ : Int32) : ∃ (r : Int32) (oS' mS' : Nat → Int32), f_X4_paint n (nI (2 ^ bt - 1)) (w * h * ch) oS v by_ = some (r, oS') ∧ f_X5_paint n (nI w) (nI h) (nI bt) (nI ch) 1024 mS v by_ = some (r, 0, mS') ∧ RelS w h ch bt oS' mS' := by
  obtain ⟨F', G', z3, z4, a1, a2, a3⟩ := paint13_ok hG v by_ h n 0 oS mS 0 v (by omega) (by have := hG.2.2.2.1; omega) hR
  have hN := whc_le hG.2.1 hG.2.2.2.1 hG.2.2.2.2.2.1
  refine ⟨z3, F', G', ?_, ?_, a3⟩
  · unfold f_X4_paint f_X2_paintAll
    have := a2 (n - w * h * ch)
    rw [show h * w * ch = w * h * ch by rw [Nat.mul_comm h w], Nat.sub_add_cancel (by omega), Nat.zero_mul, Nat.zero_mul, nI_0] at this
    rw [this]
    obtain ⟨m, hm⟩ : ∃ m, n - w * h * ch = m + 1 := ⟨n - w * h * ch - 1, by omega⟩
    rw [hm, fl_X2_paintAll_8, if_pos (nI_le (Nat.le_refl _) (by omega))]
    rfl
  · unfold f_X5_paint
    rw [nI_0] at a1
    rw [a1]; rfl
/-! ===== clean ===== -/
theorem upd_same {f : Nat → Int32} {i : Nat} {v : Int32} (h : f i = v) : upd f i v = f := by
  funext j
  by_cases e : j = i
  · rw [e, pk_us, h]
  · rw [pk_un e]
theorem replace_ok {n w h ch i j k u : Nat} {F : Nat → Int32} (v : Int32) (hw : 1 ≤ w ∧ w ≤ 16) (hh : 1 ≤ h ∧ h ≤ 16) (hc : 1 ≤ ch ∧ ch ≤ 4) (hi : i < w) (hj : j < h) (hk : k < ch) (hu : F ((j * w + i) * ch + k) = nI u) : f_X2_replaceSample n (nI w) (nI h) (nI ch) (w * h * ch) F (nI i) (nI j) (nI k) v = some (nI u, upd F ((j * w + i) * ch + k) v) ∧ f_X2_sampleAt n (nI w) (nI h) (nI ch) (w * h * ch) F (nI i) (nI j) (nI k) = some (nI u) := by
  have c10 : ¬ (1 : Int32) = 0 := by decide
  have hN := whc_le hw.2 hh.2 hc.2
  have hl := idx_lt hi hj hk
  have e1 : f_X2_hasSample n (nI w) (nI h) (nI ch) (nI i) (nI j) (nI k) = some 1 := by
    unfold f_X2_hasSample
    rw [if_neg (nI_pos (by omega)), if_neg (nI_ge hi (by omega)), if_neg (nI_pos (by omega)), if_neg (nI_ge hj (by omega)), if_neg (nI_pos (by omega)), if_neg (nI_ge hk (by omega))]
  have e2 : f_X2_sampleAt n (nI w) (nI h) (nI ch) (w * h * ch) F (nI i) (nI j) (nI k) = some (nI u) := by
    unfold f_X2_sampleAt f_X2_indexOf
    rw [e1, xb_some, if_neg c10, xb_some, idx_nI, xin_nI hl (by omega), nI_clamp (by omega), hu]
  refine ⟨?_, e2⟩
  unfold f_X2_replaceSample f_X2_indexOf
  rw [e2, xb_some, e1, xb_some, if_neg c10, xb_some, idx_nI, xin_nI hl (by omega), nI_clamp (by omega)]
theorem blank_ok {w h ch bt x y : Nat} (hG : Geo w h ch bt) (hx : x < w) (hy : y < h) {q2 q3 : Int32} : ∀ (k n c : Nat) (F G : Nat → Int32) (s t : Int32), c + k + 1 = ch → k < n → RelS w h ch bt F G → F ((y * w + x) * ch + (ch - 1)) = 0 → G (4 * (16 * y + x) + (ch - 1)) = 0 → ∃ (F' G' : Nat → Int32) (d : Nat), fl_X5_clean_57 n (nI ch) 1024 G s q2 q3 (nI (4 * (16 * y + x))) (nI c) = some (s + nI d, nI (ch - 1), G') ∧ (∀ m, fl_X2_blankPlace_5 (m + k) (nI w) (nI h) (nI ch) (w * h * ch) F (nI x) (nI y) t (nI c) = fl_X2_blankPlace_5 m (nI w) (nI h) (nI ch) (w * h * ch) F' (nI x) (nI y) (t + nI d) (nI (ch - 1))) ∧ RelS w h ch bt F' G' ∧ F' ((y * w + x) * ch + (ch - 1)) = 0 := by
  obtain ⟨hw1, hw2, hh1, hh2, hc1, hc2, hb, -⟩ := hG
  intro k
  induction k with
  | zero =>
    intro n c F G s t h1 h2 h3 h4 h5
    obtain ⟨n, rfl⟩ : ∃ m, n = m + 1 := ⟨n - 1, by omega⟩
    have : c = ch - 1 := by omega
    subst this
    refine ⟨F, G, 0, ?_, fun m => by rw [nI_0, Int32.add_zero]; rfl, h3, h4⟩
    rw [fl_X5_clean_57, nI1, pk_sub hc1, if_pos (nI_le (Nat.le_refl _) (by omega)), nI_0, Int32.add_zero]
  | succ k ih =>
    intro n c F G s t h1 h2 h3 h4 h5
    obtain ⟨n, rfl⟩ : ∃ m, n = m + 1 := ⟨n - 1, by omega⟩
    have hk : c < ch := by omega
    obtain ⟨u, hu, e1, e2⟩ := h3 y hy x hx c hk
    have hp := h3.put (j := y) (v := 0) hx hw2 hk hc2 (Nat.two_pow_pos bt)
    have g4 : upd F ((y * w + x) * ch + c) (nI 0) ((y * w + x) * ch + (ch - 1)) = 0 := by rw [pk_un (by omega)]; exact h4
    have g5 : upd G (4 * (16 * y + x) + c) (nI 0) (4 * (16 * y + x) + (ch - 1)) = 0 := by rw [pk_un (by omega)]; exact h5
    have hI : nI (4 * (16 * y + x)) + nI ch - 1 = nI (4 * (16 * y + x) + (ch - 1)) := by rw [nI_add, nI1, pk_sub (by omega), show 4 * (16 * y + x) + ch - 1 = 4 * (16 * y + x) + (ch - 1) by omega]
    by_cases e : u = 0
    · obtain ⟨F', G', d, i1, i2, i3, i4⟩ := ih n (c + 1) _ _ s t (by omega) (by omega) hp g4 g5
      refine ⟨F', G', d, ?_, fun m => ?_, i3, i4⟩
      · rw [fl_X5_clean_57, if_neg (by rw [nI1, pk_sub hc1]; exact nI_ge (by omega) (by omega)), hI, xin_nI (by omega) (by decide), nI_clamp (by omega), h5, if_pos rfl, nI_add, xin_nI (by omega) (by decide), nI_clamp (by omega), e2, if_pos (by rw [e]; rfl), xin_nI (by omega) (by decide), nI_1]
        exact i1
      · rw [← i2 m, show m + (k + 1) = (m + k) + 1 by omega, fl_X2_blankPlace_5, if_neg (nI_ge hk (by omega)), (replace_ok 0 ⟨hw1, hw2⟩ ⟨hh1, hh2⟩ ⟨hc1, hc2⟩ hx hy hk e1).1, xb_some]
        dsimp only
        rw [if_pos (by rw [e]; rfl), nI_1]
        rfl
    · obtain ⟨F', G', d, i1, i2, i3, i4⟩ := ih n (c + 1) _ _ (s + 1) (t + 1) (by omega) (by omega) hp g4 g5
      have hu2 : u < 2 ^ 31 := by
        obtain ⟨-, -, -, hb2⟩ := bt_le hb
        omega
      have hd : ∀ a : Int32, a + 1 + nI d = a + nI (d + 1) := fun a => by rw [Int32.add_assoc, nI1, nI_add, Nat.add_comm 1 d]
      refine ⟨F', G', d + 1, ?_, fun m => ?_, i3, i4⟩
      · rw [fl_X5_clean_57, if_neg (by rw [nI1, pk_sub hc1]; exact nI_ge (by omega) (by omega)), hI, xin_nI (by omega) (by decide), nI_clamp (by omega), h5, if_pos rfl, nI_add, xin_nI (by omega) (by decide), nI_clamp (by omega), e2, if_neg (by rw [nI_z hu2]; exact e), xin_nI (by omega) (by decide), nI_1, ← hd]
        exact i1
      · rw [← hd, ← i2 m, show m + (k + 1) = (m + k) + 1 by omega, fl_X2_blankPlace_5, if_neg (nI_ge hk (by omega)), (replace_ok 0 ⟨hw1, hw2⟩ ⟨hh1, hh2⟩ ⟨hc1, hc2⟩ hx hy hk e1).1, xb_some]
        dsimp only
        rw [if_neg (by rw [nI_z hu2]; exact e), nI_1]
        rfl
theorem clean39_ok {w h ch bt y : Nat} (hG : Geo w h ch bt) (hch : 2 ≤ ch) (hy : y < h) : ∀ (k n x : Nat) (F G : Nat → Int32) (s : Int32), x + k = w → k + 10 < n → RelS w h ch bt F G → ∃ (F' G' : Nat → Int32) (s' : Int32), fl_X5_clean_39 n (nI w) (nI ch) 1024 G s (nI y) (nI x) = some (s', nI w, G') ∧ fl_X2_cleanHidden_14 n (nI w) (nI h) (nI ch) (w * h * ch) F s (nI y) (nI x) = some (s', nI w, F') ∧ RelS w h ch bt F' G' := by
  have hG0 := hG
  obtain ⟨hw1, hw2, hh1, hh2, hc1, hc2, hb, -⟩ := hG
  obtain ⟨-, -, -, hb2⟩ := bt_le hb
  intro k
  induction k with
  | zero =>
    intro n x F G s h1 h2 h3
    obtain ⟨n, rfl⟩ : ∃ m, n = m + 1 := ⟨n - 1, by omega⟩
    have : x = w := by omega
    subst this
    refine ⟨F, G, s, ?_, ?_, h3⟩
    · rw [fl_X5_clean_39, if_pos (nI_le (Nat.le_refl _) (by omega))]
    · rw [fl_X2_cleanHidden_14, if_pos (nI_le (Nat.le_refl _) (by omega))]
  | succ k ih =>
    intro n x F G s h1 h2 h3
    obtain ⟨n, rfl⟩ : ∃ m, n = m + 1 := ⟨n - 1, by omega⟩
    have hx : x < w := by omega
    have hk : ch - 1 < ch := by omega
    obtain ⟨u, hu, e1, e2⟩ := h3 y hy x hx (ch - 1) hk
    have hr := (replace_ok (n := n) 0 ⟨hw1, hw2⟩ ⟨hh1, hh2⟩ ⟨hc1, hc2⟩ hx hy hk e1).2
    by_cases e : u = 0
    · subst e
      obtain ⟨F1, G1, d, a1, a2, a3, a4⟩ := blank_ok hG0 hx hy (q2 := nI y) (q3 := nI x) (ch - 1) n 0 F G s 0 (by omega) (by omega) h3 e1 e2
      obtain ⟨F', G', s', i1, i2, i3⟩ := ih n (x + 1) F1 G1 (s + nI d) (by omega) (by omega) a3
      refine ⟨F', G', s', ?_, ?_, i3⟩
      · rw [nI_0] at a1
        rw [fl_X5_clean_39, if_neg (nI_ge hx (by omega)), place_nI, xb_some, a1, xb_some, nI_1]
        exact i1
      · have hbl : f_X2_blankPlace n (nI w) (nI h) (nI ch) (w * h * ch) F (nI x) (nI y) = some (nI d, F1) := by
          unfold f_X2_blankPlace
          have := a2 (n - (ch - 1))
          rw [Nat.sub_add_cancel (by omega), nI_0] at this
          obtain ⟨m, hm⟩ : ∃ m, n - (ch - 1) = m + 2 := ⟨n - (ch - 1) - 2, by omega⟩
          rw [this, hm, fl_X2_blankPlace_5, if_neg (nI_ge hk (by omega)), (replace_ok (n := m + 1) (u := 0) 0 ⟨hw1, hw2⟩ ⟨hh1, hh2⟩ ⟨hc1, hc2⟩ hx hy hk a4).1, xb_some]
          dsimp only
          rw [if_pos nI_0, nI_1, Nat.sub_add_cancel hc1, fl_X2_blankPlace_5, if_pos (nI_le (Nat.le_refl _) (by omega)), upd_same a4, xb_some, Int32.zero_add]
        rw [fl_X2_cleanHidden_14, if_neg (nI_ge hx (by omega)), nI1, pk_sub hc1, hr, xb_some, if_pos nI_0, hbl, xb_some]
        dsimp only
        rw [nI_add]
        exact i2
    · have hu2 : u < 2 ^ 31 := by omega
      obtain ⟨F', G', s', i1, i2, i3⟩ := ih n (x + 1) F G s (by omega) (by omega) h3
      refine ⟨F', G', s', ?_, ?_, i3⟩
      · obtain ⟨m, rfl⟩ : ∃ m, n = m + 1 := ⟨n - 1, by omega⟩
        have hI : nI (4 * (16 * y + x)) + nI ch - 1 = nI (4 * (16 * y + x) + (ch - 1)) := by rw [nI_add, nI1, pk_sub (by omega), show 4 * (16 * y + x) + ch - 1 = 4 * (16 * y + x) + (ch - 1) by omega]
        have : fl_X5_clean_57 (m + 1) (nI ch) 1024 G s (nI y) (nI x) (nI (4 * (16 * y + x))) 0 = some (s, 0, G) := by
          rw [fl_X5_clean_57, if_neg (by rw [nI1, pk_sub hc1, nI_le0 (by omega)]; omega), hI, xin_nI (by omega) (by decide), nI_clamp (by omega), e2, if_neg (by rw [nI_z hu2]; exact e)]
        rw [fl_X5_clean_39, if_neg (nI_ge hx (by omega)), place_nI, xb_some, this, xb_some, nI_1]
        exact i1
      · rw [fl_X2_cleanHidden_14, if_neg (nI_ge hx (by omega)), nI1, pk_sub hc1, hr, xb_some, if_neg (by rw [nI_z hu2]; exact e), nI_add]
        exact i2
theorem clean22_ok {w h ch bt : Nat} (hG : Geo w h ch bt) (hch : 2 ≤ ch) : ∀ (k n y : Nat) (F G : Nat → Int32) (s : Int32), y + k = h → k + 40 < n → RelS w h ch bt F G → ∃ (F' G' : Nat → Int32) (s' : Int32), fl_X5_clean_22 n 0 (nI w) (nI h) (nI ch) 1024 G s (nI y) = some (s', nI h, G') ∧ fl_X2_cleanHidden_4 n (nI w) (nI h) (nI ch) (w * h * ch) F s (nI y) = some (s', nI h, F') ∧ RelS w h ch bt F' G' := by
  have hG0 := hG
  obtain ⟨hw1, hw2, hh1, hh2, hc1, hc2, hb, -⟩ := hG
  intro k
  induction k with
  | zero =>
    intro n y F G s h1 h2 h3
    obtain ⟨n, rfl⟩ : ∃ m, n = m + 1 := ⟨n - 1, by omega⟩
    have : y = h := by omega
    subst this
    refine ⟨F, G, s, ?_, ?_, h3⟩
    · rw [fl_X5_clean_22, if_pos (nI_le (Nat.le_refl _) (by omega))]
    · rw [fl_X2_cleanHidden_4, if_pos (nI_le (Nat.le_refl _) (by omega))]
  | succ k ih =>
    intro n y F G s h1 h2 h3
    obtain ⟨n, rfl⟩ : ∃ m, n = m + 1 := ⟨n - 1, by omega⟩
    have hy : y < h := by omega
    obtain ⟨F1, G1, s1, a1, a2, a3⟩ := clean39_ok hG0 hch hy w n 0 F G s (by omega) (by omega) h3
    obtain ⟨F', G', s', i1, i2, i3⟩ := ih n (y + 1) F1 G1 s1 (by omega) (by omega) a3
    rw [nI_0] at a1 a2
    refine ⟨F', G', s', ?_, ?_, i3⟩
    · rw [fl_X5_clean_22, if_neg (nI_ge hy (by omega)), if_pos rfl, a1, xb_some, nI_1]
      exact i1
    · rw [fl_X2_cleanHidden_4, if_neg (nI_ge hy (by omega)), a2, xb_some, nI_1]
      exact i2
/-- clean -/
theorem op12 {n w h ch bt : Nat} (hn : 2000 < n) (hG : Geo w h ch bt) {oS mS : Nat → Int32} (hR : RelS w h ch bt oS mS) (oLF : Nat → Int64) : ∃ (ret v : Int32) (oLF' : Nat → Int64) (oS' mS' : Nat → Int32), f_L_clean n (nI w) (nI h) (nI ch) (w * h * ch) oS oLF = some (ret, oS', oLF') ∧ f_X5_clean n (nI w) (nI h) (nI ch) 1024 mS = some (v, ret, mS') ∧ (ret = 0 → lg_cmp (oLF' ((0 : Int32)).toNatClampNeg) v.toInt64 = 0) ∧ RelS w h ch bt oS' mS' := by
  have c10 : ¬ (1 : Int32) = 0 := by decide
  have hG0 := hG
  obtain ⟨hw1, hw2, hh1, hh2, hc1, hc2, hb, -⟩ := hG
  by_cases e : ch = 2 ∨ ch = 4
  · obtain ⟨F', G', s', i1, i2, i3⟩ := clean22_ok hG0 (by omega) h n 0 oS mS 0 (by omega) (by omega) hR
    rw [nI_0] at i1 i2
    refine ⟨0, s', vp_updL oLF ((0 : Int32)).toNatClampNeg s'.toInt64, F', G', ?_, ?_, fun _ => ?_, i3⟩
    · have : f_X2_hasAlpha n (nI ch) = some 1 := by
        unfold f_X2_hasAlpha
        rcases e with rfl | rfl <;> decide
      unfold f_L_clean f_X4_clean f_X2_cleanHidden
      rw [this, xb_some, if_neg c10, i2]; rfl
    · unfold f_X5_clean
      rw [xnz_ok (by decide), if_pos (by rcases e with rfl | rfl <;> decide), i1]; rfl
    · rw [out0]; exact lg_same _
  · refine ⟨1, 0, oLF, oS, mS, ?_, ?_, fun q => absurd q c10, hR⟩
    · have : f_X2_hasAlpha n (nI ch) = some 0 := by
        have : ch = 1 ∨ ch = 3 := by omega
        unfold f_X2_hasAlpha
        rcases this with rfl | rfl <;> decide
      unfold f_L_clean f_X4_clean
      rw [this, xb_some, if_pos rfl]; rfl
    · unfold f_X5_clean
      obtain ⟨m, rfl⟩ : ∃ m, n = m + 1 := ⟨n - 1, by omega⟩
      rw [xnz_ok (by decide), if_neg (by
        have : ch = 1 ∨ ch = 3 := by omega
        rcases this with rfl | rfl <;> decide), fl_X5_clean_22, if_neg (by rw [nI_le0 (by omega)]; omega), if_neg c10]; rfl
