/-! ===== reading back: bits ===== -/
theorem guess_ok2 (n n' : Nat) {M L i st k : Nat} {C C' A A' : Nat → Int32} (hM : M ≤ 128) (hLM : L ≤ M) (hiL : i < L) (hs : 1 ≤ st ∧ st ≤ 8) (hk : k < 5) (hC : ∀ j, j < i → ∃ v : Nat, v < 256 ∧ C j = nI v ∧ C' j = nI v) (hA : RelY L A A') : ∃ g r3 r6 : Int32, f_X3_guess n (nI st) M C M A (nI k) (nI i) = some g ∧ f_X5_before_o_line n' (nI st) 140 C' (nI i) = some r3 ∧ f_X5_before_o_above n' (nI st) 140 A' (nI i) = some r6 ∧ f_X5_with n' (nI k) r3 (A' i) r6 = some g := by
  have hi : i < M := by omega
  obtain ⟨b, hb, b1, b2⟩ := hA i hiL
  obtain ⟨a, ha, a1, a2⟩ : ∃ a : Nat, a < 256 ∧ (st ≤ i → C (i - st) = nI a) ∧ (st ≤ i → C' (i - st) = nI a) := by
    by_cases h : st ≤ i
    · obtain ⟨v, v1, v2, v3⟩ := hC (i - st) (by omega)
      exact ⟨v, v1, fun _ => v2, fun _ => v3⟩
    · exact ⟨0, by omega, fun q => absurd q h, fun q => absurd q h⟩
  obtain ⟨c, hc, c1, c2⟩ : ∃ a : Nat, a < 256 ∧ (st ≤ i → A (i - st) = nI a) ∧ (st ≤ i → A' (i - st) = nI a) := by
    by_cases h : st ≤ i
    · obtain ⟨v, v1, v2, v3⟩ := hA (i - st) (by omega)
      exact ⟨v, v1, fun _ => v2, fun _ => v3⟩
    · exact ⟨0, by omega, fun q => absurd q h, fun q => absurd q h⟩
  have p1 := byteOr0_ok n hM hi hs.2 a1
  have p2 := byteAt_ok n hM hi b1
  have p3 := byteOr0_ok n hM hi hs.2 c1
  have q1 := before_ok n' hM hi hs.2 a2
  have q3 := before_ok n' hM hi hs.2 c2
  have ha' : (if st ≤ i then a else 0) < 256 := by split <;> omega
  have hc' : (if st ≤ i then c else 0) < 256 := by split <;> omega
  generalize (if st ≤ i then a else 0) = a0 at *
  generalize (if st ≤ i then c else 0) = c0 at *
  have hk5 : k = 0 ∨ k = 1 ∨ k = 2 ∨ k = 3 ∨ k = 4 := by omega
  unfold f_X3_guess
  rw [p1, xb_some, p2, xb_some, p3, xb_some, b2]
  rcases hk5 with rfl | rfl | rfl | rfl | rfl
  · refine ⟨0, nI a0, nI c0, ?_, q1, q3, ?_⟩
    · rw [if_neg (by decide), if_neg (by decide), if_neg (by decide), if_neg (by decide)]
    · unfold f_X5_with
      rw [if_pos (by decide)]
  · refine ⟨nI a0, nI a0, nI c0, ?_, q1, q3, ?_⟩
    · rw [if_pos (by decide)]
    · unfold f_X5_with
      rw [if_neg (by decide), if_pos (by decide)]
  · refine ⟨nI b, nI a0, nI c0, ?_, q1, q3, ?_⟩
    · rw [if_neg (by decide), if_pos (by decide)]
    · unfold f_X5_with
      rw [if_neg (by decide), if_neg (by decide), if_pos (by decide)]
  · refine ⟨nI ((a0 + b) / 2), nI a0, nI c0, ?_, q1, q3, ?_⟩
    · rw [if_neg (by decide), if_neg (by decide), if_pos (by decide), nI_add, pk_shrN (by omega) _ 1 (by decide), Nat.pow_one]
    · unfold f_X5_with
      rw [if_neg (by decide), if_neg (by decide), if_neg (by decide), if_pos (by decide), xnz_ok (by decide), nI_add, nI2, pk_div (by omega) (by decide) (by decide)]
  · have e := near_eq n' n (nI a0) (nI b) (nI c0)
    obtain ⟨g, hg⟩ : ∃ g, f_X3_nearest n (nI a0) (nI b) (nI c0) = some g := by
      rcases near_in n (a := nI a0) (b := nI b) (c := nI c0) with h | h | h
      · exact ⟨_, h⟩
      · exact ⟨_, h⟩
      · exact ⟨_, h⟩
    refine ⟨g, nI a0, nI c0, ?_, q1, q3, ?_⟩
    · rw [if_neg (by decide), if_neg (by decide), if_neg (by decide), if_pos (by decide), hg]; rfl
    · rw [← hg, ← e]; rfl

def gUn (b : Nat) : Nat → Nat → Nat → Nat
  | 0, _, v => v
  | j + 1, r, v => gUn b j (r + 1) (2 * v + b / 2 ^ (7 - r) % 2)
theorem gUn_add (b : Nat) : ∀ (j r v : Nat), gUn b j r v = v * 2 ^ j + gUn b j r 0 := by
  intro j
  induction j with
  | zero => intro r v; rw [gUn, gUn, Nat.pow_zero]; omega
  | succ j ih =>
    intro r v
    rw [gUn, gUn, ih, ih (r + 1) (2 * 0 + _), Nat.mul_zero, Nat.zero_add, Nat.pow_succ, Nat.add_mul, Nat.add_assoc, Nat.mul_comm 2 v, Nat.mul_assoc, Nat.mul_comm 2]
theorem gUn_tab1 : ∀ r, r < 8 → ∀ b, b < 256 → gUn b 1 r 0 = b / 2 ^ (8 - 1 - r) % 2 ^ 1 := by decide +kernel
theorem gUn_tab2 : ∀ r, r < 7 → ∀ b, b < 256 → gUn b 2 r 0 = b / 2 ^ (8 - 2 - r) % 2 ^ 2 := by decide +kernel
theorem gUn_tab4 : ∀ r, r < 5 → ∀ b, b < 256 → gUn b 4 r 0 = b / 2 ^ (8 - 4 - r) % 2 ^ 4 := by decide +kernel
theorem gUn_tab8 : ∀ b, b < 256 → gUn b 8 0 0 = b := by decide +kernel
theorem gUn_tab {bt r b : Nat} (hb : bt = 1 ∨ bt = 2 ∨ bt = 4 ∨ bt = 8) (hr : r + bt ≤ 8) (h : b < 256) : gUn b bt r 0 = b / 2 ^ (8 - bt - r) % 2 ^ bt := by
  rcases hb with rfl | rfl | rfl | rfl
  · exact gUn_tab1 r (by omega) b h
  · exact gUn_tab2 r (by omega) b h
  · exact gUn_tab4 r (by omega) b h
  · have : r = 0 := by omega
    subst this
    rw [gUn_tab8 b h]
    show b = b / 2 ^ 0 % 256
    rw [Nat.pow_zero, Nat.div_one, Nat.mod_eq_of_lt h]
theorem unchunk_ok {bt b : Nat} {G : Nat → Int32} {y1 y2 y4 y5 y6 y7 : Int32} (hb : b < 256) (hbt : bt ≤ 16) : ∀ (j T e v : Nat), T % 8 + j ≤ 8 → e + j ≤ bt → G (T / 8) = nI b → T / 8 < 140 → ∀ m, fl_X5_unpack_68 (m + j) (nI bt) 140 G y1 y2 (nI T) y4 y5 y6 y7 (nI v) (nI e) = fl_X5_unpack_68 m (nI bt) 140 G y1 y2 (nI (T + j)) y4 y5 y6 y7 (nI (gUn b j (T % 8) v)) (nI (e + j)) := by
  intro j
  induction j with
  | zero => intro T e v h1 h2 h3 h4 m; rfl
  | succ j ih =>
    intro T e v h1 h2 h3 h4 m
    have n8 : ¬ (8 : Int32) = 0 := by decide
    have hst : fl_X5_unpack_68 (m + (j + 1)) (nI bt) 140 G y1 y2 (nI T) y4 y5 y6 y7 (nI v) (nI e) = fl_X5_unpack_68 (m + j) (nI bt) 140 G y1 y2 (nI (T + 1)) y4 y5 y6 y7 (nI (2 * v + b / 2 ^ (7 - T % 8) % 2)) (nI (e + 1)) := by
      rw [show m + (j + 1) = (m + j) + 1 by omega, fl_X5_unpack_68, if_neg (nI_ge (by omega) (by omega)), xnz_ok n8, nI8, pk_rem (by omega) (by decide) (by decide), pk_div (by omega) (by decide) (by decide), xin_nI h4 (by decide), xnz_ok (by decide), nI_clamp (by omega), h3, nI7, pk_sub (by omega), pk_shrN (by omega) _ (7 - T % 8) (sm_ok _ (by omega)), pk_andN (by have := Nat.div_le_self b (2 ^ (7 - T % 8)); omega) 1 (by decide), xl_eq, nI2, pk_mul, nI_add, nI_1, nI_1, Nat.pow_one]
    rw [hst]
    rcases (show (T + 1) / 8 = T / 8 ∨ j = 0 by omega) with e8 | e8
    · rw [ih (T + 1) (e + 1) _ (by omega) (by omega) (by rw [e8]; exact h3) (by omega) m, gUn, show (T + 1) % 8 = T % 8 + 1 by omega, show T + 1 + j = T + (j + 1) by omega, show e + 1 + j = e + (j + 1) by omega]
    · subst e8
      rfl
/-- one sample read by both -/
theorem unsample_ok {M L T bt : Nat} {F G : Nat → Int32} {y1 y2 y4 y5 y6 y7 : Int32} (hb : bt = 1 ∨ bt = 2 ∨ bt = 4 ∨ bt = 8 ∨ bt = 16) (hT : T % bt = 0) (hfit : T + bt ≤ 8 * L) (hLM : L ≤ M) (hM : M ≤ 128) (hL : RelY L F G) (n0 n : Nat) (hn : 17 ≤ n) : ∃ s : Nat, s < 2 ^ bt ∧ f_X2_unpackSample n0 (nI bt) (nI (2 ^ bt - 1)) M F (nI T) = some (nI s) ∧ fl_X5_unpack_68 n (nI bt) 140 G y1 y2 (nI T) y4 y5 y6 y7 0 0 = some (nI (T + bt), nI s, nI bt) := by
  have hend : ∀ m T v, bt ≤ 16 → fl_X5_unpack_68 (m + 1) (nI bt) 140 G y1 y2 (nI T) y4 y5 y6 y7 (nI v) (nI bt) = some (nI T, nI v, nI bt) := by
    intro m T v hbt
    rw [fl_X5_unpack_68, if_pos (nI_le (Nat.le_refl _) (by omega))]
  by_cases h16 : bt = 16
  · subst h16
    obtain ⟨b0, p0, p1, p2⟩ := hL (T / 8) (by omega)
    obtain ⟨b1, q0, q1, q2⟩ := hL (T / 8 + 1) (by omega)
    have k1 := unchunk_ok (y1 := y1) (y2 := y2) (y4 := y4) (y5 := y5) (y6 := y6) (y7 := y7) p0 (show 16 ≤ 16 by omega) 8 T 0 0 (by omega) (by omega) p2 (by omega) (n - 8)
    have k2 := unchunk_ok (y1 := y1) (y2 := y2) (y4 := y4) (y5 := y5) (y6 := y6) (y7 := y7) q0 (show 16 ≤ 16 by omega) 8 (T + 8) 8 (gUn b0 8 (T % 8) 0) (by omega) (by omega) (by rw [show (T + 8) / 8 = T / 8 + 1 by omega]; exact q2) (by omega) (n - 16)
    rw [Nat.sub_add_cancel (by omega), Nat.zero_add] at k1
    rw [show n - 16 + 8 = n - 8 by omega] at k2
    have g1 : gUn b0 8 (T % 8) 0 = b0 := by rw [show T % 8 = 0 by omega, gUn_tab8 b0 p0]
    have g2 : gUn b1 8 ((T + 8) % 8) b0 = b0 * 256 + b1 := by rw [show (T + 8) % 8 = 0 by omega, gUn_add, gUn_tab8 b1 q0]
    refine ⟨b0 * 256 + b1, by omega, ?_, ?_⟩
    · unfold f_X2_unpackSample
      rw [xl_eq, pk_shrN (by omega) _ 3 (by decide), if_neg (by decide), show T / 2 ^ 3 = T / 8 from rfl, xin_nI (by omega) (by omega), nI_1, xin_nI (by omega) (by omega), nI_clamp (by omega), nI_clamp (by omega), p1, q1, pk_shlN _ 8 (by decide) (by omega), or_nI (by omega) (by omega)]
      have := Nat.shiftLeft_add_eq_or_of_lt (show b1 < 2 ^ 8 by omega) b0
      rw [Nat.shiftLeft_eq] at this
      rw [← this]
    · rw [← nI_0, k1, k2, g1, g2]
      obtain ⟨m, hm2⟩ : ∃ m, n - 16 = m + 1 := ⟨n - 17, by omega⟩
      rw [hm2, show 8 + 8 = 16 from rfl, hend m _ _ (by omega), Nat.add_assoc]
  · have hb4 : bt = 1 ∨ bt = 2 ∨ bt = 4 ∨ bt = 8 := by omega
    have hr := mod_fit hb4 hT
    obtain ⟨-, -, hb1, hb2⟩ := bt_le hb
    obtain ⟨b0, p0, p1, p2⟩ := hL (T / 8) (by omega)
    have k1 := unchunk_ok (y1 := y1) (y2 := y2) (y4 := y4) (y5 := y5) (y6 := y6) (y7 := y7) p0 (show bt ≤ 16 by omega) bt T 0 0 hr (by omega) p2 (by omega) (n - bt)
    rw [Nat.sub_add_cancel (by omega), Nat.zero_add, gUn_tab hb4 hr p0] at k1
    refine ⟨b0 / 2 ^ (8 - bt - T % 8) % 2 ^ bt, Nat.mod_lt _ (Nat.two_pow_pos bt), ?_, ?_⟩
    · unfold f_X2_unpackSample
      rw [xl_eq, pk_shrN (by omega) _ 3 (by decide), if_pos (by rw [nI8]; exact nI_le (by omega) (by decide)), show T / 2 ^ 3 = T / 8 from rfl, xin_nI (by omega) (by omega), nI_clamp (by omega), p1, nI8, pk_sub (by omega), pk_andN (by omega) 3 (by decide), show T % 2 ^ 3 = T % 8 from rfl, pk_sub (by omega), pk_shrN (by omega) _ _ (sm_ok _ (by omega)), pk_andN (by have := Nat.div_le_self b0 (2 ^ (8 - bt - T % 8)); omega) bt (pk_tn (by omega))]
    · rw [← nI_0, k1]
      obtain ⟨m, hm2⟩ : ∃ m, n - bt = m + 1 := ⟨n - bt - 1, by omega⟩
      rw [hm2, hend m _ _ (by omega)]
theorem unchan_ok {w h ch bt x y k M L : Nat} (hG : Geo w h ch bt) (hx : x < w) (hy : y < h) (hM : M ≤ 128) (hLM : L ≤ M) (hfit : (k * ch + ch) * bt ≤ 8 * L) {F G : Nat → Int32} (hL : RelY L F G) {y1 y2 y4 y6 z1 z2 z5 : Int32} : ∀ (r n c : Nat) (D D' : Nat → Int32), c + r = ch → r + 20 < n → RelS w h ch bt D D' → ∃ D2 D2' : Nat → Int32, fl_X2_unpackDraft_53 n (nI bt) (nI ch) (nI (2 ^ bt - 1)) (w * h * ch) D M F y1 y2 y4 (nI ((k * ch + c) * bt)) y6 (nI ((y * w + x) * ch)) (nI c) = some (nI ((k * ch + ch) * bt), nI ch, D2) ∧ fl_X5_unpack_53 n (nI bt) (nI ch) 1024 D' 140 G z1 z2 (nI ((k * ch + c) * bt)) z5 (nI x) (nI y) (nI c) = some (nI ((k * ch + ch) * bt), nI ch, D2') ∧ RelS w h ch bt D2 D2' := by
  obtain ⟨hw1, hw2, hh1, hh2, hc1, hc2, hb, -⟩ := hG
  have hN := whc_le hw2 hh2 hc2
  intro r
  induction r with
  | zero =>
    intro n c D D' h1 h2 h3
    obtain ⟨n, rfl⟩ : ∃ m, n = m + 1 := ⟨n - 1, by omega⟩
    have : c = ch := by omega
    subst this
    refine ⟨D, D', ?_, ?_, h3⟩
    · rw [fl_X2_unpackDraft_53, if_pos (nI_le (Nat.le_refl _) (by omega))]
    · rw [fl_X5_unpack_53, if_pos (nI_le (Nat.le_refl _) (by omega))]
  | succ r ih =>
    intro n c D D' h1 h2 h3
    obtain ⟨n, rfl⟩ : ∃ m, n = m + 1 := ⟨n - 1, by omega⟩
    have hk : c < ch := by omega
    have hl := idx_lt hx hy hk
    have hT : (k * ch + c) * bt + bt = (k * ch + (c + 1)) * bt := by rw [← Nat.add_assoc, Nat.succ_mul]
    have hT2 : (k * ch + (c + 1)) * bt ≤ (k * ch + ch) * bt := Nat.mul_le_mul_right _ (by omega)
    obtain ⟨s, s0, s1, s2⟩ := unsample_ok (y1 := z1) (y2 := z2) (y4 := z5) (y5 := nI x) (y6 := nI y) (y7 := nI c) hb (T := (k * ch + c) * bt) (Nat.mul_mod_left _ _) (by omega) hLM hM hL n n (by omega)
    rw [hT] at s2
    obtain ⟨D2, D2', i1, i2, i3⟩ := ih n (c + 1) _ _ (by omega) (by omega) (h3.put (j := y) hx hw2 hk hc2 s0)
    refine ⟨D2, D2', ?_, ?_, i3⟩
    · rw [fl_X2_unpackDraft_53, if_neg (nI_ge hk (by omega)), s1, xb_some, nI_add, xin_nI hl (by omega), nI_clamp (by omega), nI_add, hT, nI_1]
      exact i1
    · rw [fl_X5_unpack_53, if_neg (nI_ge hk (by omega)), s2, xb_some]
      dsimp only
      rw [place_nI, xb_some, nI_add, xin_nI (by omega) (by decide), nI_clamp (by omega), nI_1]
      exact i2
theorem uncols_ok {w h ch bt p j M : Nat} (hG : Geo w h ch bt) (hp : p < 8) (hj : j < gLines w h p) {a b c d : Nat → Int32} (hT : Tab a b c d) (hM : M ≤ 128) (hfit : gLB w h ch bt p ≤ M) {F G : Nat → Int32} (hL : RelY (gLB w h ch bt p) F G) : ∀ (r n k : Nat) (D D' : Nat → Int32), k + r = gCols w p → r + 40 < n → RelS w h ch bt D D' → ∃ D2 D2' : Nat → Int32, fl_X2_unpackDraft_33 n (nI w) (nI bt) (nI ch) (nI (2 ^ bt - 1)) (w * h * ch) D M F (nI p) (nI j) (nI (gCols w p)) (nI (k * ch * bt)) (nI k) = some (nI (gCols w p * ch * bt), nI (gCols w p), D2) ∧ fl_X5_unpack_5 n (nI w) (nI bt) (nI ch) 8 a 8 b 8 c 8 d 1024 D' 140 G (nI p) (nI j) (nI (k * ch * bt)) (nI k) = some (nI (gCols w p * ch * bt), nI (gCols w p), D2') ∧ RelS w h ch bt D2 D2' := by
  have hG0 := hG
  obtain ⟨hw1, hw2, hh1, hh2, hc1, hc2, hb, -⟩ := hG
  obtain ⟨l1, l2, l3⟩ := lines_pos hj
  have hcw := gCols_le w (by omega) p hp
  have hrh := gRows_le h (by omega) p hp
  have hft := gLB_fit (ch := ch) (bt := bt) hj
  obtain ⟨t1, t2, t3, t4⟩ := hT p hp
  intro r
  induction r with
  | zero =>
    intro n k D D' h1 h2 h3
    obtain ⟨n, rfl⟩ : ∃ m, n = m + 1 := ⟨n - 1, by omega⟩
    have : k = gCols w p := by omega
    subst this
    refine ⟨D, D', ?_, ?_, h3⟩
    · rw [fl_X2_unpackDraft_33, if_pos (nI_le (Nat.le_refl _) (by omega))]
    · rw [fl_X5_unpack_5, wide_ok n ⟨hw1, hw2⟩ hp hT, xb_some, if_pos (nI_le (Nat.le_refl _) (by omega))]
  | succ r ih =>
    intro n k D D' h1 h2 h3
    obtain ⟨n, rfl⟩ : ∃ m, n = m + 1 := ⟨n - 1, by omega⟩
    have hkc : k < gCols w p := by omega
    have hx := x_in w (by omega) p hp k hkc
    have hy := y_in h (by omega) p hp j l2
    have hS : (k * ch + ch) * bt = (k + 1) * ch * bt := by rw [Nat.succ_mul k ch]
    have hS2 : (k + 1) * ch * bt ≤ gCols w p * ch * bt := Nat.mul_le_mul_right _ (Nat.mul_le_mul_right _ hkc)
    obtain ⟨D1, D1', a1, a2, a3⟩ := unchan_ok (k := k) (M := M) (y1 := nI p) (y2 := nI j) (y4 := nI (gCols w p)) (y6 := nI k) (z1 := nI p) (z2 := nI j) (z5 := nI k) hG0 hx hy hM hfit (by omega) hL ch n 0 D D' (by omega) (by omega) h3
    rw [hS] at a1 a2
    rw [Nat.add_zero, nI_0] at a1 a2
    obtain ⟨D2, D2', i1, i2, i3⟩ := ih n (k + 1) D1 D1' (by omega) (by omega) a3
    refine ⟨D2, D2', ?_, ?_, i3⟩
    · rw [fl_X2_unpackDraft_33, if_neg (nI_ge hkc (by omega)), sampleOfLine_ok n hp (by omega) (by omega), xb_some, a1, xb_some]
      dsimp only
      rw [nI_1]
      exact i1
    · rw [fl_X5_unpack_5, wide_ok n ⟨hw1, hw2⟩ hp hT, xb_some, if_neg (nI_ge hkc (by omega)), xin_nI hp (by decide), xin_nI hp (by decide), nI_clamp (by omega), t1, t2, pk_mul, nI_add, xl_eq, xin_nI hp (by decide), xin_nI hp (by decide), t3, t4, pk_mul, nI_add, xl_eq, a2, xb_some]
      dsimp only
      rw [nI_1]
      exact i2
theorem unpack_ok {n w h ch bt p j : Nat} (hn : 300 < n) (hG : Geo w h ch bt) (hp : p < 8) (hj : j < gLines w h p) {a b c d : Nat → Int32} (hT : Tab a b c d) {F G : Nat → Int32} (hL : RelY (gLB w h ch bt p) F G) {D D' : Nat → Int32} (hD : RelS w h ch bt D D') : ∃ D2 D2' : Nat → Int32, f_X2_unpackDraft n (nI w) (nI h) (nI bt) (nI ch) (nI (2 ^ bt - 1)) (w * h * ch) D (gLB w h ch bt 0) F (nI p) (nI j) = some D2 ∧ f_X5_unpack n (nI w) (nI bt) (nI ch) 8 a 8 b 8 c 8 d 1024 D' 140 G (nI p) (nI j) = some D2' ∧ RelS w h ch bt D2 D2' := by
  have hG0 := hG
  obtain ⟨hw1, hw2, hh1, hh2, hc1, hc2, hb, -⟩ := hG
  obtain ⟨hb1, hb2, -, -⟩ := bt_le hb
  have hM := gLB_128 (p := 0) ⟨hw1, hw2⟩ ⟨hh1, hh2⟩ (by omega) hc2 hb2
  have hle := gLB_le (ch := ch) (bt := bt) ⟨hw1, hw2⟩ ⟨hh1, hh2⟩ hp
  have hl := gLines_le (w := w) hh2 hp
  obtain ⟨D2, D2', i1, i2, i3⟩ := uncols_ok hG0 hp hj hT hM hle hL (gCols w p) n 0 D D' (by omega) (by have := gCols_le w (by omega) p hp; omega) hD
  rw [Nat.zero_mul, Nat.zero_mul, nI_0] at i1 i2
  refine ⟨D2, D2', ?_, ?_, i3⟩
  · unfold f_X2_unpackDraft f_X2_hasLine
    rw [if_neg (nI_pos (by omega)), linesOf_ok n ⟨hw1, hw2⟩ ⟨hh1, hh2⟩ hp, xb_some, if_neg (nI_ge hj (by omega)), xb_some, if_neg (by decide), lineBytes_ok n ⟨hw1, hw2⟩ ⟨hh1, hh2⟩ hp hc2 hb2, xb_some, if_pos (nI_le hle (by omega)), columnsOf_fuel, columnsOf_ok w (by omega) p hp hw1, xb_some, i1]
    rfl
  · unfold f_X5_unpack
    rw [i2]
    rfl
