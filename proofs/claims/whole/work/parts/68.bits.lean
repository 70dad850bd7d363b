/-! ===== bits of a line ===== -/
theorem sm_ok : ∀ k, k < 32 → ((nI k &&& 31).toBitVec.smod 32).toNat = k := by decide +kernel
theorem or_nI {a b : Nat} (ha : a < 2 ^ 31) (hb : b < 2 ^ 31) : nI a ||| nI b = nI (a ||| b) := by
  apply Int32.toBitVec_inj.mp
  apply BitVec.eq_of_toNat_eq
  rw [Int32.toBitVec_or, BitVec.toNat_or, pk_tn (by omega), pk_tn (by omega), pk_tn (Nat.lt_trans (Nat.or_lt_two_pow ha hb) (by decide))]
def gOr (s : Nat) : Nat → Nat → Nat → Nat → Nat
  | 0, _, _, v => v
  | j + 1, E, r, v => gOr s j (E - 1) (r + 1) (v ||| (s / 2 ^ (E - 1) % 2) * 2 ^ (7 - r))
theorem gOr_or (s : Nat) : ∀ (j E r v : Nat), gOr s j E r v = v ||| gOr s j E r 0 := by
  intro j
  induction j with
  | zero => intro E r v; rw [gOr, gOr, Nat.or_zero]
  | succ j ih =>
    intro E r v
    rw [gOr, gOr, ih, ih (E - 1) (r + 1) (0 ||| _), Nat.zero_or, Nat.or_assoc]
theorem gOr_tab : ∀ bt, bt < 9 → ∀ r, r < 9 - bt → ∀ s, s < 2 ^ bt → gOr s bt bt r 0 = s * 2 ^ (8 - bt - r) := by decide +kernel
theorem gOr_hi (s : Nat) : ∀ (j E r v : Nat), j ≤ E → gOr s j (E + 8) r v = gOr (s / 256) j E r v := by
  intro j
  induction j with
  | zero => intro E r v _; rw [gOr, gOr]
  | succ j ih =>
    intro E r v h
    rw [gOr, gOr, show E + 8 - 1 = (E - 1) + 8 by omega, ih (E - 1) (r + 1) _ (by omega), Nat.div_div_eq_div_mul, show 2 ^ (E - 1 + 8) = 256 * 2 ^ (E - 1) by rw [Nat.pow_add, Nat.mul_comm]]
theorem lo_bit (s : Nat) {e : Nat} (h : e < 8) : s / 2 ^ e % 2 = s % 256 / 2 ^ e % 2 := by
  have : e = 0 ∨ e = 1 ∨ e = 2 ∨ e = 3 ∨ e = 4 ∨ e = 5 ∨ e = 6 ∨ e = 7 := by omega
  rcases this with rfl | rfl | rfl | rfl | rfl | rfl | rfl | rfl <;> omega
theorem gOr_lo (s : Nat) : ∀ (j E r v : Nat), E ≤ 8 → gOr s j E r v = gOr (s % 256) j E r v := by
  intro j
  induction j with
  | zero => intro E r v _; rw [gOr, gOr]
  | succ j ih =>
    intro E r v h
    rw [gOr, gOr, ih (E - 1) (r + 1) _ (by omega), lo_bit s (show E - 1 < 8 by omega)]
theorem sh_lt {s bt r : Nat} (h : s < 2 ^ bt) (hr : r + bt ≤ 8) : s * 2 ^ (8 - bt - r) < 256 := by
  have h1 : s * 2 ^ (8 - bt - r) < 2 ^ bt * 2 ^ (8 - bt - r) := Nat.mul_lt_mul_of_pos_right h (Nat.two_pow_pos _)
  rw [← Nat.pow_add] at h1
  have h2 : 2 ^ (bt + (8 - bt - r)) ≤ 2 ^ 8 := Nat.pow_le_pow_right (by decide) (by omega)
  omega
theorem upd_upd {f : Nat → Int32} {i : Nat} {a b : Int32} : upd (upd f i a) i b = upd f i b := by
  funext j
  by_cases e : j = i
  · rw [e, pk_us, pk_us]
  · rw [pk_un e, pk_un e, pk_un e]
/-- the model's bits, one by one, within one byte -/
theorem chunk_ok {s x y c : Nat} {mS : Nat → Int32} {y1 y2 y5 : Int32} (hs : s < 65536) (hp : 4 * (16 * y + x) + c < 1024) (hm : mS (4 * (16 * y + x) + c) = nI s) : ∀ (j E T v : Nat) (G : Nat → Int32), T % 8 + j ≤ 8 → j ≤ E → E ≤ 16 → G (T / 8) = nI v → v < 256 → T / 8 < 140 → ∀ m, fl_X5_build_o_line_97 (m + j) 1024 mS 140 G y1 y2 (nI T) y5 (nI x) (nI y) (nI c) (nI E + (-1)) = fl_X5_build_o_line_97 m 1024 mS 140 (upd G (T / 8) (nI (gOr s j E (T % 8) v))) y1 y2 (nI (T + j)) y5 (nI x) (nI y) (nI c) (nI (E - j) + (-1)) := by
  intro j
  induction j with
  | zero =>
    intro E T v G h1 h2 h3 h4 h5 h6 m
    rw [gOr, upd_same h4]; rfl
  | succ j ih =>
    intro E T v G h1 h2 h3 h4 h5 h6 m
    obtain ⟨E, rfl⟩ : ∃ e, E = e + 1 := ⟨E - 1, by omega⟩
    have n8 : ¬ (8 : Int32) = 0 := by decide
    have hb : s / 2 ^ E % 2 < 2 := Nat.mod_lt _ (by decide)
    have hsh : (s / 2 ^ E % 2) * 2 ^ (7 - T % 8) < 256 := by
      have : 2 ^ (7 - T % 8) ≤ 2 ^ 7 := Nat.pow_le_pow_right (by decide) (by omega)
      have := Nat.mul_le_mul (show s / 2 ^ E % 2 ≤ 1 by omega) this
      omega
    have hor : v ||| (s / 2 ^ E % 2) * 2 ^ (7 - T % 8) < 256 := Nat.or_lt_two_pow (n := 8) h5 hsh
    have e8 : (T + 1) / 8 = T / 8 ∨ j = 0 := by omega
    have hst : fl_X5_build_o_line_97 (m + (j + 1)) 1024 mS 140 G y1 y2 (nI T) y5 (nI x) (nI y) (nI c) (nI (E + 1) + (-1)) = fl_X5_build_o_line_97 (m + j) 1024 mS 140 (upd G (T / 8) (nI (v ||| (s / 2 ^ E % 2) * 2 ^ (7 - T % 8)))) y1 y2 (nI (T + 1)) y5 (nI x) (nI y) (nI c) (nI E + (-1)) := by
      rw [pk_m1, show m + (j + 1) = (m + j) + 1 by omega, fl_X5_build_o_line_97, if_neg (nI_pos (by omega)), place_nI, xb_some, nI_add, xin_nI hp (by decide), nI_clamp (by omega), hm, pk_shrN (by omega) _ E (sm_ok E (by omega)), pk_andN (by have := Nat.div_le_self s (2 ^ E); omega) 1 (by decide), xl_eq, xnz_ok n8, xnz_ok n8, nI8, pk_rem (by omega) (by decide) (by decide), pk_div (by omega) (by decide) (by decide), xin_nI h6 (by decide), xnz_ok (by decide), xin_nI h6 (by decide), nI_clamp (by omega), h4, nI7, pk_sub (by omega), pk_shlN _ (7 - T % 8) (sm_ok _ (by omega)) (by rw [Nat.pow_one]; omega), Nat.pow_one, or_nI (by omega) (by omega), nI_1]
    rw [hst]
    rcases e8 with e8 | e8
    · have := ih E (T + 1) _ (upd G (T / 8) (nI (v ||| (s / 2 ^ E % 2) * 2 ^ (7 - T % 8)))) (by omega) (by omega) (by omega) (by rw [e8, pk_us]) hor (by omega) m
      rw [this, e8, gOr, show (T + 1) % 8 = T % 8 + 1 by omega, show T + 1 + j = T + (j + 1) by omega, show E + 1 - (j + 1) = E - j by omega]
      rw [upd_upd]
      rfl
    · subst e8
      rw [gOr, gOr]
      rfl
def RelL (M : Nat) (F G : Nat → Int32) (T : Nat) : Prop := ∀ i, i < M → ∃ v : Nat, v < 256 ∧ F i = nI v ∧ G i = nI v ∧ (T ≤ 8 * i → v = 0)
theorem mod_fit {T bt : Nat} (hb : bt = 1 ∨ bt = 2 ∨ bt = 4 ∨ bt = 8) (hT : T % bt = 0) : T % 8 + bt ≤ 8 := by
  rcases hb with rfl | rfl | rfl | rfl <;> omega
/-- one sample laid into both lines -/
theorem sample_ok {M T bt s x y c : Nat} {mS F G : Nat → Int32} {y1 y2 y5 : Int32} (hb : bt = 1 ∨ bt = 2 ∨ bt = 4 ∨ bt = 8 ∨ bt = 16) (hT : T % bt = 0) (hfit : T + bt ≤ 8 * M) (hM : M ≤ 128) (hs : s < 2 ^ bt) (hp : 4 * (16 * y + x) + c < 1024) (hm : mS (4 * (16 * y + x) + c) = nI s) (hL : RelL M F G T) (n0 n : Nat) (hn : 17 ≤ n) : ∃ F' G' : Nat → Int32, f_X2_packSample n0 (nI bt) M F (nI T) (nI s) = some F' ∧ fl_X5_build_o_line_97 n 1024 mS 140 G y1 y2 (nI T) y5 (nI x) (nI y) (nI c) (nI bt - 1) = some (nI (T + bt), -1, G') ∧ RelL M F' G' (T + bt) := by
  have hend : ∀ m (G : Nat → Int32) T, fl_X5_build_o_line_97 (m + 1) 1024 mS 140 G y1 y2 (nI T) y5 (nI x) (nI y) (nI c) (nI 0 + (-1)) = some (nI T, -1, G) := by
    intro m G T
    rw [fl_X5_build_o_line_97, nI_0, Int32.zero_add, if_pos (by decide)]
  rw [Int32.sub_eq_add_neg]
  by_cases h16 : bt = 16
  · subst h16
    have h8 : T % 8 = 0 := by omega
    obtain ⟨v0, -, a1, a2, a3⟩ := hL (T / 8) (by omega)
    obtain ⟨v1, -, b1, b2, b3⟩ := hL (T / 8 + 1) (by omega)
    obtain rfl := a3 (by omega)
    obtain rfl := b3 (by omega)
    have k1 := chunk_ok (y1 := y1) (y2 := y2) (y5 := y5) (by omega : s < 65536) hp hm 8 16 T 0 G (by omega) (by omega) (by omega) a2 (by omega) (by omega) (n - 8)
    have k2 := chunk_ok (y1 := y1) (y2 := y2) (y5 := y5) (by omega : s < 65536) hp hm 8 8 (T + 8) 0 (upd G (T / 8) (nI (gOr s 8 16 (T % 8) 0))) (by omega) (by omega) (by omega) (by rw [pk_un (by omega), show (T + 8) / 8 = T / 8 + 1 by omega]; exact b2) (by omega) (by omega) (n - 16)
    rw [Nat.sub_add_cancel (by omega)] at k1
    rw [show n - 16 + 8 = n - 8 by omega] at k2
    have g1 : gOr s 8 16 (T % 8) 0 = s / 256 := by
      rw [h8, gOr_hi s 8 8 0 0 (by omega), gOr_tab 8 (by omega) 0 (by omega) _ (by omega)]
      omega
    have g2 : gOr s 8 8 ((T + 8) % 8) 0 = s % 256 := by
      rw [show (T + 8) % 8 = 0 by omega, gOr_lo s 8 8 0 0 (by omega), gOr_tab 8 (by omega) 0 (by omega) _ (by omega)]
      omega
    refine ⟨upd (upd F (T / 8) (nI (s / 256))) (T / 8 + 1) (nI (s % 256)), upd (upd G (T / 8) (nI (s / 256))) (T / 8 + 1) (nI (s % 256)), ?_, ?_, fun i hi => ?_⟩
    · unfold f_X2_packSample
      rw [xl_eq, pk_shrN (by omega) _ 3 (by decide), if_neg (by decide), show T / 2 ^ 3 = T / 8 from rfl, xin_nI (by omega) (by omega), nI_1, xin_nI (by omega) (by omega), nI_clamp (by omega), nI_clamp (by omega), pk_shrN (by omega) _ 8 (by decide), pk_andN (by omega) 8 (by decide)]
    · rw [k1]
      obtain ⟨m, hm2⟩ : ∃ m, n - 16 = m + 1 := ⟨n - 17, by omega⟩
      rw [show nI (16 - 8) = nI 8 from rfl, k2, hm2, show 8 - 8 = 0 from rfl, hend, g1, g2, show (T + 8) / 8 = T / 8 + 1 by omega, Nat.add_assoc]
    · by_cases e1 : i = T / 8 + 1
      · rw [e1, pk_us, pk_us]; exact ⟨s % 256, by omega, rfl, rfl, fun q => by omega⟩
      · rw [pk_un e1, pk_un e1]
        by_cases e2 : i = T / 8
        · rw [e2, pk_us, pk_us]; exact ⟨s / 256, by omega, rfl, rfl, fun q => by omega⟩
        · rw [pk_un e2, pk_un e2]
          obtain ⟨v, c1, c2, c3, c4⟩ := hL i hi
          exact ⟨v, c1, c2, c3, fun q => c4 (by omega)⟩
  · have hb4 : bt = 1 ∨ bt = 2 ∨ bt = 4 ∨ bt = 8 := by omega
    have hr := mod_fit hb4 hT
    have hs2 : s < 65536 := by
      have : 2 ^ bt ≤ 2 ^ 8 := Nat.pow_le_pow_right (by decide) (by omega)
      omega
    have hq : T / 8 < M := by omega
    obtain ⟨v, a0, a1, a2, a3⟩ := hL (T / 8) hq
    have hlt := sh_lt hs hr
    have k1 := chunk_ok (y1 := y1) (y2 := y2) (y5 := y5) hs2 hp hm bt bt T v G hr (by omega) (by omega) a2 a0 (by omega) (n - bt)
    rw [Nat.sub_add_cancel (by omega)] at k1
    have g1 : gOr s bt bt (T % 8) v = v ||| s * 2 ^ (8 - bt - T % 8) := by
      rw [gOr_or, gOr_tab bt (by omega) (T % 8) (by omega) s hs]
    refine ⟨upd F (T / 8) (nI (v ||| s * 2 ^ (8 - bt - T % 8))), upd G (T / 8) (nI (v ||| s * 2 ^ (8 - bt - T % 8))), ?_, ?_, fun i hi => ?_⟩
    · unfold f_X2_packSample
      rw [xl_eq, pk_shrN (by omega) _ 3 (by decide), if_pos (by rw [nI8]; exact nI_le (by omega) (by decide)), show T / 2 ^ 3 = T / 8 from rfl, xin_nI (by omega) (by omega), xin_nI (by omega) (by omega), nI_clamp (by omega), a1, nI8, pk_sub (by omega), pk_andN (by omega) 3 (by decide), show T % 2 ^ 3 = T % 8 from rfl, pk_sub (by omega), pk_shlN _ _ (sm_ok _ (by omega)) (by omega), or_nI (by omega) (by omega)]
    · rw [k1]
      obtain ⟨m, hm2⟩ : ∃ m, n - bt = m + 1 := ⟨n - bt - 1, by omega⟩
      rw [hm2, Nat.sub_self, hend, g1]
    · by_cases e1 : i = T / 8
      · rw [e1, pk_us, pk_us]
        exact ⟨_, Nat.or_lt_two_pow (n := 8) a0 hlt, rfl, rfl, fun q => by omega⟩
      · rw [pk_un e1, pk_un e1]
        obtain ⟨u, c1, c2, c3, c4⟩ := hL i hi
        exact ⟨u, c1, c2, c3, fun q => c4 (by omega)⟩
