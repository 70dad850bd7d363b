/-! ===== how both begin ===== -/
def tbA : Nat → Int32 := (upd (upd (upd (upd (upd (upd (upd (upd (fun _ => 0) ((0 : Int32)).toNatClampNeg (0 : Int32)) ((1 : Int32)).toNatClampNeg (0 : Int32)) ((2 : Int32)).toNatClampNeg (4 : Int32)) ((3 : Int32)).toNatClampNeg (0 : Int32)) ((4 : Int32)).toNatClampNeg (2 : Int32)) ((5 : Int32)).toNatClampNeg (0 : Int32)) ((6 : Int32)).toNatClampNeg (1 : Int32)) ((7 : Int32)).toNatClampNeg (0 : Int32))
def tbB : Nat → Int32 := (upd (upd (upd (upd (upd (upd (upd (upd (fun _ => 0) ((0 : Int32)).toNatClampNeg (1 : Int32)) ((1 : Int32)).toNatClampNeg (8 : Int32)) ((2 : Int32)).toNatClampNeg (8 : Int32)) ((3 : Int32)).toNatClampNeg (4 : Int32)) ((4 : Int32)).toNatClampNeg (4 : Int32)) ((5 : Int32)).toNatClampNeg (2 : Int32)) ((6 : Int32)).toNatClampNeg (2 : Int32)) ((7 : Int32)).toNatClampNeg (1 : Int32))
def tbC : Nat → Int32 := (upd (upd (upd (upd (upd (upd (upd (upd (fun _ => 0) ((0 : Int32)).toNatClampNeg (0 : Int32)) ((1 : Int32)).toNatClampNeg (0 : Int32)) ((2 : Int32)).toNatClampNeg (0 : Int32)) ((3 : Int32)).toNatClampNeg (4 : Int32)) ((4 : Int32)).toNatClampNeg (0 : Int32)) ((5 : Int32)).toNatClampNeg (2 : Int32)) ((6 : Int32)).toNatClampNeg (0 : Int32)) ((7 : Int32)).toNatClampNeg (1 : Int32))
def tbD : Nat → Int32 := (upd (upd (upd (upd (upd (upd (upd (upd (fun _ => 0) ((0 : Int32)).toNatClampNeg (1 : Int32)) ((1 : Int32)).toNatClampNeg (8 : Int32)) ((2 : Int32)).toNatClampNeg (8 : Int32)) ((3 : Int32)).toNatClampNeg (8 : Int32)) ((4 : Int32)).toNatClampNeg (4 : Int32)) ((5 : Int32)).toNatClampNeg (4 : Int32)) ((6 : Int32)).toNatClampNeg (2 : Int32)) ((7 : Int32)).toNatClampNeg (2 : Int32))
theorem tabs_ok : Tab tbA tbB tbC tbD := by unfold Tab; decide +kernel
theorem nw_1 {α : Type} {k : Option α} : xnewn (1 : Int32) 1 k = k := if_neg (by decide)
theorem nw_5 {α : Type} {k : Option α} : xnewn (5 : Int32) 5 k = k := if_neg (by decide)
theorem nw_8 {α : Type} {k : Option α} : xnewn (8 : Int32) 8 k = k := if_neg (by decide)
theorem nw_64 {α : Type} {k : Option α} : xnewn (64 : Int32) 64 k = k := if_neg (by decide)
theorem nw_128 {α : Type} {k : Option α} : xnewn (128 : Int32) 128 k = k := if_neg (by decide)
theorem nw_140 {α : Type} {k : Option α} : xnewn (140 : Int32) 140 k = k := if_neg (by decide)
theorem nw_256 {α : Type} {k : Option α} : xnewn (256 : Int32) 256 k = k := if_neg (by decide)
theorem nw_1024 {α : Type} {k : Option α} : xnewn (1024 : Int32) 1024 k = k := if_neg (by decide)
theorem nw_4000 {α : Type} {k : Option α} : xnewn (4000 : Int32) 4000 k = k := if_neg (by decide)
theorem ni_0 {α : Type} {k : Option α} : xin (0 : Int32) ((8 : Int32)).toNatClampNeg k = k := if_neg (by decide)
theorem ni_1 {α : Type} {k : Option α} : xin (1 : Int32) ((8 : Int32)).toNatClampNeg k = k := if_neg (by decide)
theorem ni_2 {α : Type} {k : Option α} : xin (2 : Int32) ((8 : Int32)).toNatClampNeg k = k := if_neg (by decide)
theorem ni_3 {α : Type} {k : Option α} : xin (3 : Int32) ((8 : Int32)).toNatClampNeg k = k := if_neg (by decide)
theorem ni_4 {α : Type} {k : Option α} : xin (4 : Int32) ((8 : Int32)).toNatClampNeg k = k := if_neg (by decide)
theorem ni_5 {α : Type} {k : Option α} : xin (5 : Int32) ((8 : Int32)).toNatClampNeg k = k := if_neg (by decide)
theorem ni_6 {α : Type} {k : Option α} : xin (6 : Int32) ((8 : Int32)).toNatClampNeg k = k := if_neg (by decide)
theorem ni_7 {α : Type} {k : Option α} : xin (7 : Int32) ((8 : Int32)).toNatClampNeg k = k := if_neg (by decide)
theorem neg_lt {x : Int32} {b : Nat} (h : x < 0) (hb : b < 2 ^ 31) : x < nI b := Int32.lt_of_lt_of_le h (nI_pos' hb)
theorem near_w (n : Nat) (x : Int32) {p q : Nat} (hpq : p ≤ q) (hq : q < 1000) : ∃ v : Nat, p ≤ v ∧ v ≤ q ∧ f_X2_within n x (nI p) (nI q) = some (nI v) ∧ f_X5_near n x (nI p) (nI q) = some (nI v) := by
  unfold f_X2_within f_X5_near
  rcases i_cases x with h | ⟨j, hj, rfl⟩
  · refine ⟨p, by omega, hpq, ?_, ?_⟩
    · rw [if_pos (neg_lt h (by omega)), if_neg (fun e => Int32.lt_irrefl (Int32.lt_trans e (neg_lt h (by omega))))]
    · rw [if_neg (Int32.not_le.mpr (neg_lt h (by omega)))]
  · rcases Nat.lt_or_ge j q with h1 | h1
    · rw [if_pos (nI_lt h1 (by omega)), if_pos (nI_le (Nat.le_of_lt h1) (by omega))]
      rcases Nat.lt_or_ge p j with h2 | h2
      · refine ⟨j, by omega, by omega, ?_, ?_⟩
        · rw [if_pos (nI_lt h2 hj)]
        · rw [if_pos (nI_le (by omega) hj)]
      · refine ⟨p, by omega, by omega, ?_, ?_⟩
        · rw [if_neg (nI_nlt h2 (by omega))]
        · rcases Nat.eq_or_lt_of_le h2 with e | e
          · rw [e, if_pos (nI_le (Nat.le_refl _) (by omega))]
          · rw [if_neg (nI_ge e (by omega))]
    · rw [if_neg (nI_nlt h1 hj)]
      refine ⟨q, hpq, by omega, ?_, ?_⟩
      · rcases Nat.eq_or_lt_of_le hpq with e | e
        · subst e
          split <;> rfl
        · rw [if_pos (nI_lt e (by omega))]
      · rw [if_pos (nI_le (by omega) hj)]
        rcases Nat.eq_or_lt_of_le h1 with e | e
        · rw [← e, if_pos (nI_le (Nat.le_refl _) (by omega))]
        · rw [if_neg (nI_ge e (by omega))]
theorem bits_w (n : Nat) (x : Int32) : ∃ e : Nat, e ≤ 4 ∧ f_X2_within n x (nI 0) (nI 4) = some (nI e) ∧ f_X5_near n x (nI 0) (nI 4) = some (nI e) ∧ f_X2_within n x (nI 3) (nI 4) = some (nI (if e < 3 then 3 else e)) := by
  unfold f_X2_within f_X5_near
  rcases i_cases x with h | ⟨j, hj, rfl⟩
  · refine ⟨0, by omega, ?_, ?_, ?_⟩
    · rw [if_pos (neg_lt h (by omega)), if_neg (fun e => Int32.lt_irrefl (Int32.lt_trans e (neg_lt h (by omega))))]
    · rw [if_neg (Int32.not_le.mpr (neg_lt h (by omega)))]
    · rw [if_pos (neg_lt h (by omega)), if_neg (fun e => Int32.lt_irrefl (Int32.lt_trans e (neg_lt h (by omega))))]; rfl
  · rcases Nat.lt_or_ge j 4 with h1 | h1
    · have : j = 0 ∨ j = 1 ∨ j = 2 ∨ j = 3 := by omega
      rcases this with rfl | rfl | rfl | rfl
      · exact ⟨0, by omega, by decide, by decide, by decide⟩
      · exact ⟨1, by omega, by decide, by decide, by decide⟩
      · exact ⟨2, by omega, by decide, by decide, by decide⟩
      · exact ⟨3, by omega, by decide, by decide, by decide⟩
    · refine ⟨4, by omega, ?_, ?_, ?_⟩
      · rw [if_neg (nI_nlt h1 hj)]; rfl
      · rw [if_pos (nI_le (by omega) hj)]
        rcases Nat.eq_or_lt_of_le h1 with e | e
        · rw [← e]; rfl
        · rw [if_neg (nI_ge e (by omega))]
      · rw [if_neg (nI_nlt h1 hj)]; rfl
theorem shl1 : ∀ e, e < 5 → (1 : Int32) <<< (nI e &&& 31) = nI (2 ^ e) := by decide +kernel
def gSt8 (q : Nat) : Nat := if 1 ≤ q then q else 1
theorem stepA {q : Nat} (h : q < 1000) : (if (1 : Int32) < nI q then nI q else (1 : Int32)) = nI (gSt8 q) := by
  unfold gSt8
  rcases Nat.lt_or_ge 1 q with h1 | h1
  · rw [if_pos (by rw [nI1]; exact nI_lt h1 (by omega)), if_pos (by omega)]
  · rw [if_neg (by rw [nI1]; exact nI_nlt h1 (by omega))]
    split
    · rw [show q = 1 by omega]; rfl
    · rfl
theorem samples_new {α : Type} {w h ch : Nat} {k : Option α} (hN : w * h * ch ≤ 1024) : xnewn (nI (w * h * ch)) 1024 k = k := xnewn_ok rfl hN (by decide)
theorem ini2_ok (n : Nat) (x1 x2 x3 x4 : Int32) : ∃ w h ch bt e : Nat, e ≤ 4 ∧ Geo w h ch bt ∧ ((ch ≤ 1 ∧ bt = 2 ^ e) ∨ (1 < ch ∧ bt = 2 ^ (if e < 3 then 3 else e))) ∧ f_X2_init n x1 x2 x3 x4 = some (nI w, nI h, nI bt, nI ch, nI (gSt8 (bt * ch / 8)), nI (2 ^ bt - 1), w * h * ch, (fun _ => 0), w * h * ch, (fun _ => 0)) ∧ f_X5_near n x1 1 16 = some (nI w) ∧ f_X5_near n x2 1 16 = some (nI h) ∧ f_X5_near n x4 1 4 = some (nI ch) ∧ f_X5_near n x3 0 4 = some (nI e) := by
  obtain ⟨w, w1, w2, w3, w4⟩ := near_w n x1 (show 1 ≤ 16 by omega) (by omega)
  obtain ⟨h, h1, h2, h3, h4⟩ := near_w n x2 (show 1 ≤ 16 by omega) (by omega)
  obtain ⟨ch, c1, c2, c3, c4⟩ := near_w n x4 (show 1 ≤ 4 by omega) (by omega)
  obtain ⟨e, e1, e2, e3, e4⟩ := bits_w n x3
  have hN := whc_le w2 h2 c2
  rw [show nI 16 = 16 by decide, ← nI1] at w3 w4 h3 h4
  rw [← nI4, ← nI1] at c3 c4
  rw [← nI4, nI_0] at e2 e3
  rw [← nI4, show nI 3 = 3 by decide] at e4
  have e5 : e = 0 ∨ e = 1 ∨ e = 2 ∨ e = 3 ∨ e = 4 := by omega
  rcases Nat.lt_or_ge 1 ch with hc | hc
  · have hb : (2 ^ (if e < 3 then 3 else e) : Nat) = 8 ∨ (2 ^ (if e < 3 then 3 else e) : Nat) = 16 := by
      rcases e5 with rfl | rfl | rfl | rfl | rfl <;> decide
    refine ⟨w, h, ch, 2 ^ (if e < 3 then 3 else e), e, e1, ⟨w1, w2, h1, h2, c1, c2, by omega, by omega⟩, Or.inr ⟨hc, rfl⟩, ?_, w4, h4, c4, e3⟩
    have hb5 : 2 ^ (if e < 3 then 3 else e) = 1 ∨ 2 ^ (if e < 3 then 3 else e) = 2 ∨ 2 ^ (if e < 3 then 3 else e) = 4 ∨ 2 ^ (if e < 3 then 3 else e) = 8 ∨ 2 ^ (if e < 3 then 3 else e) = 16 := by omega
    have hq : 2 ^ (if e < 3 then 3 else e) * ch ≤ 16 * 4 := Nat.mul_le_mul (by omega) c2
    unfold f_X2_init
    rw [w3, xb_some, h3, xb_some, c3, xb_some, if_neg (by rw [nI1]; exact nI_ge hc (by omega)), e4, xb_some, shl1 _ (by split <;> omega), xnz_ok (by decide), pk_mul, pk_mul, pk_mul, samples_new hN, samples_new hN, nI8, pk_div (by omega) (by decide) (by decide), stepA (by omega), most_ok hb5, nI_clamp (by omega)]
  · have hb : (2 ^ e : Nat) = 1 ∨ (2 ^ e : Nat) = 2 ∨ (2 ^ e : Nat) = 4 ∨ (2 ^ e : Nat) = 8 ∨ (2 ^ e : Nat) = 16 := by
      rcases e5 with rfl | rfl | rfl | rfl | rfl <;> decide
    refine ⟨w, h, ch, 2 ^ e, e, e1, ⟨w1, w2, h1, h2, c1, c2, hb, by omega⟩, Or.inl ⟨hc, rfl⟩, ?_, w4, h4, c4, e3⟩
    have hq : 2 ^ e * ch ≤ 16 * 4 := Nat.mul_le_mul (by omega) c2
    unfold f_X2_init
    rw [w3, xb_some, h3, xb_some, c3, xb_some, if_pos (by rw [nI1]; exact nI_le hc (by omega)), e2, xb_some, shl1 _ (by omega), xnz_ok (by decide), pk_mul, pk_mul, pk_mul, samples_new hN, samples_new hN, nI8, pk_div (by omega) (by decide) (by decide), stepA (by omega), most_ok hb, nI_clamp (by omega)]
theorem le_1q {q : Nat} (h : q < 1000) : (1 : Int32) ≤ nI q ↔ 1 ≤ q := by rw [nI1, nI_leI (by omega) (by omega)]

theorem ini5_ok (n : Nat) (x1 x2 x3 x4 : Int32) {w h ch bt e : Nat} (he : e ≤ 4) (hG : Geo w h ch bt) (hb : (ch ≤ 1 ∧ bt = 2 ^ e) ∨ (1 < ch ∧ bt = 2 ^ (if e < 3 then 3 else e))) (h1 : f_X5_near n x1 1 16 = some (nI w)) (h2 : f_X5_near n x2 1 16 = some (nI h)) (h3 : f_X5_near n x4 1 4 = some (nI ch)) (h4 : f_X5_near n x3 0 4 = some (nI e)) : f_X5_init n x1 x2 x3 x4 = some ((0 : Int32), nI w, nI h, nI bt, nI ch, nI (gSt8 (bt * ch / 8)), 8, tbA, 8, tbB, 8, tbC, 8, tbD, 1024, (fun _ => 0), 1024, (fun _ => 0), 140, (fun _ => 0), 140, (fun _ => 0), 140, (fun _ => 0), 256, (fun _ => 0), 4000, (fun _ => 0), 0, 5, (fun _ => 0), 4000, (fun _ => 0), 0, 64, (fun _ => 0), 0) := by
  obtain ⟨hw1, hw2, hh1, hh2, hc1, hc2, hbb, -⟩ := hG
  obtain ⟨b1, b2, -, -⟩ := bt_le hbb
  have hq : ch * bt ≤ 4 * 16 := Nat.mul_le_mul hc2 b2
  have n8 : ¬ (8 : Int32) = 0 := by decide
  unfold f_X5_init
  rw [nw_8, ni_0, ni_1, ni_2, ni_3, ni_4, ni_5, ni_6, ni_7, nw_8, ni_0, ni_1, ni_2, ni_3, ni_4, ni_5, ni_6, ni_7, nw_8, ni_0, ni_1, ni_2, ni_3, ni_4, ni_5, ni_6, ni_7, nw_8, ni_0, ni_1, ni_2, ni_3, ni_4, ni_5, ni_6, ni_7, nw_1024, nw_1024, nw_140, nw_140, nw_140, nw_256, nw_4000, nw_5, nw_4000, nw_64]
  rw [h1, xb_some, h2, xb_some, h3, xb_some, h4, xb_some, shl1 e (by omega), xl_eq]
  rw [Nat.mul_comm bt ch]
  rcases hb with ⟨hc, hb⟩ | ⟨hc, hb⟩
  · rw [← hb, if_pos (by rw [nI1]; exact nI_le hc (by omega)), xnz_ok n8, pk_mul, nI8, pk_div (by omega) (by decide) (by decide), xl_eq]
    unfold gSt8
    rcases Nat.lt_or_ge (ch * bt / 8) 1 with q | q
    · rw [if_neg (fun t => absurd ((le_1q (by omega)).mp t) (by omega)), if_neg (by omega)]
      rfl
    · rw [if_pos ((le_1q (by omega)).mpr q), if_pos q]
      rfl
  · rw [if_neg (by rw [nI1]; exact nI_ge hc (by omega))]
    by_cases e3 : e < 3
    · rw [if_pos e3] at hb
      have hb8 : bt = 8 := hb
      have he8 : (2 ^ e : Nat) < 8 := by
        have : e = 0 ∨ e = 1 ∨ e = 2 := by omega
        rcases this with rfl | rfl | rfl <;> decide
      rw [if_neg (by rw [nI8]; exact nI_ge he8 (by decide)), xnz_ok n8, hb8]
      rw [nI8, pk_mul, pk_div (by omega) (by decide) (by decide), xl_eq]
      rw [hb8] at hq
      unfold gSt8
      rcases Nat.lt_or_ge (ch * 8 / 8) 1 with q | q
      · rw [if_neg (fun t => absurd ((le_1q (by omega)).mp t) (by omega)), if_neg (by omega)]
        rfl
      · rw [if_pos ((le_1q (by omega)).mpr q), if_pos q]
        rfl
    · rw [if_neg e3] at hb
      have he8 : 8 ≤ (2 ^ e : Nat) := by
        have : e = 3 ∨ e = 4 := by omega
        rcases this with rfl | rfl <;> decide
      rw [← hb] at he8
      rw [← hb, if_pos (by rw [nI8]; exact nI_le he8 (by omega)), xnz_ok n8, pk_mul, nI8, pk_div (by omega) (by decide) (by decide), xl_eq]
      unfold gSt8
      rcases Nat.lt_or_ge (ch * bt / 8) 1 with q | q
      · rw [if_neg (fun t => absurd ((le_1q (by omega)).mp t) (by omega)), if_neg (by omega)]
        rfl
      · rw [if_pos ((le_1q (by omega)).mpr q), if_pos q]
        rfl
theorem cell_ok (L : Nat) (xs : Nat → Int32) (hL : L ≤ 2564) {k : Nat} (hk : k < 10) : ∃ v, f_L_cell L xs (nI k) = some v := by
  unfold f_L_cell
  rcases Nat.lt_or_ge k L with h | h
  · rw [if_neg (nI_ge h (by omega)), xin_nI h (by omega)]
    exact ⟨_, rfl⟩
  · rw [if_pos (nI_le h (by omega))]
    exact ⟨_, rfl⟩
theorem ini4_ok (n : Nat) (x1 x2 x3 x4 : Int32) {w h ch bt : Nat} (hG : Geo w h ch bt) (e : f_X2_init n x1 x2 x3 x4 = some (nI w, nI h, nI bt, nI ch, nI (gSt8 (bt * ch / 8)), nI (2 ^ bt - 1), w * h * ch, (fun _ => 0), w * h * ch, (fun _ => 0))) : f_X4_init n x1 x2 x3 x4 = some (nI w, nI h, nI bt, nI ch, nI (gSt8 (bt * ch / 8)), nI (2 ^ bt - 1), w * h * ch, (fun _ => 0), w * h * ch, (fun _ => 0), nI (gSt8 (bt * ch / 8)), 256, (fun _ => 0), 0, gLB w h ch bt 0, (fun _ => 0), gLB w h ch bt 0, (fun _ => 0), gLB w h ch bt 0, (fun _ => 0), 0, 2078, (fun _ => 0), 0, 4000, (fun _ => 0), 0, 5, (fun _ => 0), 64, (fun _ => 0), 64, (fun _ => 0), 64, (fun _ => 0), 0, 0) := by
  obtain ⟨hw1, hw2, hh1, hh2, hc1, hc2, hbb, -⟩ := hG
  obtain ⟨b1, b2, -, -⟩ := bt_le hbb
  have hM := gLB_128 (p := 0) ⟨hw1, hw2⟩ ⟨hh1, hh2⟩ (by omega) hc2 b2
  have hl := lineBytes_ok n (p := 0) ⟨hw1, hw2⟩ ⟨hh1, hh2⟩ (by omega) hc2 b2
  rw [nI_0] at hl
  have hmax : (if (0 : Int32) < nI (gLB w h ch bt 0) then nI (gLB w h ch bt 0) else (0 : Int32)) = nI (gLB w h ch bt 0) := by
    split
    · rfl
    · rename_i q
      rw [← nI_0, nI_ltI (by decide) (by omega)] at q
      rw [show gLB w h ch bt 0 = 0 by omega]; rfl
  have h3 : f_X3_init n (nI (gLB w h ch bt 0)) (nI (gSt8 (bt * ch / 8))) = some (nI (gSt8 (bt * ch / 8)), 256, (fun _ => 0), 0, gLB w h ch bt 0, (fun _ => 0), gLB w h ch bt 0, (fun _ => 0), gLB w h ch bt 0, (fun _ => 0), 0) := by
    unfold f_X3_init
    rw [hmax, nw_256, xnewn_ok rfl hM (by decide), nI_clamp (by omega), xnewn_ok rfl hM (by decide), xnewn_ok rfl hM (by decide)]
    rw [show ((256 : Int32)).toNatClampNeg = 256 by decide]
    first | rfl | rw [nI_clamp (by omega)]
  have h0a : f_X0_init n 2078 = some (2078, (fun _ => 0), 0) := by
    unfold f_X0_init
    rw [if_pos (by decide), xnewn_ok (i := 2078) (by decide) (by decide) (by decide)]
    rw [show ((2078 : Int32)).toNatClampNeg = 2078 by decide]
  have h0b : f_X0_init n 4000 = some (4000, (fun _ => 0), 0) := by
    unfold f_X0_init
    rw [if_pos (by decide), nw_4000]
    rw [show ((4000 : Int32)).toNatClampNeg = 4000 by decide]
  have h1 : f_X1_init n = some (64, (fun _ => 0), 64, (fun _ => 0), 64, (fun _ => 0), 0, 0) := by
    unfold f_X1_init
    rw [nw_64, nw_64, nw_64, show ((64 : Int32)).toNatClampNeg = 64 by decide]
  unfold f_X4_init
  rw [e, xb_some]
  dsimp only
  rw [hl, xb_some, h3, xb_some]
  dsimp only
  rw [h0a, xb_some]
  dsimp only
  rw [h0b, xb_some]
  dsimp only
  rw [nw_5, h1, xb_some]
  dsimp only
  rw [show ((5 : Int32)).toNatClampNeg = 5 by decide]
theorem pure_law (L : Nat) (xs : Nat → Int32) (hL : L ≤ 2564) : ∃ (n : Nat) (z_o_picture_width : Int32) (z_o_picture_height : Int32) (z_o_picture_bits : Int32) (z_o_picture_channels : Int32) (z_o_picture_step : Int32) (z_o_picture_mostSample : Int32) (z_o_picture_samplesN : Nat) (z_o_picture_samplesF : Nat → Int32) (z_o_picture_draftN : Nat) (z_o_picture_draftF : Nat → Int32) (z_o_rows_step : Int32) (z_o_rows_seenN : Nat) (z_o_rows_seenF : Nat → Int32) (z_o_rows_counts : Int32) (z_o_rows_restsN : Nat) (z_o_rows_restsF : Nat → Int32) (z_o_rows_currentN : Nat) (z_o_rows_currentF : Nat → Int32) (z_o_rows_aboveN : Nat) (z_o_rows_aboveF : Nat → Int32) (z_o_rows_length : Int32) (z_o_encoded_heldN : Nat) (z_o_encoded_heldF : Nat → Int32) (z_o_encoded_count : Int32) (z_o_unread_heldN : Nat) (z_o_unread_heldF : Nat → Int32) (z_o_unread_count : Int32) (z_o_linesByKindN : Nat) (z_o_linesByKindF : Nat → Int32) (z_o_palette_coloursN : Nat) (z_o_palette_coloursF : Nat → Int32) (z_o_palette_numbersN : Nat) (z_o_palette_numbersF : Nat → Int32) (z_o_palette_placedN : Nat) (z_o_palette_placedF : Nat → Int32) (z_o_palette_count : Int32) (z_o_palette_arranged : Int32) (z_m_width : Int32) (z_m_height : Int32) (z_m_bits : Int32) (z_m_channels : Int32) (z_m_step : Int32) (z_m_firstColumnsN : Nat) (z_m_firstColumnsF : Nat → Int32) (z_m_columnStepsN : Nat) (z_m_columnStepsF : Nat → Int32) (z_m_firstRowsN : Nat) (z_m_firstRowsF : Nat → Int32) (z_m_rowStepsN : Nat) (z_m_rowStepsF : Nat → Int32) (z_m_samplesN : Nat) (z_m_samplesF : Nat → Int32) (z_m_draftN : Nat) (z_m_draftF : Nat → Int32) (z_m_lineN : Nat) (z_m_lineF : Nat → Int32) (z_m_aboveN : Nat) (z_m_aboveF : Nat → Int32) (z_m_restN : Nat) (z_m_restF : Nat → Int32) (z_m_seenN : Nat) (z_m_seenF : Nat → Int32) (z_m_encodedN : Nat) (z_m_encodedF : Nat → Int32) (z_m_encodedSize : Int32) (z_m_chosenN : Nat) (z_m_chosenF : Nat → Int32) (z_m_feedN : Nat) (z_m_feedF : Nat → Int32) (z_m_feedSize : Int32) (z_m_coloursN : Nat) (z_m_coloursF : Nat → Int32) (z_m_colourCount : Int32) (z_oLF : Nat → Int64), n ≤ 600000 ∧ f_L_ini L xs n = some (z_o_picture_width, z_o_picture_height, z_o_picture_bits, z_o_picture_channels, z_o_picture_step, z_o_picture_mostSample, z_o_picture_samplesN, z_o_picture_samplesF, z_o_picture_draftN, z_o_picture_draftF, z_o_rows_step, z_o_rows_seenN, z_o_rows_seenF, z_o_rows_counts, z_o_rows_restsN, z_o_rows_restsF, z_o_rows_currentN, z_o_rows_currentF, z_o_rows_aboveN, z_o_rows_aboveF, z_o_rows_length, z_o_encoded_heldN, z_o_encoded_heldF, z_o_encoded_count, z_o_unread_heldN, z_o_unread_heldF, z_o_unread_count, z_o_linesByKindN, z_o_linesByKindF, z_o_palette_coloursN, z_o_palette_coloursF, z_o_palette_numbersN, z_o_palette_numbersF, z_o_palette_placedN, z_o_palette_placedF, z_o_palette_count, z_o_palette_arranged, z_m_width, z_m_height, z_m_bits, z_m_channels, z_m_step, z_m_firstColumnsN, z_m_firstColumnsF, z_m_columnStepsN, z_m_columnStepsF, z_m_firstRowsN, z_m_firstRowsF, z_m_rowStepsN, z_m_rowStepsF, z_m_samplesN, z_m_samplesF, z_m_draftN, z_m_draftF, z_m_lineN, z_m_lineF, z_m_aboveN, z_m_aboveF, z_m_restN, z_m_restF, z_m_seenN, z_m_seenF, z_m_encodedN, z_m_encodedF, z_m_encodedSize, z_m_chosenN, z_m_chosenF, z_m_feedN, z_m_feedF, z_m_feedSize, z_m_coloursN, z_m_coloursF, z_m_colourCount, z_oLF) ∧ ∀ (o_rows_current : Nat) (o_rows_above : Nat), fl_L_law L xs n z_o_picture_width z_o_picture_height z_o_picture_bits z_o_picture_channels z_o_picture_step z_o_picture_mostSample z_o_picture_samplesN z_o_picture_samplesF z_o_picture_draftN z_o_picture_draftF z_o_rows_step z_o_rows_seenN z_o_rows_seenF z_o_rows_counts z_o_rows_restsN z_o_rows_restsF o_rows_current z_o_rows_currentN z_o_rows_currentF o_rows_above z_o_rows_aboveN z_o_rows_aboveF z_o_rows_length z_o_encoded_heldN z_o_encoded_heldF z_o_encoded_count z_o_unread_heldN z_o_unread_heldF z_o_unread_count z_o_linesByKindN z_o_linesByKindF z_o_palette_coloursN z_o_palette_coloursF z_o_palette_numbersN z_o_palette_numbersF z_o_palette_placedN z_o_palette_placedF z_o_palette_count z_o_palette_arranged z_m_width z_m_height z_m_bits z_m_channels z_m_step z_m_firstColumnsN z_m_firstColumnsF z_m_columnStepsN z_m_columnStepsF z_m_firstRowsN z_m_firstRowsF z_m_rowStepsN z_m_rowStepsF z_m_samplesN z_m_samplesF z_m_draftN z_m_draftF z_m_lineN z_m_lineF z_m_aboveN z_m_aboveF z_m_restN z_m_restF z_m_seenN z_m_seenF z_m_encodedN z_m_encodedF z_m_encodedSize z_m_chosenN z_m_chosenF z_m_feedN z_m_feedF z_m_feedSize z_m_coloursN z_m_coloursF z_m_colourCount z_oLF (4 : Int32) = some () := by
  obtain ⟨x1, c1⟩ := cell_ok L xs hL (show 0 < 10 by omega)
  obtain ⟨x2, c2⟩ := cell_ok L xs hL (show 1 < 10 by omega)
  obtain ⟨x3, c3⟩ := cell_ok L xs hL (show 2 < 10 by omega)
  obtain ⟨x4, c4⟩ := cell_ok L xs hL (show 3 < 10 by omega)
  rw [nI_0] at c1
  rw [← nI1] at c2
  rw [← nI2] at c3
  rw [show nI 3 = 3 by decide] at c4
  obtain ⟨w, h, ch, bt, e, he, hG, hb, g1, g2, g3, g4, g5⟩ := ini2_ok 4600 x1 x2 x3 x4
  have f4 := ini4_ok 4600 x1 x2 x3 x4 hG g1
  have f5 := ini5_ok 4600 x1 x2 x3 x4 he hG hb g2 g3 g4 g5
  have hs : 1 ≤ gSt8 (bt * ch / 8) ∧ gSt8 (bt * ch / 8) ≤ 8 := by
    obtain ⟨-, -, -, -, k1, k2, k3, -⟩ := hG
    have := Nat.mul_le_mul (bt_le k3).2.1 k2
    unfold gSt8
    split <;> omega
  have hS : RelS w h ch bt (fun _ => 0) (fun _ => 0) := fun y _ x _ c _ => ⟨0, Nat.two_pow_pos bt, rfl, rfl⟩
  refine ⟨4600, (nI w), (nI h), (nI bt), (nI ch), (nI (gSt8 (bt * ch / 8))), (nI (2 ^ bt - 1)), (w * h * ch), (fun _ => 0), (w * h * ch), (fun _ => 0), (nI (gSt8 (bt * ch / 8))), 256, (fun _ => 0), 0, (gLB w h ch bt 0), (fun _ => 0), (gLB w h ch bt 0), (fun _ => 0), (gLB w h ch bt 0), (fun _ => 0), 0, 2078, (fun _ => 0), 0, 4000, (fun _ => 0), 0, 5, (fun _ => 0), 64, (fun _ => 0), 64, (fun _ => 0), 64, (fun _ => 0), 0, 0, (nI w), (nI h), (nI bt), (nI ch), (nI (gSt8 (bt * ch / 8))), 8, tbA, 8, tbB, 8, tbC, 8, tbD, 1024, (fun _ => 0), 1024, (fun _ => 0), 140, (fun _ => 0), 140, (fun _ => 0), 140, (fun _ => 0), 256, (fun _ => 0), 4000, (fun _ => 0), 0, 5, (fun _ => 0), 4000, (fun _ => 0), 0, 64, (fun _ => 0), 0, (fun _ => 0), by decide, ?_, fun cur abv => ?_⟩
  · unfold f_L_ini
    rw [c1, xb_some, c2, xb_some, c3, xb_some, c4, xb_some, f4, xb_some]
    dsimp only
    rw [xb_some, xb_some, xb_some, xb_some, f5, xb_some]
    dsimp only
    rw [nw_1]
  · exact law_all hL hG hs tabs_ok 600 4600 4 (by omega) (by omega) (by omega) (by omega) (fun _ => 0) (fun _ => 0) (fun _ => 0) 0 (fun _ => 0) cur (fun _ => 0) abv (fun _ => 0) 0 (fun _ => 0) 0 (fun _ => 0) 0 (fun _ => 0) (fun _ => 0) (fun _ => 0) (fun _ => 0) 0 0 (fun _ => 0) (fun _ => 0) (fun _ => 0) (fun _ => 0) (fun _ => 0) (fun _ => 0) (fun _ => 0) 0 (fun _ => 0) (fun _ => 0) 0 (fun _ => 0) 0 (fun _ => 0) ⟨hS, hS, ⟨0, by omega, rfl, fun j _ => ⟨0, by omega, rfl⟩⟩, RelB.empty _ _ _, RelB.empty _ _ _, fun k _ => rfl, ⟨0, 0, fun _ => 0, by omega, by omega, rfl, rfl, rfl, fun i hi => by omega, fun k _ => rfl, fun j hj => by omega⟩⟩
