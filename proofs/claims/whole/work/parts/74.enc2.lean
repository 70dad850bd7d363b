theorem enc_lines {w h ch bt st p wy : Nat} (hG : Geo w h ch bt) (hs : 1 ≤ st ∧ st ≤ 8) (hp : p < 8) (hw : wy < 9) {oS mS : Nat → Int32} (hR : RelS w h ch bt oS mS) {a b c d : Nat → Int32} (hT : Tab a b c d) (y2 y3 : Int32) : ∀ (r n j E q : Nat) (sF rF cF aF eF kF lF bF tF dF gF mK : Nat → Int32) (cn len y4 : Int32), j + r = gLines w h p → r + 1000 < n → E + r * (1 + gLB w h ch bt p) ≤ 2078 → q + 5 * r < 1999999000 → RelE E eF gF → RelK kF mK → RelC q sF cn → ∃ (sF' rF' cF' aF' eF' kF' lF' bF' tF' dF' gF' mK' : Nat → Int32) (cn' len' y4' : Int32), fl_X4_encode_45 n (nI w) (nI h) (nI bt) (nI ch) (w * h * ch) oS (nI st) 256 sF cn (gLB w h ch bt 0) rF (gLB w h ch bt 0) cF (gLB w h ch bt 0) aF len 2078 eF (nI E) 5 kF (nI wy) y2 y3 y4 (nI p) (nI j) = some (y4', nI (gLines w h p), sF', cn', rF', cF', aF', len', eF', nI (E + r * (1 + gLB w h ch bt p)), kF') ∧ fl_X5_encode_96 n (nI w) (nI h) (nI bt) (nI ch) (nI st) 8 a 8 b 8 c 8 d 1024 mS 140 lF 140 bF 140 tF 256 dF 4000 gF (nI E) 5 mK (nI wy) y2 y3 y4 (nI p) (nI (gLB w h ch bt p)) (nI j) = some (y4', nI (gLines w h p), lF', bF', tF', dF', gF', nI (E + r * (1 + gLB w h ch bt p)), mK') ∧ RelE (E + r * (1 + gLB w h ch bt p)) eF' gF' ∧ RelK kF' mK' ∧ RelC (q + 5 * r) sF' cn' := by
  have hG0 := hG
  obtain ⟨hw1, hw2, hh1, hh2, hc1, hc2, hb, -⟩ := hG
  obtain ⟨hb1, hb2, -, -⟩ := bt_le hb
  have hM := gLB_128 (p := 0) ⟨hw1, hw2⟩ ⟨hh1, hh2⟩ (by omega) hc2 hb2
  have hle := gLB_le (ch := ch) (bt := bt) ⟨hw1, hw2⟩ ⟨hh1, hh2⟩ hp
  have hll := gLines_le (w := w) hh2 hp
  have e5 : (5 : Int32) = nI 5 := nI5
  intro r
  induction r with
  | zero =>
    intro n j E q sF rF cF aF eF kF lF bF tF dF gF mK cn len y4 h1 h2 h3 h4 h5 h6 h7
    obtain ⟨n, rfl⟩ : ∃ m, n = m + 1 := ⟨n - 1, by omega⟩
    have : j = gLines w h p := by omega
    subst this
    refine ⟨sF, rF, cF, aF, eF, kF, lF, bF, tF, dF, gF, mK, cn, len, y4, ?_, ?_, by rw [Nat.zero_mul]; exact h5, h6, h7⟩
    · rw [fl_X4_encode_45, linesOf_ok n ⟨hw1, hw2⟩ ⟨hh1, hh2⟩ hp, xb_some, if_pos (nI_le (Nat.le_refl _) (by omega)), Nat.zero_mul]; rfl
    · rw [fl_X5_encode_96, mlines_ok n ⟨hw1, hw2⟩ ⟨hh1, hh2⟩ hp hT, xb_some, if_pos (nI_le (Nat.le_refl _) (by omega)), Nat.zero_mul]; rfl
  | succ r ih =>
    intro n j E q sF rF cF aF eF kF lF bF tF dF gF mK cn len y4 h1 h2 h3 h4 h5 h6 h7
    obtain ⟨n, rfl⟩ : ∃ m, n = m + 1 := ⟨n - 1, by omega⟩
    have hj : j < gLines w h p := by omega
    have hmul : (r + 1) * (1 + gLB w h ch bt p) = r * (1 + gLB w h ch bt p) + (1 + gLB w h ch bt p) := Nat.succ_mul _ _
    have hE1 : E + 1 + gLB w h ch bt p ≤ 2078 := by omega
    have hEq : E + 1 + gLB w h ch bt p + r * (1 + gLB w h ch bt p) = E + (r + 1) * (1 + gLB w h ch bt p) := by omega
    obtain ⟨C, A, C', A', t1, t2, t3, t4⟩ := take_ok (n := n) (by omega) hG0 hp hj hR hT cF aF lF bF
    rcases (show wy ≤ 4 ∨ (wy = 5 ∨ wy = 6 ∨ wy = 7) ∨ wy = 8 by omega) with hway | hway | hway
    · obtain ⟨R2, R2', eF1, gF1, kF1, a1, a2, a3, a4, a5⟩ := app_ok (n := n) hM hle hs (show wy < 5 by omega) t3 t4 (by omega) hE1 h5 h6 rF tF (nI wy) y2 y3 (y4 * 1103515245 + 12345) (nI p) (nI j) (nI wy)
      obtain ⟨sF', rF', cF', aF', eF', kF', lF', bF', tF', dF', gF', mK', cn', len', y4', i1, i2, i3, i4, i5⟩ := ih n (j + 1) (E + 1 + gLB w h ch bt p) q sF R2 C A eF1 kF1 C' A' R2' dF gF1 _ cn (nI (gLB w h ch bt p)) (y4 * 1103515245 + 12345) (by omega) (by omega) (by omega) (by omega) a4 a5 h7
      rw [hEq] at i1 i2 i3
      refine ⟨sF', rF', cF', aF', eF', kF', lF', bF', tF', dF', gF', mK', cn', len', y4', ?_, ?_, i3, i4, i5.mono (by omega)⟩
      · rw [fl_X4_encode_45, linesOf_ok n ⟨hw1, hw2⟩ ⟨hh1, hh2⟩ hp, xb_some, if_neg (nI_ge hj (by omega)), xl_eq, t1, xb_some]
        dsimp only
        rw [if_neg (by rw [nI8, nI_eq (by omega) (by decide)]; omega), if_pos (by rw [nI4]; exact nI_le hway (by decide)), a1, xb_some]
        dsimp only
        rw [nI_1]
        exact i1
      · rw [fl_X5_encode_96, mlines_ok n ⟨hw1, hw2⟩ ⟨hh1, hh2⟩ hp hT, xb_some, if_neg (nI_ge hj (by omega)), t2, xb_some]
        dsimp only
        rw [xl_eq, if_neg (by rw [e5]; exact nI_ge (by omega) (by decide)), xin_nI (by omega) (by decide), xin_nI (by omega) (by decide), a2, xb_some, xin_nI (by omega) (by decide), nI_clamp (by omega), nI_clamp (by omega), nI_1, a3, xb_some]
        dsimp only
        rw [nI_1]
        exact i2
    · obtain ⟨k, sF1, cn1, R1, R1', S1, b0, b1, b2, b3⟩ := choose_ok (n := n) (n' := n) hM hle hs t3 t4 hway (by omega) (by omega) (by omega) h7 rF tF dF
      obtain ⟨R2, R2', eF1, gF1, kF1, a1, a2, a3, a4, a5⟩ := app_ok (n := n) hM hle hs b0 t3 t4 (by omega) hE1 h5 h6 R1 R1' (nI wy) y2 y3 (y4 * 1103515245 + 12345) (nI p) (nI j) (nI k)
      obtain ⟨sF', rF', cF', aF', eF', kF', lF', bF', tF', dF', gF', mK', cn', len', y4', i1, i2, i3, i4, i5⟩ := ih n (j + 1) (E + 1 + gLB w h ch bt p) (q + 5) sF1 R2 C A eF1 kF1 C' A' R2' S1 gF1 _ cn1 (nI (gLB w h ch bt p)) (y4 * 1103515245 + 12345) (by omega) (by omega) (by omega) (by omega) a4 a5 b3
      rw [hEq] at i1 i2 i3
      refine ⟨sF', rF', cF', aF', eF', kF', lF', bF', tF', dF', gF', mK', cn', len', y4', ?_, ?_, i3, i4, i5.mono (by omega)⟩
      · rw [fl_X4_encode_45, linesOf_ok n ⟨hw1, hw2⟩ ⟨hh1, hh2⟩ hp, xb_some, if_neg (nI_ge hj (by omega)), xl_eq, t1, xb_some]
        dsimp only
        rw [if_neg (by rw [nI8, nI_eq (by omega) (by decide)]; omega), if_neg (by rw [nI4]; exact nI_ge (by omega) (by omega)), b1, xb_some]
        dsimp only
        rw [a1, xb_some]
        dsimp only
        rw [nI_1]
        exact i1
      · rw [fl_X5_encode_96, mlines_ok n ⟨hw1, hw2⟩ ⟨hh1, hh2⟩ hp hT, xb_some, if_neg (nI_ge hj (by omega)), t2, xb_some]
        dsimp only
        rw [xl_eq, if_pos (by rw [e5]; exact nI_le (by omega) (by omega)), if_neg (by rw [nI8]; exact nI_ge (by omega) (by decide)), b2, xb_some]
        dsimp only
        rw [xin_nI (by omega) (by decide), xin_nI (by omega) (by decide), a2, xb_some, xin_nI (by omega) (by decide), nI_clamp (by omega), nI_clamp (by omega), nI_1, a3, xb_some]
        dsimp only
        rw [nI_1]
        exact i2
    · subst hway
      obtain ⟨x, hx, ex⟩ := pk_andE ((y4 * 1103515245 + 12345) >>> ((16 : Int32) &&& 31)) (m := 32767) 15 (by decide)
      have hrem : ((y4 * 1103515245 + 12345) >>> ((16 : Int32) &&& 31) &&& 32767) - ((y4 * 1103515245 + 12345) >>> ((16 : Int32) &&& 31) &&& 32767) / 5 * 5 = nI (x % 5) := by
        rw [ex, e5, pk_rem (by omega) (by decide) (by decide)]
      have hk : x % 5 < 5 := Nat.mod_lt _ (by decide)
      obtain ⟨R2, R2', eF1, gF1, kF1, a1, a2, a3, a4, a5⟩ := app_ok (n := n) hM hle hs hk t3 t4 (by omega) hE1 h5 h6 rF tF (nI 8) y2 y3 (y4 * 1103515245 + 12345) (nI p) (nI j) (nI (x % 5))
      obtain ⟨sF', rF', cF', aF', eF', kF', lF', bF', tF', dF', gF', mK', cn', len', y4', i1, i2, i3, i4, i5⟩ := ih n (j + 1) (E + 1 + gLB w h ch bt p) q sF R2 C A eF1 kF1 C' A' R2' dF gF1 _ cn (nI (gLB w h ch bt p)) (y4 * 1103515245 + 12345) (by omega) (by omega) (by omega) (by omega) a4 a5 h7
      rw [hEq] at i1 i2 i3
      refine ⟨sF', rF', cF', aF', eF', kF', lF', bF', tF', dF', gF', mK', cn', len', y4', ?_, ?_, i3, i4, i5.mono (by omega)⟩
      · rw [fl_X4_encode_45, linesOf_ok n ⟨hw1, hw2⟩ ⟨hh1, hh2⟩ hp, xb_some, if_neg (nI_ge hj (by omega)), xl_eq, t1, xb_some]
        dsimp only
        rw [if_pos (by decide), xnz_ok (by decide), hrem, xl_eq, a1, xb_some]
        dsimp only
        rw [nI_1]
        exact i1
      · rw [fl_X5_encode_96, mlines_ok n ⟨hw1, hw2⟩ ⟨hh1, hh2⟩ hp hT, xb_some, if_neg (nI_ge hj (by omega)), t2, xb_some]
        dsimp only
        rw [xl_eq, if_pos (by decide), if_pos (by decide), xnz_ok (by decide), hrem, xl_eq, xin_nI hk (by decide), xin_nI hk (by decide), a2, xb_some, xin_nI (by omega) (by decide), nI_clamp (by omega), nI_clamp (by omega), nI_1, a3, xb_some]
        dsimp only
        rw [nI_1]
        exact i2
/-! room for all -/
theorem mono_tab : ∀ w, w < 17 → ∀ p, p < 8 → gCols w p ≤ gCols 16 p ∧ gRows w p ≤ gRows 16 p := by decide +kernel
def gMost (p : Nat) : Nat := gRows 16 p * (1 + 8 * gCols 16 p)
theorem most_tab {w h ch bt p : Nat} (hG : Geo w h ch bt) (hp : p < 8) : gLines w h p * (1 + gLB w h ch bt p) ≤ gMost p := by
  obtain ⟨hw1, hw2, hh1, hh2, hc1, hc2, hb, -⟩ := hG
  obtain ⟨hb1, hb2, -, -⟩ := bt_le hb
  have h1 := (mono_tab w (by omega) p hp).1
  have h2 := (mono_tab h (by omega) p hp).2
  have h3 : gLines w h p ≤ gRows 16 p := by
    unfold gLines
    split <;> omega
  have h4 : gCols w p * ch * bt ≤ gCols 16 p * 4 * 16 := Nat.mul_le_mul (Nat.mul_le_mul h1 hc2) hb2
  have h5 : gLB w h ch bt p ≤ 8 * gCols 16 p := by
    unfold gLB
    split <;> omega
  exact Nat.mul_le_mul h3 (by omega)
def gCap (lp p : Nat) : Nat := if lp = 0 then [2064, 0].getD p 0 else [2078, 2078, 2044, 2010, 1944, 1812, 1552, 1032, 0].getD p 0
theorem cap_tab : (gMost 0 + gCap 0 1 ≤ gCap 0 0) ∧ ∀ p, p < 8 → 1 ≤ p → gMost p + gCap 7 (p + 1) ≤ gCap 7 p := by decide +kernel
theorem cap_ok {w h ch bt lp p : Nat} (hG : Geo w h ch bt) (hl : (lp = 0 ∧ p = 0) ∨ (lp = 7 ∧ 1 ≤ p ∧ p ≤ 7)) : gLines w h p * (1 + gLB w h ch bt p) + gCap lp (p + 1) ≤ gCap lp p := by
  rcases hl with ⟨rfl, rfl⟩ | ⟨rfl, h1, h2⟩
  · have := most_tab hG (show 0 < 8 by omega)
    have h2 := cap_tab.1
    rw [Nat.zero_add]
    omega
  · have := most_tab hG (show p < 8 by omega)
    have := cap_tab.2 p (by omega) h1
    omega
theorem enc_passes {w h ch bt st wy lp : Nat} (hG : Geo w h ch bt) (hs : 1 ≤ st ∧ st ≤ 8) (hw : wy < 9) {oS mS : Nat → Int32} (hR : RelS w h ch bt oS mS) {a b c d : Nat → Int32} (hT : Tab a b c d) (y2 y3 : Int32) (hl : (y3 = 0 ∧ lp = 0) ∨ (¬ y3 = 0 ∧ lp = 7)) : ∀ (r n p E q : Nat) (sF rF cF aF eF kF lF bF tF dF gF mK : Nat → Int32) (cn len y4 : Int32), p + r = lp + 1 → (lp = 7 → 1 ≤ p) → r + 1100 < n → E + gCap lp p ≤ 2078 → q + 80 * r < 1999999000 → RelE E eF gF → RelK kF mK → RelC q sF cn → ∃ (sF' rF' cF' aF' eF' kF' lF' bF' tF' dF' gF' mK' : Nat → Int32) (cn' len' y4' : Int32) (E' : Nat), E' ≤ 2078 ∧ fl_X4_encode_33 n (nI w) (nI h) (nI bt) (nI ch) (w * h * ch) oS (nI st) 256 sF cn (gLB w h ch bt 0) rF (gLB w h ch bt 0) cF (gLB w h ch bt 0) aF len 2078 eF (nI E) 5 kF (nI wy) y2 y3 y4 (nI p) = some (y4', nI (lp + 1), sF', cn', rF', cF', aF', len', eF', nI E', kF') ∧ fl_X5_encode_70 n (nI w) (nI h) (nI bt) (nI ch) (nI st) 8 a 8 b 8 c 8 d 1024 mS 140 lF 140 bF 140 tF 256 dF 4000 gF (nI E) 5 mK (nI wy) y2 y3 y4 (nI p) = some (y4', nI (lp + 1), lF', bF', tF', dF', gF', nI E', mK') ∧ RelE E' eF' gF' ∧ RelK kF' mK' ∧ RelC (q + 80 * r) sF' cn' := by
  have hG0 := hG
  obtain ⟨hw1, hw2, hh1, hh2, hc1, hc2, hb, -⟩ := hG
  obtain ⟨hb1, hb2, -, -⟩ := bt_le hb
  have hlp : ∀ m, f_X4_lastPass m y3 = some (nI lp) := by
    intro m
    unfold f_X4_lastPass
    rcases hl with ⟨rfl, rfl⟩ | ⟨h, rfl⟩
    · rw [if_pos rfl]; rfl
    · rw [if_neg h]; rfl
  intro r
  induction r with
  | zero =>
    intro n p E q sF rF cF aF eF kF lF bF tF dF gF mK cn len y4 h1 h0 h2 h3 h4 h5 h6 h7
    obtain ⟨n, rfl⟩ : ∃ m, n = m + 1 := ⟨n - 1, by omega⟩
    have : p = lp + 1 := by omega
    subst this
    refine ⟨sF, rF, cF, aF, eF, kF, lF, bF, tF, dF, gF, mK, cn, len, y4, E, by omega, ?_, ?_, h5, h6, h7⟩
    · rw [fl_X4_encode_33, hlp, xb_some, if_pos (nI_lt (by omega) (by omega))]
    · rw [fl_X5_encode_70]
      rcases hl with ⟨rfl, rfl⟩ | ⟨h, rfl⟩
      · rw [if_pos rfl, if_pos (by decide)]
      · rw [if_neg h, if_pos (by decide)]
  | succ r ih =>
    intro n p E q sF rF cF aF eF kF lF bF tF dF gF mK cn len y4 h1 h0 h2 h3 h4 h5 h6 h7
    obtain ⟨n, rfl⟩ : ∃ m, n = m + 1 := ⟨n - 1, by omega⟩
    have hp : p < 8 := by omega
    have hll := gLines_le (w := w) hh2 hp
    have hcap := cap_ok (lp := lp) (p := p) hG0 (by omega)
    obtain ⟨sF1, rF1, cF1, aF1, eF1, kF1, lF1, bF1, tF1, dF1, gF1, mK1, cn1, len1, z4, a1, a2, a3, a4, a5⟩ := enc_lines hG0 hs hp hw hR hT y2 y3 (gLines w h p) n 0 E q sF rF cF aF eF kF lF bF tF dF gF mK cn len y4 (by omega) (by omega) (by omega) (by omega) h5 h6 h7
    rw [nI_0] at a1 a2
    obtain ⟨sF', rF', cF', aF', eF', kF', lF', bF', tF', dF', gF', mK', cn', len', y4', E', i0, i1, i2, i3, i4, i5⟩ := ih n (p + 1) (E + gLines w h p * (1 + gLB w h ch bt p)) (q + 80) sF1 rF1 cF1 aF1 eF1 kF1 lF1 bF1 tF1 dF1 gF1 mK1 cn1 len1 z4 (by omega) (by omega) (by omega) (by omega) (by omega) a3 a4 (a5.mono (by omega))
    refine ⟨sF', rF', cF', aF', eF', kF', lF', bF', tF', dF', gF', mK', cn', len', y4', E', i0, ?_, ?_, i3, i4, i5.mono (by omega)⟩
    · rw [fl_X4_encode_33, hlp, xb_some, if_neg (nI_nlt (by omega) (by omega)), a1, xb_some]
      dsimp only
      rw [nI_1]
      exact i1
    · rw [fl_X5_encode_70, mbytes_ok n ⟨hw1, hw2⟩ ⟨hh1, hh2⟩ hp hc2 hb2 hT]
      rcases hl with ⟨rfl, rfl⟩ | ⟨h, rfl⟩
      · have : p = 0 := by omega
        subst this
        rw [if_pos rfl, if_neg (by decide), xb_some, a2, xb_some]
        dsimp only
        rw [nI_1]
        exact i2
      · rw [if_neg h, if_neg (by rw [nI7]; exact nI_nlt (by omega) (by decide)), xb_some, a2, xb_some]
        dsimp only
        rw [nI_1]
        exact i2
theorem mch_ok {y1 y2 y3 y4 : Int32} : ∀ (k n i : Nat) (F : Nat → Int32), i + k = 5 → k < n → ∃ G : Nat → Int32, fl_X5_encode_39 n 5 F y1 y2 y3 y4 (nI i) = some (nI 5, G) ∧ (∀ j, i ≤ j → j < 5 → G j = 0) ∧ (∀ j, j < i ∨ 5 ≤ j → G j = F j) := by
  intro k
  induction k with
  | zero =>
    intro n i F h1 h2
    obtain ⟨n, rfl⟩ : ∃ m, n = m + 1 := ⟨n - 1, by omega⟩
    refine ⟨F, ?_, fun j a b => by omega, fun j _ => rfl⟩
    rw [fl_X5_encode_39]
    have : i = 5 := by omega
    subst this
    rw [if_pos (by decide)]
  | succ k ih =>
    intro n i F h1 h2
    obtain ⟨n, rfl⟩ : ∃ m, n = m + 1 := ⟨n - 1, by omega⟩
    obtain ⟨G, e, g1, g2⟩ := ih n (i + 1) (upd F i 0) (by omega) (by omega)
    refine ⟨G, ?_, fun j a b => ?_, fun j a => ?_⟩
    · rw [fl_X5_encode_39, if_neg (by rw [nI5]; exact nI_ge (by omega) (by decide)), xin_nI (by omega) (by decide), nI_clamp (by omega), nI_1]
      exact e
    · rcases Nat.eq_or_lt_of_le a with h | h
      · rw [g2 j (Or.inl (by omega)), ← h, pk_us]
      · exact g1 j h b
    · rw [g2 j (by omega), pk_un (by omega)]
/-- encode -/
theorem op6 {n w h ch bt st q : Nat} (hn : 2000 < n) (hG : Geo w h ch bt) (hs : 1 ≤ st ∧ st ≤ 8) {oS mS : Nat → Int32} (hR : RelS w h ch bt oS mS) {a b c d : Nat → Int32} (hT : Tab a b c d) (hq : q < 1999990000) {sF : Nat → Int32} {cn : Int32} (hQ : RelC q sF cn) {eF gF kF mK : Nat → Int32} {ec mc : Int32} (hB : RelB 2078 eF ec gF mc) (hK : RelK kF mK) (rF cF aF lF bF tF dF : Nat → Int32) (len x1 x2 x3 : Int32) (oLF : Nat → Int64) : ∃ (ret v : Int32) (oLF' : Nat → Int64) (sF' rF' cF' aF' eF' kF' lF' bF' tF' dF' gF' mK' : Nat → Int32) (cn' len' ec' mc' : Int32), f_L_encode n (nI w) (nI h) (nI bt) (nI ch) (w * h * ch) oS (nI st) 256 sF cn (gLB w h ch bt 0) rF (gLB w h ch bt 0) cF (gLB w h ch bt 0) aF len 2078 eF ec 5 kF oLF x1 x2 x3 = some (ret, sF', cn', rF', cF', aF', len', eF', ec', kF', oLF') ∧ f_X5_encode n (nI w) (nI h) (nI bt) (nI ch) (nI st) 8 a 8 b 8 c 8 d 1024 mS 140 lF 140 bF 140 tF 256 dF 4000 gF mc 5 mK x1 x2 x3 = some (v, ret, lF', bF', tF', dF', gF', mc', mK') ∧ (ret = 0 → lg_cmp (oLF' ((0 : Int32)).toNatClampNeg) v.toInt64 = 0) ∧ RelB 2078 eF' ec' gF' mc' ∧ RelK kF' mK' ∧ RelC (q + 1000) sF' cn' := by
  have c1 : ¬ (1 : Int32) ≤ 0 := by decide
  have c0 : (0 : Int32) ≤ 0 := by decide
  have c10 : ¬ (1 : Int32) = 0 := by decide
  rcases i_cases x1 with hx | ⟨wy, hwy, rfl⟩
  · refine ⟨1, 0, oLF, sF, rF, cF, aF, eF, kF, lF, bF, tF, dF, gF, mK, cn, len, ec, mc, ?_, ?_, fun q => absurd q c10, hB, hK, hQ.mono (by omega)⟩
    · unfold f_L_encode f_X4_encode
      rw [if_pos hx]; rfl
    · unfold f_X5_encode
      rw [in_lt hx, xb_some, if_pos rfl, if_neg c1]
  rcases Nat.lt_or_ge wy 9 with hw | hw
  case inr =>
    refine ⟨1, 0, oLF, sF, rF, cF, aF, eF, kF, lF, bF, tF, dF, gF, mK, cn, len, ec, mc, ?_, ?_, fun q => absurd q c10, hB, hK, hQ.mono (by omega)⟩
    · unfold f_L_encode f_X4_encode
      rw [if_neg (nI_pos hwy), if_neg (by rw [nI8]; exact nI_ge (by omega) hwy)]; rfl
    · unfold f_X5_encode
      rw [in_gt (by rw [nI8, nI_ltI (by decide) hwy]; omega), xb_some, if_pos rfl, if_neg c1]
  obtain ⟨K1, k1, k2, -⟩ := f_fill_ok (0 : Int32) (n := n) kF (show 5 < 2 ^ 31 by omega) (by omega)
  obtain ⟨K2, u1, u2, -⟩ := mch_ok (y1 := nI wy) (y2 := x2) (y3 := x3) (y4 := x2) 5 n 0 mK (by omega) (by omega)
  rw [nI_0] at u1
  have hK2 : RelK K1 K2 := fun j hj => by rw [k2 j hj, u2 j (by omega) hj]
  have hin : f_X5_in n (nI wy) 0 8 = some 1 := in_ok (nI_pos hwy) (by rw [nI8, nI_ltI (by decide) hwy]; omega)
  by_cases h3 : x3 = 0
  · obtain ⟨sF', rF', cF', aF', eF', kF', lF', bF', tF', dF', gF', mK', cn', len', y4', E', i0, i1, i2, i3, i4, i5⟩ := enc_passes (lp := 0) hG hs hw hR hT x2 x3 (Or.inl ⟨h3, rfl⟩) 1 n 0 0 q sF rF cF aF eF K1 lF bF tF dF gF K2 cn len x2 (by omega) (by omega) (by omega) (by decide) (by omega) (fun i hi => by omega) hK2 hQ
    rw [nI_0] at i1 i2
    refine ⟨0, nI E', vp_updL oLF ((0 : Int32)).toNatClampNeg (nI E').toInt64, sF', rF', cF', aF', eF', kF', lF', bF', tF', dF', gF', mK', cn', len', nI E', nI E', ?_, ?_, fun _ => ?_, ⟨E', i0, rfl, rfl, i3⟩, i4, i5.mono (by omega)⟩
    · unfold f_L_encode f_X4_encode f_X4_forgetEncoded f_X0_drop f_X4_firstPass
      rw [if_neg (nI_pos hwy), if_pos (by rw [nI8]; exact nI_le (by omega) (by decide)), xb_some, k1, xb_some, xb_some]
      dsimp only
      rw [if_pos h3, xb_some, i1]
      rfl
    · unfold f_X5_encode
      rw [hin, xb_some, if_neg c10, if_pos c0, u1, xb_some]
      dsimp only
      rw [if_pos h3, i2]
      rfl
    · rw [out0]; exact lg_same _
  · obtain ⟨sF', rF', cF', aF', eF', kF', lF', bF', tF', dF', gF', mK', cn', len', y4', E', i0, i1, i2, i3, i4, i5⟩ := enc_passes (lp := 7) hG hs hw hR hT x2 x3 (Or.inr ⟨h3, rfl⟩) 7 n 1 0 q sF rF cF aF eF K1 lF bF tF dF gF K2 cn len x2 (by omega) (by omega) (by omega) (by decide) (by omega) (fun i hi => by omega) hK2 hQ
    rw [nI_0] at i1 i2
    refine ⟨0, nI E', vp_updL oLF ((0 : Int32)).toNatClampNeg (nI E').toInt64, sF', rF', cF', aF', eF', kF', lF', bF', tF', dF', gF', mK', cn', len', nI E', nI E', ?_, ?_, fun _ => ?_, ⟨E', i0, rfl, rfl, i3⟩, i4, i5.mono (by omega)⟩
    · unfold f_L_encode f_X4_encode f_X4_forgetEncoded f_X0_drop f_X4_firstPass
      rw [if_neg (nI_pos hwy), if_pos (by rw [nI8]; exact nI_le (by omega) (by decide)), xb_some, k1, xb_some, xb_some]
      dsimp only
      rw [if_neg h3, xb_some, nI1, i1]
      rfl
    · unfold f_X5_encode
      rw [hin, xb_some, if_neg c10, if_pos c0, u1, xb_some]
      dsimp only
      rw [if_neg h3, nI1, i2]
      rfl
    · rw [out0]; exact lg_same _
