/-! ===== filtered and worth ===== -/
theorem line_cases (n : Nat) {w h p : Nat} (hw : 1 ≤ w ∧ w ≤ 16) (hh : 1 ≤ h ∧ h ≤ 16) (hp : p < 8) (x : Int32) : (∃ j : Nat, j < gLines w h p ∧ x = nI j ∧ f_X2_hasLine n (nI w) (nI h) (nI p) x = some 1 ∧ f_X5_in n x 0 (nI (gLines w h p) - 1) = some 1) ∨ (f_X2_hasLine n (nI w) (nI h) (nI p) x = some 0 ∧ f_X5_in n x 0 (nI (gLines w h p) - 1) = some 0) := by
  have hl := gLines_le (w := w) hh.2 hp
  unfold f_X2_hasLine
  rw [linesOf_ok n hw hh hp, xb_some]
  rcases i_cases x with h1 | ⟨j, hj, rfl⟩
  · right
    rw [if_pos h1]
    exact ⟨rfl, in_lt h1⟩
  · rw [if_neg (nI_pos hj)]
    rcases Nat.lt_or_ge j (gLines w h p) with h2 | h2
    · left
      refine ⟨j, h2, rfl, ?_, in_ok (nI_pos hj) (by rw [nI_m1_lt (by omega) hj]; omega)⟩
      rw [if_neg (nI_ge h2 (by omega))]
    · right
      refine ⟨?_, in_gt ((nI_m1_lt (by omega) hj).mpr h2)⟩
      rw [if_pos (nI_le h2 hj)]
/-- filtered -/
theorem op4 {n w h ch bt st : Nat} (hn : 1000 < n) (hG : Geo w h ch bt) (hs : 1 ≤ st ∧ st ≤ 8) {oS mS : Nat → Int32} (hR : RelS w h ch bt oS mS) {a b c d : Nat → Int32} (hT : Tab a b c d) (rF cF aF lF bF tF : Nat → Int32) (len x1 x2 x3 x4 : Int32) (oLF : Nat → Int64) : ∃ (ret v : Int32) (oLF' : Nat → Int64) (rF' cF' aF' lF' bF' tF' : Nat → Int32) (len' : Int32), f_L_filtered n (nI w) (nI h) (nI bt) (nI ch) (w * h * ch) oS (nI st) (gLB w h ch bt 0) rF (gLB w h ch bt 0) cF (gLB w h ch bt 0) aF len oLF x1 x2 x3 x4 = some (ret, rF', cF', aF', len', oLF') ∧ f_X5_filtered n (nI w) (nI h) (nI bt) (nI ch) (nI st) 8 a 8 b 8 c 8 d 1024 mS 140 lF 140 bF 140 tF x1 x2 x3 x4 = some (v, ret, lF', bF', tF') ∧ (ret = 0 → lg_cmp (oLF' ((0 : Int32)).toNatClampNeg) v.toInt64 = 0) := by
  have c1 : ¬ (1 : Int32) ≤ 0 := by decide
  have c2 : ¬ (2 : Int32) ≤ 0 := by decide
  have c0 : (0 : Int32) ≤ 0 := by decide
  have c10 : ¬ (1 : Int32) = 0 := by decide
  have c20 : ¬ (2 : Int32) = 0 := by decide
  have hG0 := hG
  obtain ⟨hw1, hw2, hh1, hh2, hc1, hc2, hb, -⟩ := hG
  obtain ⟨hb1, hb2, -, -⟩ := bt_le hb
  rcases pass_cases n x1 with ⟨p, hp, rfl, e1, e2⟩ | ⟨e1, e2⟩
  case inr =>
    refine ⟨1, 0, oLF, rF, cF, aF, lF, bF, tF, len, ?_, ?_, fun q => absurd q c10⟩
    · unfold f_L_filtered f_X4_filtered
      rw [e1, xb_some, if_pos rfl]; rfl
    · unfold f_X5_filtered
      rw [e2, xb_some, if_pos rfl, if_neg c10, if_neg c1]
  rcases kind_cases n x3 with ⟨k, hk, rfl, e3, e4⟩ | ⟨e3, e4⟩
  case inr =>
    refine ⟨1, 0, oLF, rF, cF, aF, lF, bF, tF, len, ?_, ?_, fun q => absurd q c10⟩
    · unfold f_L_filtered f_X4_filtered
      rw [e1, xb_some, if_neg c10, e3, xb_some, if_pos rfl]; rfl
    · unfold f_X5_filtered
      rw [e2, xb_some, if_neg c10, e4, xb_some, if_pos rfl, if_neg c10, if_neg c1]
  have m1 := mlines_ok n ⟨hw1, hw2⟩ ⟨hh1, hh2⟩ hp hT
  have m2 := mbytes_ok n ⟨hw1, hw2⟩ ⟨hh1, hh2⟩ hp hc2 hb2 hT
  have l2 := lineBytes_ok n ⟨hw1, hw2⟩ ⟨hh1, hh2⟩ hp hc2 hb2
  rcases line_cases n ⟨hw1, hw2⟩ ⟨hh1, hh2⟩ hp x2 with ⟨j, hj, rfl, e5, e6⟩ | ⟨e5, e6⟩
  case inr =>
    refine ⟨2, 0, oLF, rF, cF, aF, lF, bF, tF, len, ?_, ?_, fun q => absurd q c20⟩
    · unfold f_L_filtered f_X4_filtered
      rw [e1, xb_some, if_neg c10, e3, xb_some, if_neg c10, e5, xb_some, if_pos rfl]; rfl
    · unfold f_X5_filtered
      rw [e2, xb_some, if_neg c10, e4, xb_some, if_neg c10, if_pos rfl, m1, xb_some, e6, xb_some, if_pos rfl, if_neg c2]
  have hM := gLB_128 (p := 0) ⟨hw1, hw2⟩ ⟨hh1, hh2⟩ (by omega) hc2 hb2
  have hle := gLB_le (ch := ch) (bt := bt) ⟨hw1, hw2⟩ ⟨hh1, hh2⟩ hp
  rcases i_cases x4 with h | ⟨i, hi, rfl⟩
  · refine ⟨2, 0, oLF, rF, cF, aF, lF, bF, tF, len, ?_, ?_, fun q => absurd q c20⟩
    · unfold f_L_filtered f_X4_filtered
      rw [e1, xb_some, if_neg c10, e3, xb_some, if_neg c10, e5, xb_some, if_neg c10, if_pos h]; rfl
    · unfold f_X5_filtered
      rw [e2, xb_some, if_neg c10, e4, xb_some, if_neg c10, if_pos rfl, m1, xb_some, e6, xb_some, if_neg c10, m2, xb_some, in_lt h, xb_some, if_pos rfl, if_neg c2]
  · rcases Nat.lt_or_ge i (gLB w h ch bt p) with hiL | hiL
    · obtain ⟨C, A, C', A', t1, t2, t3, t4⟩ := take_ok (n := n) (by omega) hG0 hp hj hR hT cF aF lF bF
      obtain ⟨R2, R2', f1, f2, f3⟩ := filter_ok (n := n) (n' := n) hM hle hs hk t3 t4 (by omega) (by omega) rF tF
      obtain ⟨u, u1, u2, u3⟩ := f3 i hiL
      refine ⟨0, nI u, vp_updL oLF ((0 : Int32)).toNatClampNeg (nI u).toInt64, R2, C, A, C', A', R2', nI (gLB w h ch bt p), ?_, ?_, fun _ => ?_⟩
      · unfold f_L_filtered f_X4_filtered
        rw [e1, xb_some, if_neg c10, e3, xb_some, if_neg c10, e5, xb_some, if_neg c10, if_neg (nI_pos hi), l2, xb_some, if_pos (nI_lt hiL (by omega)), t1, xb_some]
        dsimp only
        rw [f1, xb_some, xin_nI (by omega) (by omega), nI_clamp hi, u2]
        rfl
      · unfold f_X5_filtered
        rw [e2, xb_some, if_neg c10, e4, xb_some, if_neg c10, if_pos rfl, m1, xb_some, e6, xb_some, if_neg c10, m2, xb_some, in_ok (nI_pos hi) (by rw [nI_m1_lt (by omega) hi]; omega), xb_some, if_neg c10, if_pos c0, t2, xb_some]
        dsimp only
        rw [xb_some, f2, xb_some, xin_nI (by omega) (by omega), nI_clamp hi, u3]
      · rw [out0]; exact lg_same _
    · refine ⟨2, 0, oLF, rF, cF, aF, lF, bF, tF, len, ?_, ?_, fun q => absurd q c20⟩
      · unfold f_L_filtered f_X4_filtered
        rw [e1, xb_some, if_neg c10, e3, xb_some, if_neg c10, e5, xb_some, if_neg c10, if_neg (nI_pos hi), l2, xb_some, if_neg (nI_nlt hiL hi)]; rfl
      · unfold f_X5_filtered
        rw [e2, xb_some, if_neg c10, e4, xb_some, if_neg c10, if_pos rfl, m1, xb_some, e6, xb_some, if_neg c10, m2, xb_some, in_gt ((nI_m1_lt (by omega) hi).mpr hiL), xb_some, if_pos rfl, if_neg c2]
/-- worth -/
theorem op5 {n w h ch bt st q : Nat} (hn : 1000 < n) (hG : Geo w h ch bt) (hs : 1 ≤ st ∧ st ≤ 8) {oS mS : Nat → Int32} (hR : RelS w h ch bt oS mS) {a b c d : Nat → Int32} (hT : Tab a b c d) (hq : q < 1999999000) {sF : Nat → Int32} {cn : Int32} (hQ : RelC q sF cn) (rF cF aF lF bF tF eF : Nat → Int32) (len x1 x2 x3 x4 : Int32) (oLF : Nat → Int64) : ∃ (ret v : Int32) (oLF' : Nat → Int64) (sF' rF' cF' aF' lF' bF' tF' eF' : Nat → Int32) (cn' len' : Int32), f_L_worth n (nI w) (nI h) (nI bt) (nI ch) (w * h * ch) oS (nI st) 256 sF cn (gLB w h ch bt 0) rF (gLB w h ch bt 0) cF (gLB w h ch bt 0) aF len oLF x1 x2 x3 x4 = some (ret, sF', cn', rF', cF', aF', len', oLF') ∧ f_X5_worth n (nI w) (nI h) (nI bt) (nI ch) (nI st) 8 a 8 b 8 c 8 d 1024 mS 140 lF 140 bF 140 tF 256 eF x1 x2 x3 x4 = some (v, ret, lF', bF', tF', eF') ∧ (ret = 0 → lg_cmp (oLF' ((0 : Int32)).toNatClampNeg) v.toInt64 = 0) ∧ RelC (q + 1000) sF' cn' := by
  have c1 : ¬ (1 : Int32) ≤ 0 := by decide
  have c2 : ¬ (2 : Int32) ≤ 0 := by decide
  have c0 : (0 : Int32) ≤ 0 := by decide
  have c10 : ¬ (1 : Int32) = 0 := by decide
  have c20 : ¬ (2 : Int32) = 0 := by decide
  have hQ2 := hQ.mono (show q ≤ q + 1000 by omega)
  have hG0 := hG
  obtain ⟨hw1, hw2, hh1, hh2, hc1, hc2, hb, -⟩ := hG
  obtain ⟨hb1, hb2, -, -⟩ := bt_le hb
  rcases pass_cases n x1 with ⟨p, hp, rfl, e1, e2⟩ | ⟨e1, e2⟩
  case inr =>
    refine ⟨1, 0, oLF, sF, rF, cF, aF, lF, bF, tF, eF, cn, len, ?_, ?_, fun q => absurd q c10, hQ2⟩
    · unfold f_L_worth f_X4_worth
      rw [e1, xb_some, if_pos rfl]; rfl
    · unfold f_X5_worth
      rw [e2, xb_some, if_pos rfl, if_neg c10, if_neg c1]
  rcases kind_cases n x3 with ⟨k, hk, rfl, e3, e4⟩ | ⟨e3, e4⟩
  case inr =>
    refine ⟨1, 0, oLF, sF, rF, cF, aF, lF, bF, tF, eF, cn, len, ?_, ?_, fun q => absurd q c10, hQ2⟩
    · unfold f_L_worth f_X4_worth
      rw [e1, xb_some, if_neg c10, e3, xb_some, if_pos rfl]; rfl
    · unfold f_X5_worth
      rw [e2, xb_some, if_neg c10, e4, xb_some, if_pos rfl, if_neg c10, if_neg c1]
  by_cases hx : x4 < 5
  · refine ⟨1, 0, oLF, sF, rF, cF, aF, lF, bF, tF, eF, cn, len, ?_, ?_, fun q => absurd q c10, hQ2⟩
    · unfold f_L_worth f_X4_worth
      rw [e1, xb_some, if_neg c10, e3, xb_some, if_neg c10, if_pos hx]; rfl
    · unfold f_X5_worth
      rw [e2, xb_some, if_neg c10, e4, xb_some, if_neg c10, in_lt hx, xb_some, if_pos rfl, if_neg c10, if_neg c1]
  by_cases hx7 : (7 : Int32) < x4
  · refine ⟨1, 0, oLF, sF, rF, cF, aF, lF, bF, tF, eF, cn, len, ?_, ?_, fun q => absurd q c10, hQ2⟩
    · unfold f_L_worth f_X4_worth
      rw [e1, xb_some, if_neg c10, e3, xb_some, if_neg c10, if_neg hx, if_neg (Int32.not_le.mpr hx7)]; rfl
    · unfold f_X5_worth
      rw [e2, xb_some, if_neg c10, e4, xb_some, if_neg c10, in_gt hx7, xb_some, if_pos rfl, if_neg c10, if_neg c1]
  obtain ⟨wy, hwy, rfl⟩ : ∃ wy : Nat, (wy = 5 ∨ wy = 6 ∨ wy = 7) ∧ x4 = nI wy := by
    rcases i_cases x4 with h | ⟨i, hi, rfl⟩
    · exact absurd (Int32.lt_trans h (by decide)) hx
    · rw [nI5, nI_ltI hi (by decide)] at hx
      rw [nI7, nI_ltI (by decide) hi] at hx7
      exact ⟨i, by omega, rfl⟩
  have m1 := mlines_ok n ⟨hw1, hw2⟩ ⟨hh1, hh2⟩ hp hT
  have m2 := mbytes_ok n ⟨hw1, hw2⟩ ⟨hh1, hh2⟩ hp hc2 hb2 hT
  rcases line_cases n ⟨hw1, hw2⟩ ⟨hh1, hh2⟩ hp x2 with ⟨j, hj, rfl, e5, e6⟩ | ⟨e5, e6⟩
  case inr =>
    refine ⟨2, 0, oLF, sF, rF, cF, aF, lF, bF, tF, eF, cn, len, ?_, ?_, fun q => absurd q c20, hQ2⟩
    · unfold f_L_worth f_X4_worth
      rw [e1, xb_some, if_neg c10, e3, xb_some, if_neg c10, if_neg hx, if_pos (Int32.not_lt.mp hx7), e5, xb_some, if_pos rfl]; rfl
    · unfold f_X5_worth
      rw [e2, xb_some, if_neg c10, e4, xb_some, if_neg c10, in_ok hx hx7, xb_some, if_neg c10, if_pos rfl, m1, xb_some, e6, xb_some, if_pos rfl, if_neg c2]
  have hM := gLB_128 (p := 0) ⟨hw1, hw2⟩ ⟨hh1, hh2⟩ (by omega) hc2 hb2
  have hle := gLB_le (ch := ch) (bt := bt) ⟨hw1, hw2⟩ ⟨hh1, hh2⟩ hp
  obtain ⟨C, A, C', A', t1, t2, t3, t4⟩ := take_ok (n := n) (by omega) hG0 hp hj hR hT cF aF lF bF
  obtain ⟨u, sF', cn', R2, R2', S', u0, u1, u2, u3, u4⟩ := worth_ok (n := n) (n' := n) hM hle hs hk t3 t4 (by omega) (by omega) hwy (by omega) hQ rF tF eF
  refine ⟨0, nI u, vp_updL oLF ((0 : Int32)).toNatClampNeg (nI u).toInt64, sF', R2, C, A, C', A', R2', S', cn', nI (gLB w h ch bt p), ?_, ?_, fun _ => ?_, u4.mono (by omega)⟩
  · unfold f_L_worth f_X4_worth
    rw [e1, xb_some, if_neg c10, e3, xb_some, if_neg c10, if_neg hx, if_pos (Int32.not_lt.mp hx7), e5, xb_some, if_neg c10, t1, xb_some]
    dsimp only
    rw [u1]
    rfl
  · unfold f_X5_worth
    rw [e2, xb_some, if_neg c10, e4, xb_some, if_neg c10, in_ok hx hx7, xb_some, if_neg c10, if_pos rfl, m1, xb_some, e6, xb_some, if_neg c10, if_pos c0, t2, xb_some]
    dsimp only
    rw [m2, xb_some, u2, xb_some, xb_some, u3]
    rfl
  · rw [out0]; exact lg_same _
