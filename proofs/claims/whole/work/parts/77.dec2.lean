/-! ===== reading back: passes ===== -/
theorem mline0_ok {y1 y2 y3 y4 y5 y6 : Int32} : ∀ (k n i : Nat) (F : Nat → Int32), i + k = 140 → k < n → ∃ G : Nat → Int32, fl_X5_decode_57 n 140 F y1 y2 y3 y4 y5 y6 (nI i) = some (nI 140, G) ∧ (∀ j, i ≤ j → j < 140 → G j = 0) ∧ (∀ j, j < i ∨ 140 ≤ j → G j = F j) := by
  intro k
  have e64 : (140 : Int32) = nI 140 := by decide
  induction k with
  | zero =>
    intro n i F h1 h2
    obtain ⟨n, rfl⟩ : ∃ m, n = m + 1 := ⟨n - 1, by omega⟩
    refine ⟨F, ?_, fun j a b => by omega, fun j _ => rfl⟩
    rw [fl_X5_decode_57]
    have : i = 140 := by omega
    subst this
    rw [if_pos (by decide)]
  | succ k ih =>
    intro n i F h1 h2
    obtain ⟨n, rfl⟩ : ∃ m, n = m + 1 := ⟨n - 1, by omega⟩
    obtain ⟨G, e, g1, g2⟩ := ih n (i + 1) (upd F i 0) (by omega) (by omega)
    refine ⟨G, ?_, fun j a b => ?_, fun j a => ?_⟩
    · rw [fl_X5_decode_57, if_neg (by rw [e64]; exact nI_ge (by omega) (by decide)), xin_nI (by omega) (by decide), nI_clamp (by omega), nI_1]
      exact e
    · rcases Nat.eq_or_lt_of_le a with h | h
      · rw [g2 j (Or.inl (by omega)), ← h, pk_us]
      · exact g1 j h b
    · rw [g2 j (by omega), pk_un (by omega)]
theorem dec_passes {w h ch bt st U lp : Nat} (hG : Geo w h ch bt) (hs : 1 ≤ st ∧ st ≤ 8) {a b c d : Nat → Int32} (hT : Tab a b c d) {uF fF : Nat → Int32} (hU : U ≤ 4000) (hF : RelE U uF fF) (y1 : Int32) (hl : (y1 = 0 ∧ lp = 0) ∨ (¬ y1 = 0 ∧ lp = 7)) : ∀ (r n p P q cur abv : Nat) (D D' C C' A A' : Nat → Int32) (len : Int32), p + r = lp + 1 → r + 1100 < n → P ≤ U → RelS w h ch bt D D' → ∃ (D2 D2' C2 C2' A2 A2' : Nat → Int32) (cur2 abv2 : Nat) (len2 : Int32), RelS w h ch bt D2 D2' ∧ ((∃ v : Int32, v < 0 ∧ fl_X4_readDraft_10 n (nI w) (nI h) (nI bt) (nI ch) (nI (2 ^ bt - 1)) (w * h * ch) D (nI st) (gLB w h ch bt 0) cur (gLB w h ch bt 0) C abv (gLB w h ch bt 0) A len 4000 uF (nI U) y1 (nI P) (nI q) (nI p) = some (.inl (v, D2, cur2, gLB w h ch bt 0, C2, abv2, gLB w h ch bt 0, A2, len2)) ∧ fl_X5_decode_31 n (nI w) (nI h) (nI bt) (nI ch) (nI st) 8 a 8 b 8 c 8 d 1024 D' 140 C' 140 A' 4000 fF y1 (nI U) (nI P) (nI q) (nI p) = some (.inl (v, D2', C2', A2'))) ∨ (∃ P' q' : Nat, P' ≤ U ∧ q' ≤ q + 16 * r ∧ fl_X4_readDraft_10 n (nI w) (nI h) (nI bt) (nI ch) (nI (2 ^ bt - 1)) (w * h * ch) D (nI st) (gLB w h ch bt 0) cur (gLB w h ch bt 0) C abv (gLB w h ch bt 0) A len 4000 uF (nI U) y1 (nI P) (nI q) (nI p) = some (.inr (nI P', nI q', nI (lp + 1), D2, cur2, gLB w h ch bt 0, C2, abv2, gLB w h ch bt 0, A2, len2)) ∧ fl_X5_decode_31 n (nI w) (nI h) (nI bt) (nI ch) (nI st) 8 a 8 b 8 c 8 d 1024 D' 140 C' 140 A' 4000 fF y1 (nI U) (nI P) (nI q) (nI p) = some (.inr (nI P', nI q', nI (lp + 1), D2', C2', A2')))) := by
  have hG0 := hG
  obtain ⟨hw1, hw2, hh1, hh2, hc1, hc2, hb, -⟩ := hG
  obtain ⟨hb1, hb2, -, -⟩ := bt_le hb
  have hM := gLB_128 (p := 0) ⟨hw1, hw2⟩ ⟨hh1, hh2⟩ (by omega) hc2 hb2
  have hlp : ∀ m, f_X4_lastPass m y1 = some (nI lp) := by
    intro m
    unfold f_X4_lastPass
    rcases hl with ⟨rfl, rfl⟩ | ⟨h, rfl⟩
    · rw [if_pos rfl]; rfl
    · rw [if_neg h]; rfl
  intro r
  induction r with
  | zero =>
    intro n p P q cur abv D D' C C' A A' len h1 h2 h3 h4
    obtain ⟨n, rfl⟩ : ∃ m, n = m + 1 := ⟨n - 1, by omega⟩
    have : p = lp + 1 := by omega
    subst this
    refine ⟨D, D', C, C', A, A', cur, abv, len, h4, Or.inr ⟨P, q, h3, by omega, ?_, ?_⟩⟩
    · rw [fl_X4_readDraft_10, hlp, xb_some, if_pos (nI_lt (by omega) (by omega))]
    · rw [fl_X5_decode_31]
      rcases hl with ⟨rfl, rfl⟩ | ⟨h, rfl⟩
      · rw [if_pos rfl, if_pos (by decide)]
      · rw [if_neg h, if_pos (by decide)]
  | succ r ih =>
    intro n p P q cur abv D D' C C' A A' len h1 h2 h3 h4
    obtain ⟨n, rfl⟩ : ∃ m, n = m + 1 := ⟨n - 1, by omega⟩
    have hp : p < 8 := by omega
    have hll := gLines_le (w := w) hh2 hp
    have hle := gLB_le (ch := ch) (bt := bt) ⟨hw1, hw2⟩ ⟨hh1, hh2⟩ hp
    obtain ⟨C0, f1, f2, -⟩ := f_fill_ok (0 : Int32) (n := n) C (show gLB w h ch bt 0 < 2 ^ 31 by omega) (by omega)
    obtain ⟨C0', g1, g2, -⟩ := mline0_ok (y1 := y1) (y2 := nI U) (y3 := nI P) (y4 := nI q) (y5 := nI p) (y6 := nI (gLB w h ch bt p)) 140 n 0 C' (by omega) (by omega)
    rw [nI_0] at g1
    have hC0 : RelY (gLB w h ch bt p) C0 C0' := fun i hi => ⟨0, by omega, f2 i (by omega), g2 i (by omega) (by omega)⟩
    have hst : f_X3_startPass n (gLB w h ch bt 0) (gLB w h ch bt 0) C (nI (gLB w h ch bt p)) = some (C0, nI (gLB w h ch bt p)) := by
      unfold f_X3_startPass
      rw [f1, xb_some]
      split
      · rfl
      · rename_i e
        rw [nI_ltI (by omega) (by omega)] at e
        rw [show gLB w h ch bt p = gLB w h ch bt 0 by omega]
    have hmb := mbytes_ok n ⟨hw1, hw2⟩ ⟨hh1, hh2⟩ hp hc2 hb2 hT
    have hcl : fl_X4_readDraft_10 (n + 1) (nI w) (nI h) (nI bt) (nI ch) (nI (2 ^ bt - 1)) (w * h * ch) D (nI st) (gLB w h ch bt 0) cur (gLB w h ch bt 0) C abv (gLB w h ch bt 0) A len 4000 uF (nI U) y1 (nI P) (nI q) (nI p) = xb (fl_X4_readDraft_38 n (nI w) (nI h) (nI bt) (nI ch) (nI (2 ^ bt - 1)) (w * h * ch) D (nI st) cur (gLB w h ch bt 0) C0 abv (gLB w h ch bt 0) A (nI (gLB w h ch bt p)) 4000 uF (nI U) y1 (nI P) (nI q) (nI p) 0) (fun X => match X with | .inl (r_19, w_20, w_21, w_22, w_23, w_24, w_25, w_26) => some (.inl (r_19, w_20, w_21, w_22, w_23, w_24, w_25, w_26, nI (gLB w h ch bt p))) | .inr (v_9, v_10, v_11, w_12, w_13, w_14, w_15, w_16, w_17, w_18) => fl_X4_readDraft_10 n (nI w) (nI h) (nI bt) (nI ch) (nI (2 ^ bt - 1)) (w * h * ch) w_12 (nI st) (gLB w h ch bt 0) w_13 w_14 w_15 w_16 w_17 w_18 (nI (gLB w h ch bt p)) 4000 uF (nI U) y1 v_9 v_10 (nI p + 1)) := by
      rw [fl_X4_readDraft_10, hlp, xb_some, if_neg (nI_nlt (by omega) (by omega)), lineBytes_ok n ⟨hw1, hw2⟩ ⟨hh1, hh2⟩ hp hc2 hb2, xb_some, hst, xb_some]
      all_goals rfl
    have hmo : fl_X5_decode_31 (n + 1) (nI w) (nI h) (nI bt) (nI ch) (nI st) 8 a 8 b 8 c 8 d 1024 D' 140 C' 140 A' 4000 fF y1 (nI U) (nI P) (nI q) (nI p) = xb (fl_X5_decode_82 n (nI w) (nI h) (nI bt) (nI ch) (nI st) 8 a 8 b 8 c 8 d 1024 D' 140 C0' 140 A' 4000 fF y1 (nI U) (nI P) (nI q) (nI p) (nI (gLB w h ch bt p)) 0) (fun X => match X with | .inl (r_13, w_14, w_15, w_16) => some (.inl (r_13, w_14, w_15, w_16)) | .inr (v_7, v_8, v_9, w_10, w_11, w_12) => fl_X5_decode_31 n (nI w) (nI h) (nI bt) (nI ch) (nI st) 8 a 8 b 8 c 8 d 1024 w_10 140 w_11 140 w_12 4000 fF y1 (nI U) v_7 v_8 (nI p + 1)) := by
      rw [fl_X5_decode_31]
      rcases hl with ⟨e, rfl⟩ | ⟨e, rfl⟩
      · have : p = 0 := by omega
        subst this
        rw [if_pos e, if_neg (by decide), hmb, xb_some, g1, xb_some]
        all_goals rfl
      · rw [if_neg e, if_neg (by rw [nI7]; exact nI_nlt (by omega) (by decide)), hmb, xb_some, g1, xb_some]
        all_goals rfl
    obtain ⟨D1, D1', C1, C1', A1, A1', cur1, abv1, a0, a1⟩ := dec_lines hG0 hs hp hT hU hF y1 y1 (gLines w h p) n 0 P q cur abv D D' C0 C0' A A' (by omega) (by omega) h3 h4 hC0
    rw [nI_0] at a1
    rcases a1 with ⟨v, b0, b1, b2⟩ | ⟨P', b0, b1, b2⟩
    · refine ⟨D1, D1', C1, C1', A1, A1', cur1, abv1, nI (gLB w h ch bt p), a0, Or.inl ⟨v, b0, ?_, ?_⟩⟩
      · rw [hcl, b1]; rfl
      · rw [hmo, b2]; rfl
    · obtain ⟨D2, D2', C2, C2', A2, A2', cur2, abv2, len2, i0, i1⟩ := ih n (p + 1) P' (q + gLines w h p) cur1 abv1 D1 D1' C1 C1' A1 A1' (nI (gLB w h ch bt p)) (by omega) (by omega) b0 a0
      refine ⟨D2, D2', C2, C2', A2, A2', cur2, abv2, len2, i0, ?_⟩
      rw [hcl, hmo, b1, b2, xb_some, xb_some]
      dsimp only
      rw [nI_1]
      rcases i1 with i1 | ⟨P2, q2, j1, j2, j3, j4⟩
      · exact Or.inl i1
      · exact Or.inr ⟨P2, q2, j1, by omega, j3, j4⟩
/-! the draft taken over -/
theorem cp290_ok {w h ch x y : Nat} (hw : w ≤ 16) (hh : h ≤ 16) (hc : ch ≤ 4) (hx : x < w) (hy : y < h) {D : Nat → Int32} (y1 y2 y3 y4 : Int32) : ∀ (k n c : Nat) (S : Nat → Int32), c + k = ch → k < n → ∃ S' : Nat → Int32, fl_X5_decode_290 n (nI ch) 1024 S 1024 D y1 y2 y3 y4 (nI y) (nI x) (nI c) = some (nI ch, S') ∧ (∀ i, S i = D i → S' i = D i) ∧ (∀ c', c ≤ c' → c' < ch → S' (4 * (16 * y + x) + c') = D (4 * (16 * y + x) + c')) := by
  intro k
  induction k with
  | zero =>
    intro n c S h1 h2
    obtain ⟨n, rfl⟩ : ∃ m, n = m + 1 := ⟨n - 1, by omega⟩
    have : c = ch := by omega
    subst this
    refine ⟨S, ?_, fun i h => h, fun c' q1 q2 => by omega⟩
    rw [fl_X5_decode_290, if_pos (nI_le (Nat.le_refl _) (by omega))]
  | succ k ih =>
    intro n c S h1 h2
    obtain ⟨n, rfl⟩ : ∃ m, n = m + 1 := ⟨n - 1, by omega⟩
    obtain ⟨S', i1, i2, i3⟩ := ih n (c + 1) (upd S (4 * (16 * y + x) + c) (D (4 * (16 * y + x) + c))) (by omega) (by omega)
    refine ⟨S', ?_, fun i h => i2 i ?_, fun c' q1 q2 => ?_⟩
    · rw [fl_X5_decode_290, if_neg (nI_ge (by omega) (by omega)), place_nI, xb_some, xb_some, nI_add, xin_nI (by omega) (by decide), xin_nI (by omega) (by decide), nI_clamp (by omega), nI_1]
      exact i1
    · by_cases e : i = 4 * (16 * y + x) + c
      · rw [e, pk_us]
      · rw [pk_un e]; exact h
    · rcases Nat.eq_or_lt_of_le q1 with e | e
      · subst e
        exact i2 _ pk_us
      · exact i3 c' e q2
theorem cp278_ok {w h ch y : Nat} (hw : w ≤ 16) (hh : h ≤ 16) (hc : ch ≤ 4) (hy : y < h) {D : Nat → Int32} (y1 y2 y3 y4 : Int32) : ∀ (k n x : Nat) (S : Nat → Int32), x + k = w → k + 10 < n → ∃ S' : Nat → Int32, fl_X5_decode_278 n (nI w) (nI ch) 1024 S 1024 D y1 y2 y3 y4 (nI y) (nI x) = some (nI w, S') ∧ (∀ i, S i = D i → S' i = D i) ∧ (∀ x', x ≤ x' → x' < w → ∀ c', c' < ch → S' (4 * (16 * y + x') + c') = D (4 * (16 * y + x') + c')) := by
  intro k
  induction k with
  | zero =>
    intro n x S h1 h2
    obtain ⟨n, rfl⟩ : ∃ m, n = m + 1 := ⟨n - 1, by omega⟩
    have : x = w := by omega
    subst this
    refine ⟨S, ?_, fun i h => h, fun c' q1 q2 => by omega⟩
    rw [fl_X5_decode_278, if_pos (nI_le (Nat.le_refl _) (by omega))]
  | succ k ih =>
    intro n x S h1 h2
    obtain ⟨n, rfl⟩ : ∃ m, n = m + 1 := ⟨n - 1, by omega⟩
    obtain ⟨S1, a1, a2, a3⟩ := cp290_ok hw hh hc (show x < w by omega) hy (D := D) y1 y2 y3 y4 ch n 0 S (by omega) (by omega)
    obtain ⟨S', i1, i2, i3⟩ := ih n (x + 1) S1 (by omega) (by omega)
    rw [nI_0] at a1
    refine ⟨S', ?_, fun i h => i2 i (a2 i h), fun x' q1 q2 c' q3 => ?_⟩
    · rw [fl_X5_decode_278, if_neg (nI_ge (by omega) (by omega)), a1, xb_some]
      dsimp only
      rw [nI_1]
      exact i1
    · rcases Nat.eq_or_lt_of_le q1 with e | e
      · subst e
        exact i2 _ (a3 c' (by omega) q3)
      · exact i3 x' e q2 c' q3
theorem cp266_ok {w h ch : Nat} (hw : w ≤ 16) (hh : h ≤ 16) (hc : ch ≤ 4) {D : Nat → Int32} (y1 y2 y3 y4 : Int32) : ∀ (k n y : Nat) (S : Nat → Int32), y + k = h → k + 40 < n → ∃ S' : Nat → Int32, fl_X5_decode_266 n (nI w) (nI h) (nI ch) 1024 S 1024 D y1 y2 y3 y4 (nI y) = some (nI h, S') ∧ (∀ i, S i = D i → S' i = D i) ∧ (∀ y', y ≤ y' → y' < h → ∀ x', x' < w → ∀ c', c' < ch → S' (4 * (16 * y' + x') + c') = D (4 * (16 * y' + x') + c')) := by
  intro k
  induction k with
  | zero =>
    intro n y S h1 h2
    obtain ⟨n, rfl⟩ : ∃ m, n = m + 1 := ⟨n - 1, by omega⟩
    have : y = h := by omega
    subst this
    refine ⟨S, ?_, fun i h => h, fun c' q1 q2 => by omega⟩
    rw [fl_X5_decode_266, if_pos (nI_le (Nat.le_refl _) (by omega))]
  | succ k ih =>
    intro n y S h1 h2
    obtain ⟨n, rfl⟩ : ∃ m, n = m + 1 := ⟨n - 1, by omega⟩
    obtain ⟨S1, a1, a2, a3⟩ := cp278_ok hw hh hc (show y < h by omega) (D := D) y1 y2 y3 y4 w n 0 S (by omega) (by omega)
    obtain ⟨S', i1, i2, i3⟩ := ih n (y + 1) S1 (by omega) (by omega)
    rw [nI_0] at a1
    refine ⟨S', ?_, fun i h => i2 i (a2 i h), fun y' q1 q2 x' q3 c' q4 => ?_⟩
    · rw [fl_X5_decode_266, if_neg (nI_ge (by omega) (by omega)), a1, xb_some]
      dsimp only
      rw [nI_1]
      exact i1
    · rcases Nat.eq_or_lt_of_le q1 with e | e
      · subst e
        exact i2 _ (a3 x' (by omega) q3 c' q4)
      · exact i3 y' e q2 x' q3 c' q4
theorem xcp_ok {α : Type} {N : Nat} {k : Option α} (hN : N < 2 ^ 31) : xcp 0 0 (nI N) N N k = k := by
  unfold xcp
  rw [if_neg]
  rw [nI_clamp hN]
  intro q
  have z : (0 : Int32).toNatClampNeg = 0 := by decide
  rw [z] at q
  rcases q with q | q | q | q | q
  · exact absurd q (by decide)
  · exact absurd q (by decide)
  · exact nI_pos hN q
  · omega
  · omega
/-- decode -/
theorem op11 {n w h ch bt st : Nat} (hn : 2000 < n) (hG : Geo w h ch bt) (hs : 1 ≤ st ∧ st ≤ 8) {oS mS oD mD : Nat → Int32} (hR : RelS w h ch bt oS mS) (hD : RelS w h ch bt oD mD) {a b c d : Nat → Int32} (hT : Tab a b c d) {uF fF : Nat → Int32} {uc fc : Int32} (hU : RelB 4000 uF uc fF fc) (cF aF lF bF : Nat → Int32) (cur abv : Nat) (len x : Int32) : ∃ (v : Int32) (oS' oD' cF' aF' mS' mD' lF' bF' : Nat → Int32) (cur' abv' : Nat) (len' : Int32), f_X4_decode n (nI w) (nI h) (nI bt) (nI ch) (nI (2 ^ bt - 1)) (w * h * ch) oS (w * h * ch) oD (nI st) (gLB w h ch bt 0) cur (gLB w h ch bt 0) cF abv (gLB w h ch bt 0) aF len 4000 uF uc x = some (v, oS', oD', cur', gLB w h ch bt 0, cF', abv', gLB w h ch bt 0, aF', len', 0) ∧ f_X5_decode n (nI w) (nI h) (nI bt) (nI ch) (nI st) 8 a 8 b 8 c 8 d 1024 mS 1024 mD 140 lF 140 bF 4000 fF fc x = some (v, 0, mS', mD', lF', bF', 0) ∧ RelS w h ch bt oS' mS' ∧ RelS w h ch bt oD' mD' := by
  have hG0 := hG
  obtain ⟨hw1, hw2, hh1, hh2, hc1, hc2, hb, -⟩ := hG
  have hN := whc_le hw2 hh2 hc2
  obtain ⟨U, hU4, rfl, rfl, hF⟩ := hU
  obtain ⟨lp, fp, hfl, hfp, hr⟩ : ∃ lp fp : Nat, ((x = 0 ∧ lp = 0) ∨ (¬ x = 0 ∧ lp = 7)) ∧ ((x = 0 ∧ fp = 0) ∨ (¬ x = 0 ∧ fp = 1)) ∧ fp ≤ lp + 1 ∧ lp ≤ 7 := by
    by_cases e : x = 0
    · exact ⟨0, 0, Or.inl ⟨e, rfl⟩, Or.inl ⟨e, rfl⟩, by omega, by omega⟩
    · exact ⟨7, 1, Or.inr ⟨e, rfl⟩, Or.inr ⟨e, rfl⟩, by omega, by omega⟩
  obtain ⟨D2, D2', C2, C2', A2, A2', cur2, abv2, len2, i0, i1⟩ := dec_passes hG0 hs hT hU4 hF x hfl (lp + 1 - fp) n fp 0 0 cur abv oD mD cF lF aF bF len (by omega) (by omega) (by omega) hD
  rw [nI_0] at i1
  have hfirst : f_X4_firstPass n x = some (nI fp) := by
    unfold f_X4_firstPass
    rcases hfp with ⟨rfl, rfl⟩ | ⟨e, rfl⟩
    · rw [if_pos rfl]; rfl
    · rw [if_neg e]; rfl
  -- the model, whichever the first pass
  have hmod : f_X5_decode n (nI w) (nI h) (nI bt) (nI ch) (nI st) 8 a 8 b 8 c 8 d 1024 mS 1024 mD 140 lF 140 bF 4000 fF (nI U) x = xb (fl_X5_decode_31 n (nI w) (nI h) (nI bt) (nI ch) (nI st) 8 a 8 b 8 c 8 d 1024 mD 140 lF 140 bF 4000 fF x (nI U) 0 0 (nI fp)) (fun X => match X with | .inl (r_12, w_13, w_14, w_15) => some (r_12, (0 : Int32), mS, w_13, w_14, w_15, (0 : Int32)) | .inr (v_2, v_3, v_4, w_5, w_6, w_7) => (if nI U ≤ v_2 then xb (fl_X5_decode_266 n (nI w) (nI h) (nI ch) 1024 mS 1024 w_5 x (nI U) v_2 v_3 (0 : Int32)) (fun (v_9, w_10) => some (v_3, (0 : Int32), w_10, w_5, w_6, w_7, (0 : Int32))) else some (((-1 : Int32) - v_2), (0 : Int32), mS, w_5, w_6, w_7, (0 : Int32)))) := by
    unfold f_X5_decode
    rcases hfp with ⟨e, rfl⟩ | ⟨e, rfl⟩
    · rw [if_pos e]
      rfl
    · rw [if_neg e]
      rfl
  rcases i1 with ⟨v, v0, b1, b2⟩ | ⟨P, q, p0, q0, b1, b2⟩
  · refine ⟨v, oS, D2, C2, A2, mS, D2', C2', A2', cur2, abv2, len2, ?_, ?_, hR, i0⟩
    · unfold f_X4_decode f_X4_readDraft f_X0_drop
      rw [hfirst, xb_some, b1, xb_some]
      dsimp only
      rw [xb_some]
      dsimp only
      rw [xb_some, if_pos v0]
    · rw [hmod, b2]; rfl
  · rcases Nat.lt_or_ge P U with hPU | hPU
    · refine ⟨(-1 : Int32) - nI P, oS, D2, C2, A2, mS, D2', C2', A2', cur2, abv2, len2, ?_, ?_, hR, i0⟩
      · unfold f_X4_decode f_X4_readDraft f_X0_drop f_X0_hasByte
        rw [hfirst, xb_some, b1, xb_some]
        dsimp only
        rw [if_neg (nI_pos (by omega)), if_neg (nI_ge hPU (by omega)), xb_some, if_neg (by decide), xb_some]
        dsimp only
        rw [xb_some, if_pos (neg_ok (by omega))]
      · rw [hmod, b2, xb_some]
        dsimp only
        rw [if_neg (nI_ge hPU (by omega))]
    · obtain ⟨S', s1, -, s3⟩ := cp266_ok hw2 hh2 hc2 (D := D2') x (nI U) (nI P) (nI q) h n 0 mS (by omega) (by omega)
      rw [nI_0] at s1
      refine ⟨nI q, va_cpy D2 oS 0 0 (w * h * ch), D2, C2, A2, S', D2', C2', A2', cur2, abv2, len2, ?_, ?_, fun y hy x' hx c' hc => ?_, i0⟩
      · unfold f_X4_decode f_X4_readDraft f_X0_drop f_X0_hasByte f_X2_takeDraft
        rw [hfirst, xb_some, b1, xb_some]
        dsimp only
        rw [if_neg (nI_pos (by omega)), if_pos (nI_le hPU (by omega)), xb_some, if_pos rfl, xb_some]
        dsimp only
        rw [xb_some, if_neg (nI_pos (by omega)), xcp_ok (by omega), nI_clamp (show w * h * ch < 2 ^ 31 by omega)]
        rfl
      · rw [hmod, b2, xb_some]
        dsimp only
        rw [if_pos (nI_le hPU (by omega)), s1]
        rfl
      · obtain ⟨u, u0, u1, u2⟩ := i0 y hy x' hx c' hc
        refine ⟨u, u0, ?_, ?_⟩
        · rw [pk_cpy_in (Nat.zero_le _) (by rw [Nat.zero_add]; exact idx_lt hx hy hc), Nat.sub_zero, Nat.zero_add]; exact u1
        · rw [s3 y (by omega) hy x' hx c' hc]; exact u2
