/-! ===== reading back: lines ===== -/
theorem RelY.refl {L : Nat} {C C' : Nat → Int32} (h : RelY L C C') : RelY L C' C' := fun i hi => by
  obtain ⟨v, a, -, c⟩ := h i hi
  exact ⟨v, a, c, c⟩
theorem byteOf_ok (n : Nat) {U i v : Nat} {uF : Nat → Int32} (hU : U ≤ 4000) (hi : i < U) (h : uF i = nI v) : f_X0_byteOf n 4000 uF (nI U) (nI i) = some (nI v) := by
  unfold f_X0_byteOf f_X0_hasByte
  rw [if_neg (nI_pos (by omega)), if_neg (nI_ge hi (by omega)), xb_some, if_neg (by decide), xin_nI (by omega) (by decide), nI_clamp (by omega), h]
theorem restore_ok {M L st k U P : Nat} {uF fF A A' : Nat → Int32} (hM : M ≤ 128) (hL : L ≤ M) (hs : 1 ≤ st ∧ st ≤ 8) (hk : k < 5) (hU : U ≤ 4000) (hF : RelE U uF fF) (hP : P + 1 + L ≤ U) (hA : RelY L A A') (y1 y4 y5 y7 : Int32) : ∀ (r n i : Nat) (C C' : Nat → Int32), i + r = L → r < n → RelY i C C' → ∃ C2 C2' : Nat → Int32, fl_X3_restoreLine_28 n (nI st) M C M A (nI L) 4000 uF (nI U) (nI P) (nI k) (nI i) = some (nI L, C2) ∧ fl_X5_decode_156 n (nI st) 140 C' 140 A' 4000 fF y1 (nI U) (nI (P + 1 + i)) y4 y5 (nI L) y7 (nI k) (nI i) = some (.inr (nI (P + 1 + L), nI L, C2')) ∧ RelY L C2 C2' := by
  intro r
  induction r with
  | zero =>
    intro n i C C' h1 h2 h3
    obtain ⟨n, rfl⟩ : ∃ m, n = m + 1 := ⟨n - 1, by omega⟩
    have : i = L := by omega
    subst this
    refine ⟨C, C', ?_, ?_, h3⟩
    · rw [fl_X3_restoreLine_28, if_pos (nI_le (Nat.le_refl _) (by omega))]
    · rw [fl_X5_decode_156, if_pos (nI_le (Nat.le_refl _) (by omega))]
  | succ r ih =>
    intro n i C C' h1 h2 h3
    obtain ⟨n, rfl⟩ : ∃ m, n = m + 1 := ⟨n - 1, by omega⟩
    obtain ⟨g, r3, r6, g1, g2, g3, g4⟩ := guess_ok2 n n hM hL (show i < L by omega) hs hk h3 hA
    obtain ⟨v, v1, v2, v3⟩ := hF (P + 1 + i) (by omega)
    obtain ⟨q, hq, eq⟩ := pk_andE (nI v + g) (m := 255) 8 (by decide)
    obtain ⟨C2, C2', i1, i2, i3⟩ := ih n (i + 1) (upd C i (nI q)) (upd C' i (nI q)) (by omega) (by omega) (fun j hj => by
      by_cases e : j = i
      · rw [e, pk_us, pk_us]; exact ⟨q, hq, rfl, rfl⟩
      · rw [pk_un e, pk_un e]; exact h3 j (by omega))
    refine ⟨C2, C2', ?_, ?_, i3⟩
    · rw [fl_X3_restoreLine_28, if_neg (nI_ge (by omega) (by omega)), nI_1, nI_add, byteOf_ok n hU (by omega) v2, xb_some, g1, xb_some, xin_nI (by omega) (by omega), nI_clamp (by omega), eq, nI_1]
      exact i1
    · rw [fl_X5_decode_156, if_neg (nI_ge (by omega) (by omega)), if_neg (by rw [nI_eq (by omega) (by omega)]; omega), xin_nI (by omega) (by omega), g2, xb_some, xin_nI (by omega) (by omega), g3, xb_some, nI_clamp (by omega), g4, xb_some, xin_nI (by omega) (by omega), nI_clamp (by omega), v3, eq, nI_1, nI_1]
      exact i2
theorem short_ok {M L st k U P : Nat} {uF fF A A' : Nat → Int32} (hM : M ≤ 128) (hL : L ≤ M) (hs : 1 ≤ st ∧ st ≤ 8) (hk : k < 5) (hU : U ≤ 4000) (hF : RelE U uF fF) (hP : U < P + 1 + L) (hA : RelY L A A') (y1 y4 y5 y7 : Int32) : ∀ (r n i : Nat) (C' : Nat → Int32), P + 1 + i + r = U → r < n → RelY i C' C' → ∃ C2' : Nat → Int32, fl_X5_decode_156 n (nI st) 140 C' 140 A' 4000 fF y1 (nI U) (nI (P + 1 + i)) y4 y5 (nI L) y7 (nI k) (nI i) = some (.inl ((-1 : Int32) - nI U, C2')) := by
  intro r
  induction r with
  | zero =>
    intro n i C' h1 h2 h3
    obtain ⟨n, rfl⟩ : ∃ m, n = m + 1 := ⟨n - 1, by omega⟩
    refine ⟨C', ?_⟩
    rw [fl_X5_decode_156, if_neg (nI_ge (by omega) (by omega)), show P + 1 + i = U by omega, if_pos rfl]
  | succ r ih =>
    intro n i C' h1 h2 h3
    obtain ⟨n, rfl⟩ : ∃ m, n = m + 1 := ⟨n - 1, by omega⟩
    obtain ⟨g, r3, r6, g1, g2, g3, g4⟩ := guess_ok2 n n hM hL (show i < L by omega) hs hk h3 hA
    obtain ⟨v, v1, v2, v3⟩ := hF (P + 1 + i) (by omega)
    obtain ⟨q, hq, eq⟩ := pk_andE (nI v + g) (m := 255) 8 (by decide)
    obtain ⟨C2', i2⟩ := ih n (i + 1) (upd C' i (nI q)) (by omega) (by omega) (fun j hj => by
      by_cases e : j = i
      · rw [e, pk_us]; exact ⟨q, hq, rfl, rfl⟩
      · rw [pk_un e]; exact h3 j (by omega))
    refine ⟨C2', ?_⟩
    rw [fl_X5_decode_156, if_neg (nI_ge (by omega) (by omega)), if_neg (by rw [nI_eq (by omega) (by omega)]; omega), xin_nI (by omega) (by omega), g2, xb_some, xin_nI (by omega) (by omega), g3, xb_some, nI_clamp (by omega), g4, xb_some, xin_nI (by omega) (by omega), nI_clamp (by omega), v3, eq, nI_1, nI_1]
    exact i2
theorem above_ok {L : Nat} {C' : Nat → Int32} (hL : L ≤ 128) (y1 y2 y3 y4 y5 y7 y8 : Int32) : ∀ (r n i : Nat) (A' : Nat → Int32), i + r = L → r < n → (∀ j, j < i → A' j = C' j) → ∃ A2 : Nat → Int32, fl_X5_decode_126 n 140 C' 140 A' y1 y2 y3 y4 y5 (nI L) y7 y8 (nI i) = some (nI L, A2) ∧ (∀ j, j < L → A2 j = C' j) := by
  intro r
  induction r with
  | zero =>
    intro n i A' h1 h2 h3
    obtain ⟨n, rfl⟩ : ∃ m, n = m + 1 := ⟨n - 1, by omega⟩
    have : i = L := by omega
    subst this
    refine ⟨A', ?_, h3⟩
    rw [fl_X5_decode_126, if_pos (nI_le (Nat.le_refl _) (by omega))]
  | succ r ih =>
    intro n i A' h1 h2 h3
    obtain ⟨n, rfl⟩ : ∃ m, n = m + 1 := ⟨n - 1, by omega⟩
    obtain ⟨A2, i1, i2⟩ := ih n (i + 1) (upd A' i (C' i)) (by omega) (by omega) (fun j hj => by
      by_cases e : j = i
      · rw [e, pk_us]
      · rw [pk_un e]; exact h3 j (by omega))
    refine ⟨A2, ?_, i2⟩
    rw [fl_X5_decode_126, if_neg (nI_ge (by omega) (by omega)), xin_nI (by omega) (by omega), xin_nI (by omega) (by omega), nI_clamp (by omega), nI_1]
    exact i1
theorem neg_ok {P : Nat} (h : P ≤ 4000) : (-1 : Int32) - nI P < 0 := by
  have e : (-1 : Int32) - nI P = nI 0 - nI (P + 1) := by rw [nI_0, ← nI_1, Int32.zero_sub, Int32.neg_add, Int32.sub_eq_add_neg, Int32.sub_eq_add_neg, Int32.add_comm]
  rw [e]
  exact pk_sneg (by omega) (by omega)
theorem dec_lines {w h ch bt st p U : Nat} (hG : Geo w h ch bt) (hs : 1 ≤ st ∧ st ≤ 8) (hp : p < 8) {a b c d : Nat → Int32} (hT : Tab a b c d) {uF fF : Nat → Int32} (hU : U ≤ 4000) (hF : RelE U uF fF) (y1 z1 : Int32) : ∀ (r n j P q cur abv : Nat) (D D' C C' A A' : Nat → Int32), j + r = gLines w h p → r + 1000 < n → P ≤ U → RelS w h ch bt D D' → RelY (gLB w h ch bt p) C C' → ∃ (D2 D2' C2 C2' A2 A2' : Nat → Int32) (cur2 abv2 : Nat), RelS w h ch bt D2 D2' ∧ ((∃ v : Int32, v < 0 ∧ fl_X4_readDraft_38 n (nI w) (nI h) (nI bt) (nI ch) (nI (2 ^ bt - 1)) (w * h * ch) D (nI st) cur (gLB w h ch bt 0) C abv (gLB w h ch bt 0) A (nI (gLB w h ch bt p)) 4000 uF (nI U) y1 (nI P) (nI q) (nI p) (nI j) = some (.inl (v, D2, cur2, gLB w h ch bt 0, C2, abv2, gLB w h ch bt 0, A2)) ∧ fl_X5_decode_82 n (nI w) (nI h) (nI bt) (nI ch) (nI st) 8 a 8 b 8 c 8 d 1024 D' 140 C' 140 A' 4000 fF z1 (nI U) (nI P) (nI q) (nI p) (nI (gLB w h ch bt p)) (nI j) = some (.inl (v, D2', C2', A2'))) ∨ (∃ P' : Nat, P' ≤ U ∧ fl_X4_readDraft_38 n (nI w) (nI h) (nI bt) (nI ch) (nI (2 ^ bt - 1)) (w * h * ch) D (nI st) cur (gLB w h ch bt 0) C abv (gLB w h ch bt 0) A (nI (gLB w h ch bt p)) 4000 uF (nI U) y1 (nI P) (nI q) (nI p) (nI j) = some (.inr (nI P', nI (q + r), nI (gLines w h p), D2, cur2, gLB w h ch bt 0, C2, abv2, gLB w h ch bt 0, A2)) ∧ fl_X5_decode_82 n (nI w) (nI h) (nI bt) (nI ch) (nI st) 8 a 8 b 8 c 8 d 1024 D' 140 C' 140 A' 4000 fF z1 (nI U) (nI P) (nI q) (nI p) (nI (gLB w h ch bt p)) (nI j) = some (.inr (nI P', nI (q + r), nI (gLines w h p), D2', C2', A2')))) := by
  have hG0 := hG
  obtain ⟨hw1, hw2, hh1, hh2, hc1, hc2, hb, -⟩ := hG
  obtain ⟨hb1, hb2, -, -⟩ := bt_le hb
  have hM := gLB_128 (p := 0) ⟨hw1, hw2⟩ ⟨hh1, hh2⟩ (by omega) hc2 hb2
  have hle := gLB_le (ch := ch) (bt := bt) ⟨hw1, hw2⟩ ⟨hh1, hh2⟩ hp
  have hll := gLines_le (w := w) hh2 hp
  have c10 : ¬ (1 : Int32) = 0 := by decide
  intro r
  induction r with
  | zero =>
    intro n j P q cur abv D D' C C' A A' h1 h2 h3 h4 h5
    obtain ⟨n, rfl⟩ : ∃ m, n = m + 1 := ⟨n - 1, by omega⟩
    have : j = gLines w h p := by omega
    subst this
    refine ⟨D, D', C, C', A, A', cur, abv, h4, Or.inr ⟨P, h3, ?_, ?_⟩⟩
    · rw [fl_X4_readDraft_38, linesOf_ok n ⟨hw1, hw2⟩ ⟨hh1, hh2⟩ hp, xb_some, if_pos (nI_le (Nat.le_refl _) (by omega))]; rfl
    · rw [fl_X5_decode_82, mlines_ok n ⟨hw1, hw2⟩ ⟨hh1, hh2⟩ hp hT, xb_some, if_pos (nI_le (Nat.le_refl _) (by omega))]; rfl
  | succ r ih =>
    intro n j P q cur abv D D' C C' A A' h1 h2 h3 h4 h5
    obtain ⟨n, rfl⟩ : ∃ m, n = m + 1 := ⟨n - 1, by omega⟩
    have hj : j < gLines w h p := by omega
    rcases Nat.eq_or_lt_of_le h3 with hPU | hPU
    · subst hPU
      refine ⟨D, D', C, C', A, A', cur, abv, h4, Or.inl ⟨(-1 : Int32) - nI P, neg_ok hU, ?_, ?_⟩⟩
      · rw [fl_X4_readDraft_38, linesOf_ok n ⟨hw1, hw2⟩ ⟨hh1, hh2⟩ hp, xb_some, if_neg (nI_ge hj (by omega))]
        unfold f_X0_hasByte
        rw [if_neg (nI_pos (by omega)), if_pos (nI_le (Nat.le_refl _) (by omega)), xb_some, if_pos rfl]
      · rw [fl_X5_decode_82, mlines_ok n ⟨hw1, hw2⟩ ⟨hh1, hh2⟩ hp hT, xb_some, if_neg (nI_ge hj (by omega)), if_pos rfl]
    · obtain ⟨k, k0, k1, k2⟩ := hF P hPU
      have hhas : f_X0_hasByte n (nI U) (nI P) = some 1 := by
        unfold f_X0_hasByte
        rw [if_neg (nI_pos (by omega)), if_neg (nI_ge hPU (by omega))]
      rcases Nat.lt_or_ge k 5 with hk | hk
      · obtain ⟨A1, b1, b2⟩ := above_ok (L := gLB w h ch bt p) (C' := C') (by omega) z1 (nI U) (nI (P + 1)) (nI q) (nI p) (nI j) (nI k) (gLB w h ch bt p) n 0 A' (by omega) (by omega) (fun j hj => by omega)
        rw [nI_0] at b1
        have hA1 : RelY (gLB w h ch bt p) C A1 := fun i hi => by rw [b2 i hi]; exact h5 i hi
        rcases Nat.lt_or_ge (gLB w h ch bt p) (U - P) with hlen | hlen
        · obtain ⟨C2, C2', r1, r2, r3⟩ := restore_ok (U := U) (P := P) hM hle hs hk hU hF (by omega) hA1 z1 (nI q) (nI p) (nI j) (gLB w h ch bt p) n 0 A C' (by omega) (by omega) (fun j hj => by omega)
          rw [nI_0, Nat.add_zero] at r2
          rw [nI_0] at r1
          obtain ⟨E, E', u1, u2, u3⟩ := unpack_ok (n := n) (by omega) hG0 hp hj hT r3 h4
          obtain ⟨D2, D2', C3, C3', A3, A3', cur3, abv3, i0, i1⟩ := ih n (j + 1) (P + 1 + gLB w h ch bt p) (q + 1) abv cur E E' C2 C2' C A1 (by omega) (by omega) (by omega) u3 r3
          have hc : fl_X4_readDraft_38 (n + 1) (nI w) (nI h) (nI bt) (nI ch) (nI (2 ^ bt - 1)) (w * h * ch) D (nI st) cur (gLB w h ch bt 0) C abv (gLB w h ch bt 0) A (nI (gLB w h ch bt p)) 4000 uF (nI U) y1 (nI P) (nI q) (nI p) (nI j) = fl_X4_readDraft_38 n (nI w) (nI h) (nI bt) (nI ch) (nI (2 ^ bt - 1)) (w * h * ch) E (nI st) abv (gLB w h ch bt 0) C2 cur (gLB w h ch bt 0) C (nI (gLB w h ch bt p)) 4000 uF (nI U) y1 (nI (P + 1 + gLB w h ch bt p)) (nI (q + 1)) (nI p) (nI (j + 1)) := by
            rw [fl_X4_readDraft_38, linesOf_ok n ⟨hw1, hw2⟩ ⟨hh1, hh2⟩ hp, xb_some, if_neg (nI_ge hj (by omega)), hhas, xb_some, if_neg c10, byteOf_ok n hU hPU k1, xb_some, isKind_ok n hk, xb_some, if_neg c10, pk_sub (by omega), if_pos (nI_lt hlen (by omega))]
            unfold f_X3_restoreLine
            rw [byteOf_ok n hU hPU k1, xb_some, r1, xb_some]
            dsimp only
            rw [xb_some]
            dsimp only
            rw [u1, xb_some, xl_eq, nI1, nI_add, nI_add, nI_add, nI_add, Nat.add_assoc]
          have hm : fl_X5_decode_82 (n + 1) (nI w) (nI h) (nI bt) (nI ch) (nI st) 8 a 8 b 8 c 8 d 1024 D' 140 C' 140 A' 4000 fF z1 (nI U) (nI P) (nI q) (nI p) (nI (gLB w h ch bt p)) (nI j) = fl_X5_decode_82 n (nI w) (nI h) (nI bt) (nI ch) (nI st) 8 a 8 b 8 c 8 d 1024 E' 140 C2' 140 A1 4000 fF z1 (nI U) (nI (P + 1 + gLB w h ch bt p)) (nI (q + 1)) (nI p) (nI (gLB w h ch bt p)) (nI (j + 1)) := by
            rw [fl_X5_decode_82, mlines_ok n ⟨hw1, hw2⟩ ⟨hh1, hh2⟩ hp hT, xb_some, if_neg (nI_ge hj (by omega)), if_neg (by rw [nI_eq (by omega) (by omega)]; omega), xin_nI (by omega) (by decide), nI_clamp (by omega), k2, if_pos (by rw [nI4]; exact nI_le (by omega) (by decide)), xin_nI (by omega) (by decide), xl_eq, nI_1, b1, xb_some]
            dsimp only
            rw [r2, xb_some]
            dsimp only
            rw [u2, xb_some, nI_1, nI_1]
          refine ⟨D2, D2', C3, C3', A3, A3', cur3, abv3, i0, ?_⟩
          rw [hc, hm, show q + (r + 1) = q + 1 + r by omega]
          exact i1
        · obtain ⟨C2', r2⟩ := short_ok (U := U) (P := P) hM hle hs hk hU hF (by omega) hA1 z1 (nI q) (nI p) (nI j) (U - P - 1) n 0 C' (by omega) (by omega) (fun j hj => by omega)
          rw [nI_0, Nat.add_zero] at r2
          refine ⟨D, D', C, C2', A, A1, cur, abv, h4, Or.inl ⟨(-1 : Int32) - nI U, neg_ok hU, ?_, ?_⟩⟩
          · rw [fl_X4_readDraft_38, linesOf_ok n ⟨hw1, hw2⟩ ⟨hh1, hh2⟩ hp, xb_some, if_neg (nI_ge hj (by omega)), hhas, xb_some, if_neg c10, byteOf_ok n hU hPU k1, xb_some, isKind_ok n hk, xb_some, if_neg c10, pk_sub (by omega), if_neg (nI_nlt hlen (by omega))]
          · rw [fl_X5_decode_82, mlines_ok n ⟨hw1, hw2⟩ ⟨hh1, hh2⟩ hp hT, xb_some, if_neg (nI_ge hj (by omega)), if_neg (by rw [nI_eq (by omega) (by omega)]; omega), xin_nI (by omega) (by decide), nI_clamp (by omega), k2, if_pos (by rw [nI4]; exact nI_le (by omega) (by decide)), xin_nI (by omega) (by decide), xl_eq, nI_1, b1, xb_some]
            dsimp only
            rw [r2, xb_some]
      · have hnk : f_X4_isKind n (nI k) = some 0 := by
          unfold f_X4_isKind
          rw [if_neg (nI_pos (by omega)), if_pos (by rw [nI4, nI_ltI (by decide) (by omega)]; omega)]
        refine ⟨D, D', C, C', A, A', cur, abv, h4, Or.inl ⟨(-1 : Int32) - nI P, neg_ok (by omega), ?_, ?_⟩⟩
        · rw [fl_X4_readDraft_38, linesOf_ok n ⟨hw1, hw2⟩ ⟨hh1, hh2⟩ hp, xb_some, if_neg (nI_ge hj (by omega)), hhas, xb_some, if_neg c10, byteOf_ok n hU hPU k1, xb_some, hnk, xb_some, if_pos rfl]
        · rw [fl_X5_decode_82, mlines_ok n ⟨hw1, hw2⟩ ⟨hh1, hh2⟩ hp hT, xb_some, if_neg (nI_ge hj (by omega)), if_neg (by rw [nI_eq (by omega) (by omega)]; omega), xin_nI (by omega) (by decide), nI_clamp (by omega), k2, if_neg (by rw [nI4]; exact nI_ge (by omega) (by omega))]
