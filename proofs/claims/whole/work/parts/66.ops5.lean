/-! ===== colour, clear, pass on ===== -/
theorem forget_ok : ∀ (k n i : Nat) (F : Nat → Int32), i + k = 64 → k < n → ∃ G : Nat → Int32, fl_X1_forgetOrder_7 n 64 F (nI i) = some (nI 64, G) ∧ (∀ j, i ≤ j → j < 64 → G j = 0) ∧ (∀ j, j < i ∨ 64 ≤ j → G j = F j) := by
  intro k
  induction k with
  | zero =>
    intro n i F h1 h2
    obtain ⟨n, rfl⟩ : ∃ m, n = m + 1 := ⟨n - 1, by omega⟩
    refine ⟨F, ?_, fun j a b => by omega, fun j _ => rfl⟩
    rw [fl_X1_forgetOrder_7]
    have : i = 64 := by omega
    subst this
    rw [if_pos (by decide)]
  | succ k ih =>
    intro n i F h1 h2
    obtain ⟨n, rfl⟩ : ∃ m, n = m + 1 := ⟨n - 1, by omega⟩
    obtain ⟨G, e, g1, g2⟩ := ih n (i + 1) (upd F i 0) (by omega) (by omega)
    refine ⟨G, ?_, fun j a b => ?_, fun j a => ?_⟩
    · rw [fl_X1_forgetOrder_7, if_neg (nI_ge (by omega) (by decide)), xin_nI (by omega) (by decide), nI_clamp (by omega), nI_1]
      exact e
    · rcases Nat.eq_or_lt_of_le a with h | h
      · rw [g2 j (Or.inl (by omega)), ← h, pk_us]
      · exact g1 j h b
    · rw [g2 j (by omega), pk_un (by omega)]
theorem f_forget_ok {n : Nat} (hn : 64 < n) (F : Nat → Int32) : ∃ G : Nat → Int32, f_X1_forgetOrder n 64 F = some (G, 0) ∧ (∀ j, j < 64 → G j = 0) := by
  obtain ⟨G, e, g1, -⟩ := forget_ok 64 n 0 F (by omega) hn
  refine ⟨G, ?_, fun j hj => g1 j (Nat.zero_le _) hj⟩
  unfold f_X1_forgetOrder
  rw [nI_0] at e
  rw [e]; rfl
/-- colour -/
theorem op13 {n : Nat} (hn : 64 < n) {oCol oNum oPl mCol : Nat → Int32} {oCnt oArr mCnt : Int32} (hR : RelP oCol oNum oPl oCnt oArr mCol mCnt) (x : Int32) (oLF : Nat → Int64) : ∃ (ret v : Int32) (oLF' : Nat → Int64) (oCol' oPl' mCol' : Nat → Int32) (oCnt' oArr' mCnt' : Int32), f_L_colour n 64 oCol 64 oPl oCnt oArr oLF x = some (ret, oCol', oPl', oCnt', oArr', oLF') ∧ f_X5_colour n 64 mCol mCnt x = some (v, ret, mCol', mCnt') ∧ (ret = 0 → lg_cmp (oLF' ((0 : Int32)).toNatClampNeg) v.toInt64 = 0) ∧ RelP oCol' oNum oPl' oCnt' oArr' mCol' mCnt' := by
  have c1 : ¬ (1 : Int32) ≤ 0 := by decide
  have c2 : ¬ (2 : Int32) ≤ 0 := by decide
  have c0 : (0 : Int32) ≤ 0 := by decide
  have c10 : ¬ (1 : Int32) = 0 := by decide
  have c20 : ¬ (2 : Int32) = 0 := by decide
  have e24 : (16777215 : Int32) = nI 16777215 := by decide
  have e64 : (64 : Int32) = nI 64 := by decide
  have hR0 := hR
  obtain ⟨E, A, col, hE, hA, rfl, rfl, rfl, h4, h5, h6⟩ := hR
  rcases i_cases x with h | ⟨j, hj, rfl⟩
  · refine ⟨1, 0, oLF, oCol, oPl, mCol, nI E, nI A, nI E, ?_, ?_, fun q => absurd q c10, hR0⟩
    · unfold f_L_colour f_X4_colour
      rw [if_pos h]; rfl
    · unfold f_X5_colour
      rw [in_lt h, xb_some, if_pos rfl, if_neg c1]
  · rcases Nat.lt_or_ge j 16777216 with hj2 | hj2
    · have i1 : f_X5_in n (nI j) 0 16777215 = some 1 := in_ok (nI_pos hj) (by rw [e24, nI_ltI (by decide) hj]; omega)
      rcases Nat.lt_or_ge E 64 with hE2 | hE2
      · obtain ⟨G, g1, g2⟩ := f_forget_ok hn oPl
        refine ⟨0, nI E, vp_updL oLF ((0 : Int32)).toNatClampNeg (nI E).toInt64, upd oCol E (nI j), G, upd mCol E (nI j), nI (E + 1), 0, nI (E + 1), ?_, ?_, fun _ => ?_, E + 1, 0, fun k => if k = E then j else col k, by omega, by omega, rfl, rfl, rfl, fun i hi => ?_, fun k hk => ?_, fun q hq => by omega⟩
        · unfold f_L_colour f_X4_colour f_X1_append
          rw [if_neg (nI_pos hj), if_pos (by rw [e24]; exact nI_le (by omega) (by decide)), if_pos (by rw [e64]; exact nI_lt hE2 (by decide)), if_neg (nI_ge hE2 (by decide)), xin_nI hE2 (by decide), g1, xb_some, nI_clamp (by omega), nI_1, nI_pred]
          rfl
        · unfold f_X5_colour
          rw [i1, xb_some, if_neg c10, if_neg (by rw [e64, nI_eq (by omega) (by decide)]; omega), if_pos c0, xin_nI hE2 (by decide), nI_clamp (by omega), nI_1, nI_pred]
        · rw [out0]; exact lg_same _
        · dsimp only
          by_cases e : i = E
          · subst e
            rw [if_pos rfl, pk_us, pk_us]; exact ⟨hj2, rfl, rfl⟩
          · rw [if_neg e, pk_un e, pk_un e]; exact h4 i (by omega)
        · rw [g2 k hk]; rfl
      · have hE3 : E = 64 := by omega
        subst hE3
        refine ⟨2, 0, oLF, oCol, oPl, mCol, nI 64, nI A, nI 64, ?_, ?_, fun q => absurd q c20, hR0⟩
        · unfold f_L_colour f_X4_colour
          rw [if_neg (nI_pos hj), if_pos (by rw [e24]; exact nI_le (by omega) (by decide)), if_neg (by decide)]; rfl
        · unfold f_X5_colour
          rw [i1, xb_some, if_neg c10, if_pos e64.symm, if_neg c2]
    · refine ⟨1, 0, oLF, oCol, oPl, mCol, nI E, nI A, nI E, ?_, ?_, fun q => absurd q c10, hR0⟩
      · unfold f_L_colour f_X4_colour
        rw [if_neg (nI_pos hj), if_neg (by rw [e24]; exact nI_ge (by omega) hj)]; rfl
      · unfold f_X5_colour
        rw [in_gt (by rw [e24, nI_ltI (by decide) hj]; omega), xb_some, if_pos rfl, if_neg c1]
theorem mclr7_ok : ∀ (k n i : Nat) (F : Nat → Int32), i + k = 1024 → k < n → ∃ G : Nat → Int32, fl_X5_clear_7 n 1024 F (nI i) = some (nI 1024, G) ∧ (∀ j, i ≤ j → j < 1024 → G j = 0) ∧ (∀ j, j < i ∨ 1024 ≤ j → G j = F j) := by
  intro k
  have e64 : (1024 : Int32) = nI 1024 := by decide
  induction k with
  | zero =>
    intro n i F h1 h2
    obtain ⟨n, rfl⟩ : ∃ m, n = m + 1 := ⟨n - 1, by omega⟩
    refine ⟨F, ?_, fun j a b => by omega, fun j _ => rfl⟩
    rw [fl_X5_clear_7]
    have : i = 1024 := by omega
    subst this
    rw [if_pos (by decide)]
  | succ k ih =>
    intro n i F h1 h2
    obtain ⟨n, rfl⟩ : ∃ m, n = m + 1 := ⟨n - 1, by omega⟩
    obtain ⟨G, e, g1, g2⟩ := ih n (i + 1) (upd F i 0) (by omega) (by omega)
    refine ⟨G, ?_, fun j a b => ?_, fun j a => ?_⟩
    · rw [fl_X5_clear_7, if_neg (by rw [e64]; exact nI_ge (by omega) (by decide)), xin_nI (by omega) (by decide), nI_clamp (by omega), nI_1]
      exact e
    · rcases Nat.eq_or_lt_of_le a with h | h
      · rw [g2 j (Or.inl (by omega)), ← h, pk_us]
      · exact g1 j h b
    · rw [g2 j (by omega), pk_un (by omega)]
theorem mclr29_ok : ∀ (k n i : Nat) (F : Nat → Int32), i + k = 5 → k < n → ∃ G : Nat → Int32, fl_X5_clear_29 n 5 F (nI i) = some (nI 5, G) ∧ (∀ j, i ≤ j → j < 5 → G j = 0) ∧ (∀ j, j < i ∨ 5 ≤ j → G j = F j) := by
  intro k
  induction k with
  | zero =>
    intro n i F h1 h2
    obtain ⟨n, rfl⟩ : ∃ m, n = m + 1 := ⟨n - 1, by omega⟩
    refine ⟨F, ?_, fun j a b => by omega, fun j _ => rfl⟩
    rw [fl_X5_clear_29]
    have : i = 5 := by omega
    subst this
    rw [if_pos (by decide)]
  | succ k ih =>
    intro n i F h1 h2
    obtain ⟨n, rfl⟩ : ∃ m, n = m + 1 := ⟨n - 1, by omega⟩
    obtain ⟨G, e, g1, g2⟩ := ih n (i + 1) (upd F i 0) (by omega) (by omega)
    refine ⟨G, ?_, fun j a b => ?_, fun j a => ?_⟩
    · rw [fl_X5_clear_29, if_neg (by rw [nI5]; exact nI_ge (by omega) (by decide)), xin_nI (by omega) (by decide), nI_clamp (by omega), nI_1]
      exact e
    · rcases Nat.eq_or_lt_of_le a with h | h
      · rw [g2 j (Or.inl (by omega)), ← h, pk_us]
      · exact g1 j h b
    · rw [g2 j (by omega), pk_un (by omega)]
theorem RelB.empty (b : Nat) (oF mF : Nat → Int32) : RelB b oF 0 mF 0 := ⟨0, by omega, rfl, rfl, fun i hi => by omega⟩
/-- clear -/
theorem op16 {n w h ch bt : Nat} (hn : 2000 < n) (hG : Geo w h ch bt) (oS mS oK mK oCol oNum oPl mCol oE mE oU mU : Nat → Int32) : ∃ (oS' mS' oK' mK' oPl' : Nat → Int32), f_X4_clear n (w * h * ch) oS 5 oK 64 oPl = some (oS', 0, 0, oK', oPl', 0, 0) ∧ f_X5_clear n 1024 mS 5 mK = some (0, mS', 0, mK', 0, 0) ∧ RelS w h ch bt oS' mS' ∧ RelK oK' mK' ∧ RelP oCol oNum oPl' 0 0 mCol 0 ∧ RelB 2078 oE 0 mE 0 ∧ RelB 4000 oU 0 mU 0 := by
  obtain ⟨hw1, hw2, hh1, hh2, hc1, hc2, hb, -⟩ := hG
  have hN := whc_le hw2 hh2 hc2
  obtain ⟨S1, s1, s2, -⟩ := f_fill_ok (0 : Int32) (n := n) oS (show w * h * ch < 2 ^ 31 by omega) (by omega)
  obtain ⟨K1, k1, k2, -⟩ := f_fill_ok (0 : Int32) (n := n) oK (show 5 < 2 ^ 31 by omega) (by omega)
  obtain ⟨P1, p1, p2⟩ := f_forget_ok (n := n) (by omega) oPl
  obtain ⟨S2, t1, t2, -⟩ := mclr7_ok 1024 n 0 mS (by omega) (by omega)
  obtain ⟨K2, u1, u2, -⟩ := mclr29_ok 5 n 0 mK (by omega) (by omega)
  rw [nI_0] at t1 u1
  refine ⟨S1, S2, K1, K2, P1, ?_, ?_, fun y hy x hx c hc => ?_, fun k hk => ?_, ?_, RelB.empty _ _ _, RelB.empty _ _ _⟩
  · unfold f_X4_clear f_X2_blank f_X4_forgetEncoded f_X0_drop f_X1_drop
    rw [s1, xb_some, xb_some, xb_some, k1, xb_some, xb_some]
    dsimp only
    rw [xb_some, p1]; rfl
  · unfold f_X5_clear
    rw [t1, xb_some]
    dsimp only
    rw [u1]; rfl
  · refine ⟨0, Nat.two_pow_pos bt, s2 _ (idx_lt hx hy hc), t2 _ (by omega) (by omega)⟩
  · rw [k2 k hk, u2 k (by omega) hk]
  · exact ⟨0, 0, fun _ => 0, by omega, by omega, rfl, rfl, rfl, fun i hi => by omega, fun k hk => by rw [p2 k hk]; rfl, fun j hj => by omega⟩
theorem passOn_ok {E : Nat} {oE mE : Nat → Int32} (hE : E ≤ 2078) (hF : ∀ i, i < E → ∃ v : Nat, v < 256 ∧ oE i = nI v ∧ mE i = nI v) : ∀ (k n i U : Nat) (oU mU : Nat → Int32), i + k = E → k < n → U + k ≤ 4000 → (∀ i, i < U → ∃ v : Nat, v < 256 ∧ oU i = nI v ∧ mU i = nI v) → ∃ oU' mU', fl_X4_passOn_29 n 2078 oE (nI E) 4000 oU (nI U) (nI i) = some (nI E, oU', nI (U + k)) ∧ fl_X5_passOn_35 n 4000 mE (nI E) 4000 mU (nI U) (nI i) = some (nI E, mU', nI (U + k)) ∧ (∀ i, i < U + k → ∃ v : Nat, v < 256 ∧ oU' i = nI v ∧ mU' i = nI v) := by
  intro k
  have c10 : ¬ (1 : Int32) = 0 := by decide
  induction k with
  | zero =>
    intro n i U oU mU h1 h2 h3 h4
    obtain ⟨n, rfl⟩ : ∃ m, n = m + 1 := ⟨n - 1, by omega⟩
    have : i = E := by omega
    subst this
    refine ⟨oU, mU, ?_, ?_, h4⟩
    · rw [fl_X4_passOn_29, if_pos (nI_le (Nat.le_refl _) (by omega))]; rfl
    · rw [fl_X5_passOn_35, if_pos (nI_le (Nat.le_refl _) (by omega))]; rfl
  | succ k ih =>
    intro n i U oU mU h1 h2 h3 h4
    obtain ⟨n, rfl⟩ : ∃ m, n = m + 1 := ⟨n - 1, by omega⟩
    obtain ⟨v, v1, v2, v3⟩ := hF i (by omega)
    obtain ⟨oU', mU', e1, e2, e3⟩ := ih n (i + 1) (U + 1) (upd oU U (nI v)) (upd mU U (nI v)) (by omega) (by omega) (by omega) (fun q hq => by
      rcases Nat.lt_or_ge q U with h | h
      · rw [pk_un (by omega), pk_un (by omega)]; exact h4 q h
      · have : q = U := by omega
        subst this
        rw [pk_us, pk_us]; exact ⟨v, v1, rfl, rfl⟩)
    rw [show U + 1 + k = U + (k + 1) by omega] at e1 e2 e3
    refine ⟨oU', mU', ?_, ?_, e3⟩
    · rw [fl_X4_passOn_29, if_neg (nI_ge (by omega) (by omega))]
      unfold f_X0_byteOf f_X0_hasByte f_X0_append
      rw [if_neg (nI_pos (by omega)), if_neg (nI_ge (show i < E by omega) (by omega)), xb_some, if_neg c10, xin_nI (by omega) (by decide), xb_some, if_neg (nI_ge (show U < 4000 by omega) (by omega)), xin_nI (by omega) (by decide), xb_some]
      dsimp only
      rw [nI_clamp (by omega), nI_clamp (by omega), nI_1, nI_1, v2]
      exact e1
    · rw [fl_X5_passOn_35, if_neg (nI_ge (by omega) (by omega)), xin_nI (by omega) (by decide), xin_nI (by omega) (by decide), nI_clamp (by omega), nI_clamp (by omega), nI_1, nI_1, v3]
      exact e2
/-- passOn -/
theorem op10 {n : Nat} (hn : 2078 < n) {oE mE oU mU : Nat → Int32} {oe me ou mu : Int32} (hB : RelB 2078 oE oe mE me) (hU : RelB 4000 oU ou mU mu) (oLF : Nat → Int64) : ∃ (ret v : Int32) (oLF' : Nat → Int64) (oU' mU' : Nat → Int32) (ou' mu' : Int32), f_L_passOn n 2078 oE oe 4000 oU ou oLF = some (ret, oU', ou', oLF') ∧ f_X5_passOn n 4000 mE me 4000 mU mu = some (v, ret, mU', mu') ∧ (ret = 0 → lg_cmp (oLF' ((0 : Int32)).toNatClampNeg) v.toInt64 = 0) ∧ RelB 4000 oU' ou' mU' mu' := by
  have c1 : ¬ (1 : Int32) ≤ 0 := by decide
  have c0 : (0 : Int32) ≤ 0 := by decide
  have c10 : ¬ (1 : Int32) = 0 := by decide
  have e4 : (4000 : Int32) = nI 4000 := by decide
  have hU0 := hU
  obtain ⟨E, hE, rfl, rfl, hF⟩ := hB
  obtain ⟨U, hU1, rfl, rfl, hF2⟩ := hU
  rcases Nat.lt_or_ge 4000 (U + E) with h | h
  · refine ⟨1, 0, oLF, oU, mU, nI U, nI U, ?_, ?_, fun q => absurd q c10, hU0⟩
    · unfold f_L_passOn f_X4_passOn f_X0_hasRoom
      rw [pk_sub hU1, if_pos (nI_lt (by omega) (by omega)), xb_some, if_pos rfl]; rfl
    · unfold f_X5_passOn
      rw [nI_add, if_neg (by rw [e4]; exact nI_ge h (by omega)), if_neg c1]
  · obtain ⟨oU', mU', e1, e2, e3⟩ := passOn_ok hE hF E n 0 U oU mU (by omega) (by omega) h hF2
    rw [nI_0] at e1 e2
    refine ⟨0, nI (U + E), vp_updL oLF ((0 : Int32)).toNatClampNeg (nI (U + E)).toInt64, oU', mU', nI (U + E), nI (U + E), ?_, ?_, fun _ => ?_, U + E, h, rfl, rfl, e3⟩
    · unfold f_L_passOn f_X4_passOn f_X0_hasRoom
      rw [pk_sub hU1, if_neg (nI_nlt (by omega) (by omega)), xb_some, if_neg c10, e1]; rfl
    · unfold f_X5_passOn
      rw [nI_add, if_pos (by rw [e4]; exact nI_le h (by decide)), if_pos c0, e2]; rfl
    · rw [out0]; exact lg_same _
