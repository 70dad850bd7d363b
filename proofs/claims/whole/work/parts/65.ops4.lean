/-! ===== order ===== -/
def RelP (oCol oNum oPl : Nat → Int32) (oCnt oArr : Int32) (mCol : Nat → Int32) (mCnt : Int32) : Prop := ∃ (E A : Nat) (col : Nat → Nat), E ≤ 64 ∧ A ≤ E ∧ oCnt = nI E ∧ mCnt = nI E ∧ oArr = nI A ∧ (∀ i, i < E → col i < 16777216 ∧ oCol i = nI (col i) ∧ mCol i = nI (col i)) ∧ (∀ k, k < 64 → oPl k = if (gSt col E A).1 k = true then 1 else 0) ∧ (∀ j, j < A → ∃ b, b < E ∧ (gSt col E (j + 1)).2 = some b ∧ oNum j = nI b)
def gRel (fr : Nat → Nat) (o : Option Nat) (b l : Int32) : Prop := match o with
  | none => b = 0 ∧ l = 195076
  | some c => b = nI c ∧ l = nI (fr c)
theorem n195 : (195076 : Int32) = nI 195076 := by decide
theorem next_ok {fr : Nat → Nat} {pl : Nat → Bool} {E j : Nat} {oCol oNum oPl : Nat → Int32} (hE : E ≤ 64) (hfar : ∀ m x, x < E → f_X1_farness m 64 oCol 64 oNum (nI x) (nI j) = some (nI (fr x))) (hfr : ∀ x, x < E → fr x ≤ 195075) (hpl : ∀ k, k < 64 → oPl k = if pl k = true then 1 else 0) : ∀ (k n y : Nat) (b l : Int32), y + k = E → k < n → gRel fr (gB fr pl y) b l → ∃ b' l', fl_X1_nextNumber_8 n 64 oCol 64 oNum 64 oPl (nI E) (nI j) b l (nI y) = some (b', l', nI E) ∧ gRel fr (gB fr pl E) b' l' := by
  intro k
  induction k with
  | zero =>
    intro n y b l h1 h2 h3
    obtain ⟨n, rfl⟩ : ∃ m, n = m + 1 := ⟨n - 1, by omega⟩
    have : y = E := by omega
    subst this
    refine ⟨b, l, ?_, h3⟩
    rw [fl_X1_nextNumber_8, if_pos (nI_le (Nat.le_refl _) (by omega))]
  | succ k ih =>
    intro n y b l h1 h2 h3
    obtain ⟨n, rfl⟩ : ∃ m, n = m + 1 := ⟨n - 1, by omega⟩
    rw [fl_X1_nextNumber_8, if_neg (nI_ge (by omega) (by omega)), xin_nI (by omega) (by decide), nI_clamp (by omega), hpl y (by omega), nI_1]
    cases hp : pl y with
    | true =>
      have hg : gB fr pl (y + 1) = gB fr pl y := by rw [gB, if_pos hp]
      rw [if_pos rfl, if_neg (by decide)]
      have hl : l ≤ 195076 := by
        cases hb : gB fr pl y with
        | none => rw [hb] at h3; rw [h3.2]; exact nI_le (a := 195076) (b := 195076) (by omega) (by omega)
        | some c =>
          rw [hb] at h3
          have := hfr c (by have := gB_some y c hb; omega)
          rw [h3.2, n195]; exact nI_le (by omega) (by omega)
      rw [if_pos hl]
      exact ih n (y + 1) b l (by omega) (by omega) (by rw [hg]; exact h3)
    | false =>
      have hy := hfr y (by omega)
      rw [if_neg (show ¬ false = true by decide), if_pos rfl, hfar n y (by omega), xb_some]
      cases hb : gB fr pl y with
      | none =>
        rw [hb] at h3
        have hg : gB fr pl (y + 1) = some y := by rw [gB, if_neg (by rw [hp]; decide), hb]
        rw [h3.2, n195, if_neg (nI_ge (by omega) (by omega))]
        exact ih n (y + 1) _ _ (by omega) (by omega) (by rw [hg]; exact ⟨rfl, rfl⟩)
      | some c =>
        rw [hb] at h3
        have hcE := hfr c (by have := gB_some y c hb; omega)
        rcases Nat.lt_or_ge (fr y) (fr c) with hlt | hlt
        · have hg : gB fr pl (y + 1) = some y := by rw [gB, if_neg (by rw [hp]; decide), hb]; exact if_pos hlt
          rw [h3.2, if_neg (nI_ge (by omega) (by omega))]
          exact ih n (y + 1) _ _ (by omega) (by omega) (by rw [hg]; exact ⟨rfl, rfl⟩)
        · have hg : gB fr pl (y + 1) = some c := by rw [gB, if_neg (by rw [hp]; decide), hb]; exact if_neg (by omega)
          rw [h3.2, if_pos (nI_le hlt (by omega)), ← h3.2]
          exact ih n (y + 1) _ _ (by omega) (by omega) (by rw [hg]; exact h3)
theorem gSt_last {col : Nat → Nat} {E j b : Nat} (h : j ≤ E) (hb : (gSt col E j).2 = some b) : b < E ∧ 0 < j := by
  cases j with
  | zero => rw [gSt] at hb; cases hb
  | succ j =>
    obtain ⟨c, -, h2, -, h4⟩ := gSt_next (col := col) (show j < E by omega)
    rw [h4] at hb
    obtain rfl := Option.some.inj hb
    exact ⟨h2, by omega⟩
theorem numberAt_ok {col : Nat → Nat} {E x : Nat} {oCol : Nat → Int32} (hE : E ≤ 64) (hx : x < E) (hc : ∀ i, i < E → col i < 16777216 ∧ oCol i = nI (col i)) : ∀ (k n A : Nat) (oNum oPl : Nat → Int32), A + k = x + 1 → k + 70 < n → (∀ k, k < 64 → oPl k = if (gSt col E A).1 k = true then 1 else 0) → (∀ j, j < A → ∃ b, b < E ∧ (gSt col E (j + 1)).2 = some b ∧ oNum j = nI b) → ∃ oNum' oPl', fl_X1_numberAt_19 n 64 oCol 64 oNum 64 oPl (nI E) (nI A) (nI x) (nI A) = some (nI (x + 1), oNum', oPl', nI (x + 1)) ∧ (∀ k, k < 64 → oPl' k = if (gSt col E (x + 1)).1 k = true then 1 else 0) ∧ (∀ j, j < x + 1 → ∃ b, b < E ∧ (gSt col E (j + 1)).2 = some b ∧ oNum' j = nI b) := by
  intro k
  induction k with
  | zero =>
    intro n A oNum oPl h1 h2 h3 h4
    obtain ⟨n, rfl⟩ : ∃ m, n = m + 1 := ⟨n - 1, by omega⟩
    have : A = x + 1 := by omega
    subst this
    refine ⟨oNum, oPl, ?_, h3, h4⟩
    rw [fl_X1_numberAt_19, if_pos (nI_lt (by omega) (by omega))]
  | succ k ih =>
    intro n A oNum oPl h1 h2 h3 h4
    obtain ⟨n, rfl⟩ : ∃ m, n = m + 1 := ⟨n - 1, by omega⟩
    obtain ⟨b, g1, g2, g3, g4⟩ := gSt_next (col := col) (show A < E by omega)
    have hl : (A = 0 ∧ (gSt col E A).2 = none) ∨ (0 < A ∧ ∃ b, b < E ∧ (gSt col E A).2 = some b ∧ oNum (A - 1) = nI b) := by
      rcases Nat.eq_zero_or_pos A with e | e
      · left; subst e; exact ⟨rfl, rfl⟩
      · right
        obtain ⟨c, c1, c2, c3⟩ := h4 (A - 1) (by omega)
        rw [Nat.sub_add_cancel e] at c2
        exact ⟨e, c, c1, c2, c3⟩
    obtain ⟨b', l', e, r⟩ := next_ok hE (fun m y hy => farness_ok m hE hc hy (show A < 64 by omega) hl) (fun y hy => gFr_le (fun i hi => (hc i hi).1) hy (fun q hq => (gSt_last (by omega) hq).1)) h3 E n 0 0 195076 (by omega) (by omega) ⟨rfl, rfl⟩
    rw [g1] at r
    have eb : b' = nI b := r.1
    have e2 : f_X1_nextNumber n 64 oCol 64 oNum 64 oPl (nI E) (nI A) = some (nI b) := by
      unfold f_X1_nextNumber
      rw [nI_0] at e
      rw [e, xb_some, eb]
    obtain ⟨N', P', f1, f2, f3⟩ := ih n (A + 1) (upd oNum A (nI b)) (upd oPl b 1) (by omega) (by omega) (fun q hq => by
      rw [g4]
      by_cases eq : q = b
      · subst eq
        rw [pk_us]; simp
      · rw [pk_un eq, h3 q hq]
        have : (q == b) = false := by rw [beq_eq_false_iff_ne]; exact eq
        simp only [this, Bool.or_false]) (fun j hj => by
      rcases Nat.lt_or_ge j A with hjA | hjA
      · rw [pk_un (by omega)]; exact h4 j hjA
      · have : j = A := by omega
        subst this
        rw [pk_us, g4]; exact ⟨b, g2, rfl, rfl⟩)
    refine ⟨N', P', ?_, f2, f3⟩
    rw [fl_X1_numberAt_19, if_neg (nI_nlt (by omega) (by omega)), e2, xb_some, xin_nI (by omega) (by decide), xin_nI (by omega) (by decide), nI_clamp (by omega), nI_clamp (by omega), nI_1]
    exact f1
theorem msort_ok {fr : Nat → Nat} {pl : Nat → Bool} {E : Nat} {mCol sF : Nat → Int32} {y1 y2 y3 : Int32} (hE : E ≤ 64) (hfar : ∀ m x, 4 ≤ m → x < E → f_X5_far m 64 mCol (nI x) y2 = some (nI (fr x))) (hfr : ∀ x, x < E → fr x ≤ 195075) (hpl : ∀ k, k < 64 → sF k = if pl k = true then 1 else 0) : ∀ (k n y : Nat), y + k = E → k + 4 < n → fl_X5_order_68 n 256 sF 64 mCol (nI E) y1 y2 y3 (lastI (gB fr pl y)) (nI y) = some (lastI (gB fr pl E), nI E) := by
  intro k
  have c00 : (0 : Int32) = 0 := rfl
  have c10 : ¬ (1 : Int32) = 0 := by decide
  induction k with
  | zero =>
    intro n y h1 h2
    obtain ⟨n, rfl⟩ : ∃ m, n = m + 1 := ⟨n - 1, by omega⟩
    have : y = E := by omega
    subst this
    rw [fl_X5_order_68, if_pos (nI_le (Nat.le_refl _) (by omega))]
  | succ k ih =>
    intro n y h1 h2
    obtain ⟨n, rfl⟩ : ∃ m, n = m + 1 := ⟨n - 1, by omega⟩
    have hr := ih n (y + 1) (by omega) (by omega)
    rw [fl_X5_order_68, if_neg (nI_ge (by omega) (by omega)), xin_nI (by omega) (by decide), nI_clamp (by omega), hpl y (by omega), nI_1]
    cases hp : pl y with
    | true =>
      have hg : gB fr pl (y + 1) = gB fr pl y := by rw [gB, if_pos hp]
      rw [if_pos rfl, if_neg c10, if_pos c00, ← hg]
      exact hr
    | false =>
      rw [if_neg (show ¬ false = true by decide), if_pos rfl]
      cases hb : gB fr pl y with
      | none =>
        have hg : gB fr pl (y + 1) = some y := by rw [gB, if_neg (by rw [hp]; decide), hb]
        rw [if_pos (show lastI none < 0 by decide), if_neg c10]
        rw [hg] at hr
        exact hr
      | some c =>
        have hc1 := gB_some y c hb
        have hcE := hfr c (by omega)
        have hyE := hfr y (by omega)
        rw [if_neg (show ¬ lastI (some c) < 0 from nI_pos (by omega)), hfar n y (by omega) (by omega), xb_some, show lastI (some c) = nI c from rfl, hfar n c (by omega) (by omega), xb_some]
        rcases Nat.lt_or_ge (fr y) (fr c) with hlt | hlt
        · have hg : gB fr pl (y + 1) = some y := by rw [gB, if_neg (by rw [hp]; decide), hb]; exact if_pos hlt
          rw [if_neg (nI_ge (by omega) (by omega)), if_neg c10]
          rw [hg] at hr
          exact hr
        · have hg : gB fr pl (y + 1) = some c := by rw [gB, if_neg (by rw [hp]; decide), hb]; exact if_neg (by omega)
          rw [if_pos (nI_le hlt (by omega)), if_pos c00]
          rw [hg] at hr
          exact hr
theorem mwalk_ok {col : Nat → Nat} {E x : Nat} {mCol : Nat → Int32} (hE : E ≤ 64) (hx : x < E) (hc : ∀ i, i < E → col i < 16777216 ∧ mCol i = nI (col i)) : ∀ (k n A : Nat) (sF : Nat → Int32), A + k = x + 1 → k + 70 < n → (∀ k, k < 64 → sF k = if (gSt col E A).1 k = true then 1 else 0) → ∃ sF', fl_X5_order_57 n 256 sF 64 mCol (nI E) (nI x) (lastI (gSt col E A).2) (nI A) = some (lastI (gSt col E (x + 1)).2, nI (x + 1), sF') := by
  intro k
  induction k with
  | zero =>
    intro n A sF h1 h2 h3
    obtain ⟨n, rfl⟩ : ∃ m, n = m + 1 := ⟨n - 1, by omega⟩
    have : A = x + 1 := by omega
    subst this
    refine ⟨sF, ?_⟩
    rw [fl_X5_order_57, if_pos (nI_lt (by omega) (by omega))]
  | succ k ih =>
    intro n A sF h1 h2 h3
    obtain ⟨n, rfl⟩ : ∃ m, n = m + 1 := ⟨n - 1, by omega⟩
    obtain ⟨b, g1, g2, g3, g4⟩ := gSt_next (col := col) (show A < E by omega)
    have e := msort_ok (y1 := nI x) (y3 := nI A) hE (fun m y hm hy => mfar_ok m hm hE hc hy (fun q hq => (gSt_last (col := col) (show A ≤ E by omega) hq).1)) (fun y hy => gFr_le (fun i hi => (hc i hi).1) hy (fun q hq => (gSt_last (by omega) hq).1)) h3 E n 0 (by omega) (by omega)
    rw [g1, nI_0] at e
    obtain ⟨S', f1⟩ := ih n (A + 1) (upd sF b 1) (by omega) (by omega) (fun q hq => by
      rw [g4]
      by_cases eq : q = b
      · subst eq
        rw [pk_us]; simp
      · rw [pk_un eq, h3 q hq]
        have : (q == b) = false := by rw [beq_eq_false_iff_ne]; exact eq
        simp only [this, Bool.or_false])
    refine ⟨S', ?_⟩
    rw [fl_X5_order_57, if_neg (nI_nlt (by omega) (by omega))]
    rw [show (-1 : Int32) = lastI (gB (gFr col (gSt col E A).2) (gSt col E A).1 0) from rfl]
    rw [e, xb_some]
    dsimp only
    rw [show lastI (some b) = nI b from rfl, xin_nI (by omega) (by decide), nI_clamp (by omega), nI_1]
    rw [g4] at f1
    exact f1
theorem mzero_ok {y1 : Int32} : ∀ (k n i : Nat) (F : Nat → Int32), i + k = 64 → k < n → ∃ G : Nat → Int32, fl_X5_order_34 n 256 F y1 (nI i) = some (nI 64, G) ∧ (∀ j, i ≤ j → j < 64 → G j = 0) ∧ (∀ j, j < i ∨ 64 ≤ j → G j = F j) := by
  intro k
  have e64 : (64 : Int32) = nI 64 := by decide
  induction k with
  | zero =>
    intro n i F h1 h2
    obtain ⟨n, rfl⟩ : ∃ m, n = m + 1 := ⟨n - 1, by omega⟩
    refine ⟨F, ?_, fun j a b => by omega, fun j _ => rfl⟩
    rw [fl_X5_order_34]
    have : i = 64 := by omega
    subst this
    rw [if_pos (by decide)]
  | succ k ih =>
    intro n i F h1 h2
    obtain ⟨n, rfl⟩ : ∃ m, n = m + 1 := ⟨n - 1, by omega⟩
    obtain ⟨G, e, g1, g2⟩ := ih n (i + 1) (upd F i 0) (by omega) (by omega)
    refine ⟨G, ?_, fun j a b => ?_, fun j a => ?_⟩
    · rw [fl_X5_order_34, if_neg (by rw [e64]; exact nI_ge (by omega) (by decide)), xin_nI (by omega) (by decide), nI_clamp (by omega), nI_1]
      exact e
    · rcases Nat.eq_or_lt_of_le a with h | h
      · rw [g2 j (Or.inl (by omega)), ← h, pk_us]
      · exact g1 j h b
    · rw [g2 j (by omega), pk_un (by omega)]
/-- order -/
theorem op14 {n : Nat} (hn : 200 < n) {oCol oNum oPl mCol mSeen : Nat → Int32} {oCnt oArr mCnt : Int32} (hR : RelP oCol oNum oPl oCnt oArr mCol mCnt) (x : Int32) (oLF : Nat → Int64) : ∃ (ret v : Int32) (oLF' : Nat → Int64) (oNum' oPl' mSeen' : Nat → Int32) (oArr' : Int32), f_L_order n 64 oCol 64 oNum 64 oPl oCnt oArr oLF x = some (ret, oNum', oPl', oArr', oLF') ∧ f_X5_order n 256 mSeen 64 mCol mCnt x = some (v, ret, mSeen') ∧ (ret = 0 → lg_cmp (oLF' ((0 : Int32)).toNatClampNeg) v.toInt64 = 0) ∧ RelP oCol oNum' oPl' oCnt oArr' mCol mCnt := by
  have c1 : ¬ (1 : Int32) ≤ 0 := by decide
  have c0 : (0 : Int32) ≤ 0 := by decide
  have c10 : ¬ (1 : Int32) = 0 := by decide
  have hR0 := hR
  obtain ⟨E, A, col, hE, hA, rfl, rfl, rfl, h4, h5, h6⟩ := hR
  rcases i_cases x with h | ⟨j, hj, rfl⟩
  · refine ⟨1, 0, oLF, oNum, oPl, mSeen, nI A, ?_, ?_, fun q => absurd q c10, hR0⟩
    · unfold f_L_order f_X4_order
      rw [if_pos h]; rfl
    · unfold f_X5_order
      rw [in_lt h, xb_some, if_pos rfl, if_neg c1]
  · rcases Nat.lt_or_ge j E with hjE | hjE
    · -- both walk
      obtain ⟨Z, z1, z2, -⟩ := mzero_ok (y1 := nI j) 64 n 0 mSeen (by omega) (by omega)
      obtain ⟨S', w1⟩ := mwalk_ok (x := j) hE hjE (fun i hi => ⟨(h4 i hi).1, (h4 i hi).2.2⟩) (j + 1) n 0 Z (by omega) (by omega) (fun k hk => by rw [z2 k (by omega) hk]; rfl)
      have hm : ∀ b, (gSt col E (j + 1)).2 = some b → f_X5_order n 256 mSeen 64 mCol (nI E) (nI j) = some (nI b, 0, S') := by
        intro b hb
        unfold f_X5_order
        rw [in_ok (nI_pos hj) (by rw [nI_m1_lt (by omega) hj]; omega), xb_some, if_neg c10, if_pos c0]
        rw [nI_0] at z1 w1
        rw [z1, xb_some]
        dsimp only
        rw [show (-1 : Int32) = lastI (gSt col E 0).2 from rfl, w1, xb_some, hb]; rfl
      rcases Nat.lt_or_ge j A with hjA | hjA
      · -- already known
        obtain ⟨b, b1, b2, b3⟩ := h6 j hjA
        refine ⟨0, nI b, vp_updL oLF ((0 : Int32)).toNatClampNeg (nI b).toInt64, oNum, oPl, S', nI A, ?_, hm b b2, fun _ => ?_, hR0⟩
        · obtain ⟨m, rfl⟩ : ∃ q, n = q + 1 := ⟨n - 1, by omega⟩
          unfold f_L_order f_X4_order f_X1_numberAt
          rw [if_neg (nI_pos hj), if_pos (nI_lt hjE (by omega)), if_neg (nI_pos hj), if_pos (nI_lt hjE (by omega)), fl_X1_numberAt_19, if_pos (nI_lt hjA (by omega)), xb_some]
          dsimp only
          rw [xin_nI (by omega) (by decide), nI_clamp hj, b3]
          rfl
        · rw [out0]; exact lg_same _
      · obtain ⟨N', P', f1, f2, f3⟩ := numberAt_ok (x := j) hE hjE (fun i hi => ⟨(h4 i hi).1, (h4 i hi).2.1⟩) (j + 1 - A) n A oNum oPl (by omega) (by omega) h5 h6
        obtain ⟨b, b1, b2, b3⟩ := f3 j (by omega)
        refine ⟨0, nI b, vp_updL oLF ((0 : Int32)).toNatClampNeg (nI b).toInt64, N', P', S', nI (j + 1), ?_, hm b b2, fun _ => ?_, E, j + 1, col, hE, by omega, rfl, rfl, rfl, h4, f2, f3⟩
        · unfold f_L_order f_X4_order f_X1_numberAt
          rw [if_neg (nI_pos hj), if_pos (nI_lt hjE (by omega)), if_neg (nI_pos hj), if_pos (nI_lt hjE (by omega)), f1, xb_some]
          dsimp only
          rw [xin_nI (by omega) (by decide), nI_clamp hj, b3]
          rfl
        · rw [out0]; exact lg_same _
    · refine ⟨1, 0, oLF, oNum, oPl, mSeen, nI A, ?_, ?_, fun q => absurd q c10, hR0⟩
      · unfold f_L_order f_X4_order
        rw [if_neg (nI_pos hj), if_neg (nI_nlt hjE hj)]; rfl
      · unfold f_X5_order
        rw [in_gt ((nI_m1_lt (by omega) hj).mpr hjE), xb_some, if_pos rfl, if_neg c1]
