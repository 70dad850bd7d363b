/-! ===== what a line is worth ===== -/
def RelC (b : Nat) (sF : Nat → Int32) (cn : Int32) : Prop := ∃ c : Nat, c ≤ b ∧ cn = nI c ∧ ∀ j, j < 256 → ∃ s : Nat, s ≤ c ∧ sF j = nI s
theorem RelC.mono {b b' : Nat} {sF : Nat → Int32} {cn : Int32} (h : RelC b sF cn) (hb : b ≤ b') : RelC b' sF cn := by
  obtain ⟨c, h1, h2, h3⟩ := h
  exact ⟨c, by omega, h2, h3⟩
theorem n128 : (128 : Int32) = nI 128 := by decide
theorem n256 : (256 : Int32) = nI 256 := by decide
theorem sum_ok {M L : Nat} {R R' : Nat → Int32} (hM : M ≤ 128) (hL : L ≤ M) (hR : RelY L R R') : ∀ (r n n' i v : Nat) (S : Nat → Int32) (y4 : Int32), i + r = L → r < n → r < n' → v ≤ 256 * i → ∃ (v' : Nat) (S' : Nat → Int32) (y4' : Int32), v' ≤ 256 * L ∧ fl_X3_sumOfRests_4 n M R (nI L) (nI v) (nI i) = some (nI v', nI L) ∧ fl_X5_counted_30 n' 140 R' 256 S 5 (nI L) (nI v) y4 (nI i) = some (nI v', y4', nI L, S') := by
  intro r
  induction r with
  | zero =>
    intro n n' i v S y4 h1 h2 h3 h4
    obtain ⟨n, rfl⟩ : ∃ m, n = m + 1 := ⟨n - 1, by omega⟩
    obtain ⟨n', rfl⟩ : ∃ m, n' = m + 1 := ⟨n' - 1, by omega⟩
    have : i = L := by omega
    subst this
    refine ⟨v, S, y4, h4, ?_, ?_⟩
    · rw [fl_X3_sumOfRests_4, if_pos (nI_le (Nat.le_refl _) (by omega))]
    · rw [fl_X5_counted_30, if_pos (nI_le (Nat.le_refl _) (by omega))]
  | succ r ih =>
    intro n n' i v S y4 h1 h2 h3 h4
    obtain ⟨n, rfl⟩ : ∃ m, n = m + 1 := ⟨n - 1, by omega⟩
    obtain ⟨n', rfl⟩ : ∃ m, n' = m + 1 := ⟨n' - 1, by omega⟩
    obtain ⟨u, hu, e1, e2⟩ := hR i (by omega)
    rcases Nat.lt_or_ge u 128 with h | h
    · obtain ⟨v', S', z4, i0, i1, i2⟩ := ih n n' (i + 1) (v + u) (upd S u 1) (nI u) (by omega) (by omega) (by omega) (by omega)
      refine ⟨v', S', z4, i0, ?_, ?_⟩
      · rw [fl_X3_sumOfRests_4, if_neg (nI_ge (by omega) (by omega)), xin_nI (by omega) (by omega), nI_clamp (by omega), e1, xl_eq, if_neg (by rw [n128]; exact nI_ge (by omega) (by omega)), nI_add, nI_1]
        exact i1
      · rw [fl_X5_counted_30, if_neg (nI_ge (by omega) (by omega)), xin_nI (by omega) (by omega), nI_clamp (by omega), e2, xl_eq, if_pos rfl, if_neg (by rw [n128]; exact nI_ge (by omega) (by omega)), xin_nI (by omega) (by omega), nI_clamp (by omega), nI_add, nI_1]
        exact i2
    · obtain ⟨v', S', z4, i0, i1, i2⟩ := ih n n' (i + 1) (v + (256 - u)) (upd S u 1) (nI u) (by omega) (by omega) (by omega) (by omega)
      refine ⟨v', S', z4, i0, ?_, ?_⟩
      · rw [fl_X3_sumOfRests_4, if_neg (nI_ge (by omega) (by omega)), xin_nI (by omega) (by omega), nI_clamp (by omega), e1, xl_eq, if_pos (by rw [n128]; exact nI_le (by omega) (by omega)), n256, pk_sub (by omega), xl_eq, nI_add, nI_1]
        exact i1
      · rw [fl_X5_counted_30, if_neg (nI_ge (by omega) (by omega)), xin_nI (by omega) (by omega), nI_clamp (by omega), e2, xl_eq, if_pos rfl, if_pos (by rw [n128]; exact nI_le (by omega) (by omega)), n256, pk_sub (by omega), xl_eq, xin_nI (by omega) (by omega), nI_clamp (by omega), nI_add, nI_1]
        exact i2
theorem chg_ok {M L : Nat} {R R' : Nat → Int32} (hM : M ≤ 128) (hL : L ≤ M) (hR : RelY L R R') : ∀ (r n n' i v : Nat) (S : Nat → Int32) (y4 : Int32), i + r = L → r < n → r < n' → v ≤ 256 * i → ∃ (v' : Nat) (S' : Nat → Int32) (y4' : Int32), v' ≤ 256 * L ∧ fl_X3_changesOfRests_6 n M R (nI L) (nI v) y4 (nI i) = some (nI v', y4', nI L) ∧ fl_X5_counted_30 n' 140 R' 256 S 6 (nI L) (nI v) y4 (nI i) = some (nI v', y4', nI L, S') := by
  intro r
  have c65 : ¬ (6 : Int32) = 5 := by decide
  induction r with
  | zero =>
    intro n n' i v S y4 h1 h2 h3 h4
    obtain ⟨n, rfl⟩ : ∃ m, n = m + 1 := ⟨n - 1, by omega⟩
    obtain ⟨n', rfl⟩ : ∃ m, n' = m + 1 := ⟨n' - 1, by omega⟩
    have : i = L := by omega
    subst this
    refine ⟨v, S, y4, h4, ?_, ?_⟩
    · rw [fl_X3_changesOfRests_6, if_pos (nI_le (Nat.le_refl _) (by omega))]
    · rw [fl_X5_counted_30, if_pos (nI_le (Nat.le_refl _) (by omega))]
  | succ r ih =>
    intro n n' i v S y4 h1 h2 h3 h4
    obtain ⟨n, rfl⟩ : ∃ m, n = m + 1 := ⟨n - 1, by omega⟩
    obtain ⟨n', rfl⟩ : ∃ m, n' = m + 1 := ⟨n' - 1, by omega⟩
    obtain ⟨u, hu, e1, e2⟩ := hR i (by omega)
    by_cases h : nI u = y4
    · obtain ⟨v', S', z4, i0, i1, i2⟩ := ih n n' (i + 1) v (upd S u 1) (nI u) (by omega) (by omega) (by omega) (by omega)
      refine ⟨v', S', z4, i0, ?_, ?_⟩
      · rw [fl_X3_changesOfRests_6, if_neg (nI_ge (by omega) (by omega)), xin_nI (by omega) (by omega), nI_clamp (by omega), e1, if_pos h, xin_nI (by omega) (by omega), xl_eq, nI_1]
        exact i1
      · rw [fl_X5_counted_30, if_neg (nI_ge (by omega) (by omega)), xin_nI (by omega) (by omega), nI_clamp (by omega), e2, xl_eq, if_neg c65, if_pos rfl, if_pos h, xin_nI (by omega) (by omega), nI_clamp (by omega), Int32.add_zero, nI_1]
        exact i2
    · obtain ⟨v', S', z4, i0, i1, i2⟩ := ih n n' (i + 1) (v + 1) (upd S u 1) (nI u) (by omega) (by omega) (by omega) (by omega)
      refine ⟨v', S', z4, i0, ?_, ?_⟩
      · rw [fl_X3_changesOfRests_6, if_neg (nI_ge (by omega) (by omega)), xin_nI (by omega) (by omega), nI_clamp (by omega), e1, if_neg h, xin_nI (by omega) (by omega), xl_eq, nI_1, nI_1]
        exact i1
      · rw [fl_X5_counted_30, if_neg (nI_ge (by omega) (by omega)), xin_nI (by omega) (by omega), nI_clamp (by omega), e2, xl_eq, if_neg c65, if_pos rfl, if_neg h, xin_nI (by omega) (by omega), nI_clamp (by omega), nI_1, nI_1]
        exact i2
def RelD (c : Nat) (sF S : Nat → Int32) : Prop := ∀ j, j < 256 → (sF j = nI (c + 1) ∧ S j = 1) ∨ (∃ s : Nat, s ≤ c ∧ sF j = nI s ∧ S j = 0)
theorem dif_ok {M L c : Nat} {R R' : Nat → Int32} (hM : M ≤ 128) (hL : L ≤ M) (hc : c < 2000000000) (hR : RelY L R R') : ∀ (r n n' i v : Nat) (sF S : Nat → Int32) (y4 : Int32), i + r = L → r < n → r < n' → v ≤ 256 * i → RelD c sF S → ∃ (v' : Nat) (sF' S' : Nat → Int32) (y4' : Int32), v' ≤ 256 * L ∧ fl_X3_differentRests_14 n 256 sF (nI (c + 1)) M R (nI L) (nI v) (nI i) = some (nI v', nI L, sF') ∧ fl_X5_counted_30 n' 140 R' 256 S 7 (nI L) (nI v) y4 (nI i) = some (nI v', y4', nI L, S') ∧ RelD c sF' S' := by
  intro r
  have c75 : ¬ (7 : Int32) = 5 := by decide
  have c76 : ¬ (7 : Int32) = 6 := by decide
  induction r with
  | zero =>
    intro n n' i v sF S y4 h1 h2 h3 h4 h5
    obtain ⟨n, rfl⟩ : ∃ m, n = m + 1 := ⟨n - 1, by omega⟩
    obtain ⟨n', rfl⟩ : ∃ m, n' = m + 1 := ⟨n' - 1, by omega⟩
    have : i = L := by omega
    subst this
    refine ⟨v, sF, S, y4, h4, ?_, ?_, h5⟩
    · rw [fl_X3_differentRests_14, if_pos (nI_le (Nat.le_refl _) (by omega))]
    · rw [fl_X5_counted_30, if_pos (nI_le (Nat.le_refl _) (by omega))]
  | succ r ih =>
    intro n n' i v sF S y4 h1 h2 h3 h4 h5
    obtain ⟨n, rfl⟩ : ∃ m, n = m + 1 := ⟨n - 1, by omega⟩
    obtain ⟨n', rfl⟩ : ∃ m, n' = m + 1 := ⟨n' - 1, by omega⟩
    obtain ⟨u, hu, e1, e2⟩ := hR i (by omega)
    have hD : RelD c (upd sF u (nI (c + 1))) (upd S u 1) := fun j hj => by
      by_cases e : j = u
      · rw [e, pk_us, pk_us]; exact Or.inl ⟨rfl, rfl⟩
      · rw [pk_un e, pk_un e]; exact h5 j hj
    have ha : nI u &&& 255 = nI u := by rw [pk_andN (by omega) 8 (by decide), Nat.mod_eq_of_lt (by omega)]
    rcases h5 u hu with ⟨d1, d2⟩ | ⟨s, d0, d1, d2⟩
    · obtain ⟨v', sF', S', z4, i0, i1, i2, i3⟩ := ih n n' (i + 1) v (upd sF u (nI (c + 1))) (upd S u 1) (nI u) (by omega) (by omega) (by omega) (by omega) hD
      refine ⟨v', sF', S', z4, i0, ?_, ?_, i3⟩
      · rw [fl_X3_differentRests_14, if_neg (nI_ge (by omega) (by omega)), xin_nI (by omega) (by omega), nI_clamp (by omega), e1, ha, xl_eq, xin_nI (by omega) (by omega), nI_clamp (by omega), d1, if_pos rfl, xin_nI (by omega) (by omega), nI_1]
        exact i1
      · rw [fl_X5_counted_30, if_neg (nI_ge (by omega) (by omega)), xin_nI (by omega) (by omega), nI_clamp (by omega), e2, xl_eq, if_neg c75, if_neg c76, xin_nI (by omega) (by omega), nI_clamp (by omega), d2, if_neg (by decide), xin_nI (by omega) (by omega), Int32.add_zero, nI_1]
        exact i2
    · obtain ⟨v', sF', S', z4, i0, i1, i2, i3⟩ := ih n n' (i + 1) (v + 1) (upd sF u (nI (c + 1))) (upd S u 1) (nI u) (by omega) (by omega) (by omega) (by omega) hD
      refine ⟨v', sF', S', z4, i0, ?_, ?_, i3⟩
      · rw [fl_X3_differentRests_14, if_neg (nI_ge (by omega) (by omega)), xin_nI (by omega) (by omega), nI_clamp (by omega), e1, ha, xl_eq, xin_nI (by omega) (by omega), nI_clamp (by omega), d1, if_neg (by rw [nI_eq (by omega) (by omega)]; omega), xin_nI (by omega) (by omega), nI_1, nI_1]
        exact i1
      · rw [fl_X5_counted_30, if_neg (nI_ge (by omega) (by omega)), xin_nI (by omega) (by omega), nI_clamp (by omega), e2, xl_eq, if_neg c75, if_neg c76, xin_nI (by omega) (by omega), nI_clamp (by omega), d2, if_pos rfl, xin_nI (by omega) (by omega), nI_1, nI_1]
        exact i2
theorem mseen_ok {y1 y2 : Int32} : ∀ (k n i : Nat) (F : Nat → Int32), i + k = 256 → k < n → ∃ G : Nat → Int32, fl_X5_counted_2 n 256 F y1 y2 (nI i) = some (nI 256, G) ∧ (∀ j, i ≤ j → j < 256 → G j = 0) ∧ (∀ j, j < i ∨ 256 ≤ j → G j = F j) := by
  intro k
  induction k with
  | zero =>
    intro n i F h1 h2
    obtain ⟨n, rfl⟩ : ∃ m, n = m + 1 := ⟨n - 1, by omega⟩
    refine ⟨F, ?_, fun j a b => by omega, fun j _ => rfl⟩
    rw [fl_X5_counted_2]
    have : i = 256 := by omega
    subst this
    rw [if_pos (by decide)]
  | succ k ih =>
    intro n i F h1 h2
    obtain ⟨n, rfl⟩ : ∃ m, n = m + 1 := ⟨n - 1, by omega⟩
    obtain ⟨G, e, g1, g2⟩ := ih n (i + 1) (upd F i 0) (by omega) (by omega)
    refine ⟨G, ?_, fun j a b => ?_, fun j a => ?_⟩
    · rw [fl_X5_counted_2, if_neg (by rw [n256]; exact nI_ge (by omega) (by decide)), xin_nI (by omega) (by decide), nI_clamp (by omega), nI_1]
      exact e
    · rcases Nat.eq_or_lt_of_le a with h | h
      · rw [g2 j (Or.inl (by omega)), ← h, pk_us]
      · exact g1 j h b
    · rw [g2 j (by omega), pk_un (by omega)]
/-- one kind's worth, in one of the three ways -/
theorem worth_ok {M L st k n n' wy b : Nat} {C C' A A' : Nat → Int32} (hM : M ≤ 128) (hL : L ≤ M) (hs : 1 ≤ st ∧ st ≤ 8) (hk : k < 5) (hC : RelY M C C') (hA : RelY M A A') (hn : 300 < n) (hn' : 300 < n') (hw : wy = 5 ∨ wy = 6 ∨ wy = 7) (hb : b < 1999999999) {sF : Nat → Int32} {cn : Int32} (hQ : RelC b sF cn) (R R' S : Nat → Int32) : ∃ (v : Nat) (sF' : Nat → Int32) (cn' : Int32) (R2 R2' S' : Nat → Int32), v ≤ 40000 ∧ f_X3_worthOf n (nI st) 256 sF cn M R M C M A (nI L) (nI k) (nI wy) = some (nI v, sF', cn', R2) ∧ f_X5_filter n' (nI st) 140 C' 140 A' 140 R' (nI k) (nI L) = some R2' ∧ f_X5_counted n' 140 R2' 256 S (nI wy) (nI L) = some (nI v, S') ∧ RelC (b + 1) sF' cn' := by
  obtain ⟨R2, R2', f1, f2, f3⟩ := filter_ok hM hL hs hk hC hA (n := n) (n' := n') (by omega) (by omega) R R'
  obtain ⟨S0, s1, s2, -⟩ := mseen_ok (y1 := nI wy) (y2 := nI L) 256 n' 0 S (by omega) (by omega)
  rw [nI_0] at s1
  rcases hw with rfl | rfl | rfl
  · obtain ⟨v, S', z, a0, a1, a2⟩ := sum_ok hM hL f3 L n n' 0 0 S0 0 (by omega) (by omega) (by omega) (by omega)
    rw [nI_0] at a1 a2
    refine ⟨v, sF, cn, R2, R2', S', by omega, ?_, f2, ?_, hQ.mono (by omega)⟩
    · unfold f_X3_worthOf f_X3_sumOfRests
      rw [f1, xb_some, if_pos (by decide), a1]; rfl
    · unfold f_X5_counted
      rw [s1, xb_some]
      dsimp only
      rw [← nI5, a2]; rfl
  · obtain ⟨v, S', z, a0, a1, a2⟩ := chg_ok hM hL f3 L n n' 0 0 S0 0 (by omega) (by omega) (by omega) (by omega)
    rw [nI_0] at a1 a2
    refine ⟨v, sF, cn, R2, R2', S', by omega, ?_, f2, ?_, hQ.mono (by omega)⟩
    · unfold f_X3_worthOf f_X3_changesOfRests
      rw [f1, xb_some, if_neg (by decide), if_pos (by decide), a1]; rfl
    · unfold f_X5_counted
      rw [s1, xb_some]
      dsimp only
      rw [show nI 6 = 6 by decide, a2]; rfl
  · obtain ⟨c, q1, rfl, q3⟩ := hQ
    obtain ⟨v, sF', S', z, a0, a1, a2, a3⟩ := dif_ok hM hL (show c < 2000000000 by omega) f3 L n n' 0 0 sF S0 0 (by omega) (by omega) (by omega) (by omega) (fun j hj => by
      obtain ⟨s, t1, t2⟩ := q3 j hj
      exact Or.inr ⟨s, t1, t2, s2 j (by omega) hj⟩)
    rw [nI_0] at a1 a2
    refine ⟨v, sF', nI (c + 1), R2, R2', S', by omega, ?_, f2, ?_, c + 1, by omega, rfl, fun j hj => ?_⟩
    · unfold f_X3_worthOf f_X3_differentRests
      rw [f1, xb_some, if_neg (by decide), if_neg (by decide), nI_1, a1]; rfl
    · unfold f_X5_counted
      rw [s1, xb_some]
      dsimp only
      rw [show nI 7 = 7 by decide, a2]; rfl
    · rcases a3 j hj with ⟨d1, -⟩ | ⟨s, d0, d1, -⟩
      · exact ⟨c + 1, by omega, d1⟩
      · exact ⟨s, by omega, d1⟩
theorem best_ok {M L st wy : Nat} {C C' A A' : Nat → Int32} (hM : M ≤ 128) (hL : L ≤ M) (hs : 1 ≤ st ∧ st ≤ 8) (hC : RelY M C C') (hA : RelY M A A') (hw : wy = 5 ∨ wy = 6 ∨ wy = 7) : ∀ (r n n' k best v b : Nat) (sF : Nat → Int32) (cn : Int32) (R R' S : Nat → Int32), k + r = 5 → r + 300 < n → r + 300 < n' → best < 5 → v ≤ 40000 → b + r < 1999999999 → RelC b sF cn → ∃ (best' v' : Nat) (sF' : Nat → Int32) (cn' : Int32) (R2 R2' S' : Nat → Int32), best' < 5 ∧ fl_X3_bestKind_12 n (nI st) 256 sF cn M R M C M A (nI L) (nI wy) (nI best) (nI v) (nI k) = some (nI best', nI v', nI 5, sF', cn', R2) ∧ fl_X5_choose_9 n' (nI st) 140 C' 140 A' 140 R' 256 S (nI wy) (nI L) (nI best) (nI v) (nI k) = some (nI best', nI v', nI 5, R2', S') ∧ RelC (b + r) sF' cn' := by
  intro r
  induction r with
  | zero =>
    intro n n' k best v b sF cn R R' S h1 h2 h3 h4 h5 h6 h7
    obtain ⟨n, rfl⟩ : ∃ m, n = m + 1 := ⟨n - 1, by omega⟩
    obtain ⟨n', rfl⟩ : ∃ m, n' = m + 1 := ⟨n' - 1, by omega⟩
    have : k = 5 := by omega
    subst this
    refine ⟨best, v, sF, cn, R, R', S, h4, ?_, ?_, h7⟩
    · rw [fl_X3_bestKind_12, if_pos (by decide)]
    · rw [fl_X5_choose_9, if_pos (by decide)]
  | succ r ih =>
    intro n n' k best v b sF cn R R' S h1 h2 h3 h4 h5 h6 h7
    obtain ⟨n, rfl⟩ : ∃ m, n = m + 1 := ⟨n - 1, by omega⟩
    obtain ⟨n', rfl⟩ : ∃ m, n' = m + 1 := ⟨n' - 1, by omega⟩
    obtain ⟨u, sF1, cn1, R1, R1', S1, w0, w1, w2, w3, w4⟩ := worth_ok hM hL hs (show k < 5 by omega) hC hA (n := n) (n' := n') (by omega) (by omega) hw (by omega) h7 R R' S
    rcases Nat.lt_or_ge u v with h | h
    · obtain ⟨best', v', sF', cn', R2, R2', S', i0, i1, i2, i3⟩ := ih n n' (k + 1) k u (b + 1) sF1 cn1 R1 R1' S1 (by omega) (by omega) (by omega) (by omega) w0 (by omega) w4
      refine ⟨best', v', sF', cn', R2, R2', S', i0, ?_, ?_, by rw [show b + (r + 1) = b + 1 + r by omega]; exact i3⟩
      · rw [fl_X3_bestKind_12, if_neg (by rw [nI4, nI_ltI (by decide) (by omega)]; omega), w1, xb_some]
        dsimp only
        rw [if_neg (nI_ge h (by omega)), nI_1]
        exact i1
      · rw [fl_X5_choose_9, if_neg (by rw [nI5]; exact nI_ge (by omega) (by decide)), w2, xb_some, w3, xb_some]
        dsimp only
        rw [if_neg (nI_ge h (by omega)), if_neg (nI_ge h (by omega)), nI_1]
        exact i2
    · obtain ⟨best', v', sF', cn', R2, R2', S', i0, i1, i2, i3⟩ := ih n n' (k + 1) best v (b + 1) sF1 cn1 R1 R1' S1 (by omega) (by omega) (by omega) h4 h5 (by omega) w4
      refine ⟨best', v', sF', cn', R2, R2', S', i0, ?_, ?_, by rw [show b + (r + 1) = b + 1 + r by omega]; exact i3⟩
      · rw [fl_X3_bestKind_12, if_neg (by rw [nI4, nI_ltI (by decide) (by omega)]; omega), w1, xb_some]
        dsimp only
        rw [if_pos (nI_le h (by omega)), nI_1]
        exact i1
      · rw [fl_X5_choose_9, if_neg (by rw [nI5]; exact nI_ge (by omega) (by decide)), w2, xb_some, w3, xb_some]
        dsimp only
        rw [if_pos (nI_le h (by omega)), if_pos (nI_le h (by omega)), nI_1]
        exact i2
theorem choose_ok {M L st wy n n' b : Nat} {C C' A A' : Nat → Int32} (hM : M ≤ 128) (hL : L ≤ M) (hs : 1 ≤ st ∧ st ≤ 8) (hC : RelY M C C') (hA : RelY M A A') (hw : wy = 5 ∨ wy = 6 ∨ wy = 7) (hn : 400 < n) (hn' : 400 < n') (hb : b < 1999999990) {sF : Nat → Int32} {cn : Int32} (hQ : RelC b sF cn) (R R' S : Nat → Int32) : ∃ (best : Nat) (sF' : Nat → Int32) (cn' : Int32) (R2 R2' S' : Nat → Int32), best < 5 ∧ f_X3_bestKind n (nI st) 256 sF cn M R M C M A (nI L) (nI wy) = some (nI best, sF', cn', R2) ∧ f_X5_choose n' (nI st) 140 C' 140 A' 140 R' 256 S (nI wy) (nI L) = some (nI best, R2', S') ∧ RelC (b + 5) sF' cn' := by
  obtain ⟨n', rfl⟩ : ∃ m, n' = m + 1 := ⟨n' - 1, by omega⟩
  obtain ⟨u, sF1, cn1, R1, R1', S1, w0, w1, w2, w3, w4⟩ := worth_ok hM hL hs (show 0 < 5 by omega) hC hA (n := n) (n' := n') (by omega) (by omega) hw (by omega) hQ R R' S
  obtain ⟨best', v', sF', cn', R2, R2', S', i0, i1, i2, i3⟩ := best_ok hM hL hs hC hA hw 4 n n' 1 0 u (b + 1) sF1 cn1 R1 R1' S1 (by omega) (by omega) (by omega) (by omega) w0 (by omega) w4
  have e9 : (1000000000 : Int32) = nI 1000000000 := by decide
  rw [nI_0] at w1 w2
  refine ⟨best', sF', cn', R2, R2', S', i0, ?_, ?_, i3⟩
  · unfold f_X3_bestKind
    rw [w1, xb_some]
    dsimp only
    rw [nI_0, ← nI1] at i1
    rw [i1]; rfl
  · unfold f_X5_choose
    rw [fl_X5_choose_9, if_neg (by decide), w2, xb_some, w3, xb_some]
    dsimp only
    rw [e9, if_neg (nI_ge (by omega) (by decide)), if_neg (nI_ge (by omega) (by decide)), Int32.zero_add, nI1]
    rw [nI_0] at i2
    rw [i2]; rfl
