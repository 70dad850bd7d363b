/-! ===== what is guessed, what is left ===== -/
theorem size_eq (n : Nat) (d : Int32) : f_X5_size n d = some (if 0 ≤ d then d else 0 - d) := by
  unfold f_X5_size
  rw [Int32.zero_sub]
  split <;> rfl
theorem near_eq (n n' : Nat) (a b c : Int32) : f_X5_with n 4 a b c = f_X3_nearest n' a b c := by
  unfold f_X5_with f_X3_nearest
  rw [if_neg (by decide), if_neg (by decide), if_neg (by decide), if_neg (by decide), size_eq, size_eq, size_eq]
  rfl
theorem near_in (n : Nat) {a b c : Int32} : f_X3_nearest n a b c = some a ∨ f_X3_nearest n a b c = some b ∨ f_X3_nearest n a b c = some c := by
  unfold f_X3_nearest
  rw [xl_eq, xl_eq, xl_eq]
  repeat' split
  all_goals simp
theorem byteOr0_ok (n : Nat) {M i st v : Nat} {F : Nat → Int32} (hM : M ≤ 128) (hi : i < M) (hs : st ≤ 8) (hF : st ≤ i → F (i - st) = nI v) : f_X3_byteOr0 n M F (nI i - nI st) = some (nI (if st ≤ i then v else 0)) := by
  unfold f_X3_byteOr0
  by_cases h : st ≤ i
  · rw [pk_sub h, if_neg (nI_pos (by omega)), if_neg (nI_ge (by omega) (by omega)), xin_nI (by omega) (by omega), nI_clamp (by omega), hF h, if_pos h]
  · rw [if_pos (pk_sneg (by omega) (by omega)), if_neg h]; rfl
theorem byteAt_ok (n : Nat) {M i v : Nat} {F : Nat → Int32} (hM : M ≤ 128) (hi : i < M) (hF : F i = nI v) : f_X3_byteOr0 n M F (nI i) = some (nI v) := by
  unfold f_X3_byteOr0
  rw [if_neg (nI_pos (by omega)), if_neg (nI_ge (by omega) (by omega)), xin_nI (by omega) (by omega), nI_clamp (by omega), hF]
theorem before_ok (n : Nat) {M i st v : Nat} {F : Nat → Int32} (hM : M ≤ 128) (hi : i < M) (hs : st ≤ 8) (hF : st ≤ i → F (i - st) = nI v) : f_X5_before_o_line n (nI st) 140 F (nI i) = some (nI (if st ≤ i then v else 0)) := by
  unfold f_X5_before_o_line
  by_cases h : st ≤ i
  · rw [if_pos (nI_le h (by omega)), pk_sub h, xin_nI (by omega) (by omega), nI_clamp (by omega), hF h, if_pos h]
  · rw [if_neg (nI_ge (by omega) (by omega)), if_neg h]; rfl
theorem beforeA_eq (n : Nat) (a b c d) : f_X5_before_o_above n a b c d = f_X5_before_o_line n a b c d := rfl
/-- the guess of both is one byte -/
theorem guess_ok (n n' : Nat) {M i st k : Nat} {C C' A A' : Nat → Int32} (hM : M ≤ 128) (hi : i < M) (hs : 1 ≤ st ∧ st ≤ 8) (hk : k < 5) (hC : ∀ j, j < i → ∃ v : Nat, v < 256 ∧ C j = nI v ∧ C' j = nI v) (hA : RelY M A A') : ∃ g r3 r6 : Int32, f_X3_guess n (nI st) M C M A (nI k) (nI i) = some g ∧ f_X5_before_o_line n' (nI st) 140 C' (nI i) = some r3 ∧ f_X5_before_o_above n' (nI st) 140 A' (nI i) = some r6 ∧ f_X5_with n' (nI k) r3 (A' i) r6 = some g := by
  obtain ⟨b, hb, b1, b2⟩ := hA i hi
  obtain ⟨a, ha, a1, a2⟩ : ∃ a : Nat, a < 256 ∧ (st ≤ i → C (i - st) = nI a) ∧ (st ≤ i → C' (i - st) = nI a) := by
    by_cases h : st ≤ i
    · obtain ⟨v, v1, v2, v3⟩ := hC (i - st) (by omega)
      exact ⟨v, v1, fun _ => v2, fun _ => v3⟩
    · exact ⟨0, by omega, fun q => absurd q h, fun q => absurd q h⟩
  obtain ⟨c, hc, c1, c2⟩ : ∃ a : Nat, a < 256 ∧ (st ≤ i → A (i - st) = nI a) ∧ (st ≤ i → A' (i - st) = nI a) := by
    by_cases h : st ≤ i
    · obtain ⟨v, v1, v2, v3⟩ := hA (i - st) (by omega)
      exact ⟨v, v1, fun _ => v2, fun _ => v3⟩
    · exact ⟨0, by omega, fun q => absurd q h, fun q => absurd q h⟩
  have p1 := byteOr0_ok n hM hi hs.2 a1
  have p2 := byteAt_ok n hM hi b1
  have p3 := byteOr0_ok n hM hi hs.2 c1
  have q1 := before_ok n' hM hi hs.2 a2
  have q3 := before_ok n' hM hi hs.2 c2
  have ha' : (if st ≤ i then a else 0) < 256 := by split <;> omega
  have hc' : (if st ≤ i then c else 0) < 256 := by split <;> omega
  generalize (if st ≤ i then a else 0) = a0 at *
  generalize (if st ≤ i then c else 0) = c0 at *
  have hk5 : k = 0 ∨ k = 1 ∨ k = 2 ∨ k = 3 ∨ k = 4 := by omega
  unfold f_X3_guess
  rw [p1, xb_some, p2, xb_some, p3, xb_some, b2]
  rcases hk5 with rfl | rfl | rfl | rfl | rfl
  · refine ⟨0, nI a0, nI c0, ?_, q1, q3, ?_⟩
    · rw [if_neg (by decide), if_neg (by decide), if_neg (by decide), if_neg (by decide)]
    · unfold f_X5_with
      rw [if_pos (by decide)]
  · refine ⟨nI a0, nI a0, nI c0, ?_, q1, q3, ?_⟩
    · rw [if_pos (by decide)]
    · unfold f_X5_with
      rw [if_neg (by decide), if_pos (by decide)]
  · refine ⟨nI b, nI a0, nI c0, ?_, q1, q3, ?_⟩
    · rw [if_neg (by decide), if_pos (by decide)]
    · unfold f_X5_with
      rw [if_neg (by decide), if_neg (by decide), if_pos (by decide)]
  · refine ⟨nI ((a0 + b) / 2), nI a0, nI c0, ?_, q1, q3, ?_⟩
    · rw [if_neg (by decide), if_neg (by decide), if_pos (by decide), nI_add, pk_shrN (by omega) _ 1 (by decide), Nat.pow_one]
    · unfold f_X5_with
      rw [if_neg (by decide), if_neg (by decide), if_neg (by decide), if_pos (by decide), xnz_ok (by decide), nI_add, nI2, pk_div (by omega) (by decide) (by decide)]
  · have e := near_eq n' n (nI a0) (nI b) (nI c0)
    obtain ⟨g, hg⟩ : ∃ g, f_X3_nearest n (nI a0) (nI b) (nI c0) = some g := by
      rcases near_in n (a := nI a0) (b := nI b) (c := nI c0) with h | h | h
      · exact ⟨_, h⟩
      · exact ⟨_, h⟩
      · exact ⟨_, h⟩
    refine ⟨g, nI a0, nI c0, ?_, q1, q3, ?_⟩
    · rw [if_neg (by decide), if_neg (by decide), if_neg (by decide), if_pos (by decide), hg]; rfl
    · rw [← hg, ← e]; rfl
theorem filt_ok {M L st k : Nat} {C C' A A' : Nat → Int32} (hM : M ≤ 128) (hL : L ≤ M) (hs : 1 ≤ st ∧ st ≤ 8) (hk : k < 5) (hC : RelY M C C') (hA : RelY M A A') : ∀ (r n n' i : Nat) (R R' : Nat → Int32), i + r = L → r < n → r < n' → RelY i R R' → ∃ R2 R2' : Nat → Int32, fl_X3_filterLine_2 n (nI st) M R M C M A (nI L) (nI k) (nI i) = some (nI L, R2) ∧ fl_X5_filter_2 n' (nI st) 140 C' 140 A' 140 R' (nI k) (nI L) (nI i) = some (nI L, R2') ∧ RelY L R2 R2' := by
  intro r
  induction r with
  | zero =>
    intro n n' i R R' h1 h2 h3 h4
    obtain ⟨n, rfl⟩ : ∃ m, n = m + 1 := ⟨n - 1, by omega⟩
    obtain ⟨n', rfl⟩ : ∃ m, n' = m + 1 := ⟨n' - 1, by omega⟩
    have : i = L := by omega
    subst this
    refine ⟨R, R', ?_, ?_, h4⟩
    · rw [fl_X3_filterLine_2, if_pos (nI_le (Nat.le_refl _) (by omega))]
    · rw [fl_X5_filter_2, if_pos (nI_le (Nat.le_refl _) (by omega))]
  | succ r ih =>
    intro n n' i R R' h1 h2 h3 h4
    obtain ⟨n, rfl⟩ : ∃ m, n = m + 1 := ⟨n - 1, by omega⟩
    obtain ⟨n', rfl⟩ : ∃ m, n' = m + 1 := ⟨n' - 1, by omega⟩
    obtain ⟨g, r3, r6, g1, g2, g3, g4⟩ := guess_ok n n' hM (show i < M by omega) hs hk (fun j hj => hC j (by omega)) hA
    obtain ⟨v, v1, v2, v3⟩ := hC i (by omega)
    obtain ⟨q, hq, eq⟩ := pk_andE (nI v - g) (m := 255) 8 (by decide)
    obtain ⟨R2, R2', i1, i2, i3⟩ := ih n n' (i + 1) (upd R i (nI q)) (upd R' i (nI q)) (by omega) (by omega) (by omega) (fun j hj => by
      by_cases e : j = i
      · rw [e, pk_us, pk_us]; exact ⟨q, hq, rfl, rfl⟩
      · rw [pk_un e, pk_un e]; exact h4 j (by omega))
    refine ⟨R2, R2', ?_, ?_, i3⟩
    · rw [fl_X3_filterLine_2, if_neg (nI_ge (by omega) (by omega)), xin_nI (by omega) (by omega), g1, xb_some, xin_nI (by omega) (by omega), nI_clamp (by omega), v2, eq, nI_1]
      exact i1
    · rw [fl_X5_filter_2, if_neg (nI_ge (by omega) (by omega)), xin_nI (by omega) (by omega), g2, xb_some, xin_nI (by omega) (by omega), g3, xb_some, nI_clamp (by omega), g4, xb_some, xin_nI (by omega) (by omega), v3, eq, nI_1]
      exact i2
theorem filter_ok {M L st k n n' : Nat} {C C' A A' : Nat → Int32} (hM : M ≤ 128) (hL : L ≤ M) (hs : 1 ≤ st ∧ st ≤ 8) (hk : k < 5) (hC : RelY M C C') (hA : RelY M A A') (hn : 200 < n) (hn' : 200 < n') (R R' : Nat → Int32) : ∃ R2 R2' : Nat → Int32, f_X3_filterLine n (nI st) M R M C M A (nI L) (nI k) = some R2 ∧ f_X5_filter n' (nI st) 140 C' 140 A' 140 R' (nI k) (nI L) = some R2' ∧ RelY L R2 R2' := by
  obtain ⟨R2, R2', i1, i2, i3⟩ := filt_ok hM hL hs hk hC hA L n n' 0 R R' (by omega) (by omega) (by omega) (fun j hj => by omega)
  rw [nI_0] at i1 i2
  refine ⟨R2, R2', ?_, ?_, i3⟩
  · unfold f_X3_filterLine
    rw [i1]; rfl
  · unfold f_X5_filter
    rw [i2]; rfl
