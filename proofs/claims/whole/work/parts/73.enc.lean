/-! ===== encode ===== -/
def RelE (E : Nat) (eF gF : Nat → Int32) : Prop := ∀ i, i < E → ∃ v : Nat, v < 256 ∧ eF i = nI v ∧ gF i = nI v
theorem RelE.put {E v : Nat} {eF gF : Nat → Int32} (h : RelE E eF gF) (hv : v < 256) : RelE (E + 1) (upd eF E (nI v)) (upd gF E (nI v)) := fun i hi => by
  by_cases e : i = E
  · rw [e, pk_us, pk_us]; exact ⟨v, hv, rfl, rfl⟩
  · rw [pk_un e, pk_un e]; exact h i (by omega)
theorem append_ok (n : Nat) {E : Nat} {eF : Nat → Int32} (hE : E < 2078) (x : Int32) : f_X0_append n 2078 eF (nI E) x = some (upd eF E x, nI (E + 1)) := by
  unfold f_X0_append
  rw [if_neg (nI_ge hE (by decide)), xin_nI hE (by decide), nI_clamp (by omega), nI_1]
theorem lay_ok {M L : Nat} {R R' : Nat → Int32} (hM : M ≤ 128) (hL : L ≤ M) (hR : RelY L R R') (x1 y1 y2 y3 y4 y5 y7 y8 : Int32) : ∀ (r n i E : Nat) (eF gF : Nat → Int32), i + r = L → r < n → E + r ≤ 2078 → RelE E eF gF → ∃ eF' gF' : Nat → Int32, fl_X4_appendLine_35 n M R (nI L) 2078 eF (nI E) x1 (nI i) = some (nI L, eF', nI (E + r)) ∧ fl_X5_encode_207 n 140 R' 4000 gF (nI E) y1 y2 y3 y4 y5 (nI L) y7 y8 (nI i) = some (nI L, gF', nI (E + r)) ∧ RelE (E + r) eF' gF' := by
  intro r
  induction r with
  | zero =>
    intro n i E eF gF h1 h2 h3 h4
    obtain ⟨n, rfl⟩ : ∃ m, n = m + 1 := ⟨n - 1, by omega⟩
    have : i = L := by omega
    subst this
    refine ⟨eF, gF, ?_, ?_, h4⟩
    · rw [fl_X4_appendLine_35, if_pos (nI_le (Nat.le_refl _) (by omega))]; rfl
    · rw [fl_X5_encode_207, if_pos (nI_le (Nat.le_refl _) (by omega))]; rfl
  | succ r ih =>
    intro n i E eF gF h1 h2 h3 h4
    obtain ⟨n, rfl⟩ : ∃ m, n = m + 1 := ⟨n - 1, by omega⟩
    obtain ⟨u, hu, e1, e2⟩ := hR i (by omega)
    obtain ⟨eF', gF', i1, i2, i3⟩ := ih n (i + 1) (E + 1) _ _ (by omega) (by omega) (by omega) (h4.put hu)
    rw [show E + 1 + r = E + (r + 1) by omega] at i1 i2 i3
    refine ⟨eF', gF', ?_, ?_, i3⟩
    · rw [fl_X4_appendLine_35, if_neg (nI_ge (by omega) (by omega)), xin_nI (by omega) (by omega), nI_clamp (by omega), e1, append_ok n (by omega), xb_some]
      dsimp only
      rw [nI_1]
      exact i1
    · rw [fl_X5_encode_207, if_neg (nI_ge (by omega) (by omega)), xin_nI (by omega) (by omega), xin_nI (by omega) (by omega), nI_clamp (by omega), nI_clamp (by omega), e2, nI_1, nI_1]
      exact i2
theorem isKind_ok (n : Nat) {k : Nat} (hk : k < 5) : f_X4_isKind n (nI k) = some 1 := by
  unfold f_X4_isKind
  rw [if_neg (nI_pos (by omega)), if_neg (by rw [nI4, nI_ltI (by decide) (by omega)]; omega)]
/-- one line laid behind the others, by both -/
theorem app_ok {M L st k n E : Nat} {C C' A A' : Nat → Int32} (hM : M ≤ 128) (hL : L ≤ M) (hs : 1 ≤ st ∧ st ≤ 8) (hk : k < 5) (hC : RelY M C C') (hA : RelY M A A') (hn : 300 < n) {eF gF kF mK : Nat → Int32} (hE : E + 1 + L ≤ 2078) (hR : RelE E eF gF) (hK : RelK kF mK) (R R' : Nat → Int32) (y1 y2 y3 y4 y5 y7 y8 : Int32) : ∃ R2 R2' eF' gF' kF' : Nat → Int32, f_X4_appendLine n (nI st) M R M C M A (nI L) 2078 eF (nI E) 5 kF (nI k) = some (R2, eF', nI (E + 1 + L), kF') ∧ f_X5_filter n (nI st) 140 C' 140 A' 140 R' (nI k) (nI L) = some R2' ∧ fl_X5_encode_207 n 140 R2' 4000 (upd gF E (nI k)) (nI (E + 1)) y1 y2 y3 y4 y5 (nI L) y7 y8 0 = some (nI L, gF', nI (E + 1 + L)) ∧ RelE (E + 1 + L) eF' gF' ∧ RelK kF' (upd mK k (mK k + 1)) := by
  have c10 : ¬ (1 : Int32) = 0 := by decide
  obtain ⟨R2, R2', f1, f2, f3⟩ := filter_ok hM hL hs hk hC hA (n := n) (n' := n) (by omega) (by omega) R R'
  obtain ⟨eF', gF', i1, i2, i3⟩ := lay_ok hM hL f3 (nI k) y1 y2 y3 y4 y5 y7 y8 L n 0 (E + 1) _ _ (by omega) (by omega) hE (hR.put (v := k) (by omega))
  rw [nI_0] at i1 i2
  refine ⟨R2, R2', eF', gF', upd kF k (kF k + 1), ?_, f2, i2, i3, fun j hj => ?_⟩
  · unfold f_X4_appendLine
    rw [isKind_ok n hk, xb_some, if_neg c10, xin_nI hk (by decide), xin_nI hk (by decide), f1, xb_some, append_ok n (by omega), xb_some]
    dsimp only
    rw [i1, xb_some, nI_clamp (by omega)]
  · by_cases e : j = k
    · rw [e, pk_us, pk_us, hK k hk]
    · rw [pk_un e, pk_un e, hK j hj]
