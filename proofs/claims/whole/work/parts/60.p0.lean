/-! ===== pure part: small rows ===== -/
theorem xin_nI {α : Type} {i N : Nat} {k : Option α} (h : i < N) (hN : N < 2 ^ 31) : xin (nI i) N k = k := by
  unfold xin
  exact if_neg (nI_in h hN)
theorem xin_ok {α : Type} {x : Int32} {i N : Nat} {k : Option α} (e : x = nI i) (h : i < N) (hN : N < 2 ^ 31) : xin x N k = k := by rw [e]; exact xin_nI h hN
theorem xb_some {α β : Type} (x : α) (k : α → Option β) : xb (some x) k = k x := rfl
theorem xb_of {α β : Type} {o : Option α} {x : α} (k : α → Option β) (h : o = some x) : xb o k = k x := by rw [h]; rfl
theorem xl_eq {α β : Type} (x : α) (k : α → Option β) : xl x k = k x := rfl
theorem xnz_ok {α : Type} {y : Int32} {k : Option α} (h : y ≠ 0) : xnz y k = k := if_neg h
theorem xr_some {α : Type} (x : α) : xr (some x) = some (.inr x) := rfl
theorem xnewn_ok {α : Type} {x : Int32} {i b : Nat} {k : Option α} (e : x = nI i) (h : i ≤ b) (hb : b < 2 ^ 31) : xnewn x b k = k := by
  unfold xnewn
  rw [e, nI_clamp (by omega)]
  exact if_neg (fun q => by
    rcases q with q | q
    · exact nI_pos (by omega) q
    · omega)
theorem nI8 : (8 : Int32) = nI 8 := by decide
theorem nI7 : (7 : Int32) = nI 7 := by decide
theorem nI_lt0 {i : Nat} (h : i < 2 ^ 31) : ¬ nI i < 0 := nI_pos h
theorem nI_z {i : Nat} (h : i < 2 ^ 31) : nI i = 0 ↔ i = 0 := by
  rw [← nI_0]
  exact nI_eq h (by decide)
/-- every int is a number below zero, or a small one -/
theorem i_cases (x : Int32) : x < 0 ∨ ∃ j : Nat, j < 2 ^ 31 ∧ x = nI j := by
  rcases Classical.em (x < 0) with h | h
  · exact Or.inl h
  · exact Or.inr (nI_of h)
/-! filling an array -/
theorem fill_ok (v : Int32) {N : Nat} (hN : N < 2 ^ 31) : ∀ (k n i : Nat) (F : Nat → Int32), i + k = N → k < n → ∃ G : Nat → Int32, fl_JA_fill_5 n N F v (nI i) (nI N) = some (nI N, G) ∧ (∀ j, i ≤ j → j < N → G j = v) ∧ (∀ j, j < i ∨ N ≤ j → G j = F j) := by
  intro k
  induction k with
  | zero =>
    intro n i F h1 h2
    obtain ⟨n, rfl⟩ : ∃ m, n = m + 1 := ⟨n - 1, by omega⟩
    refine ⟨F, ?_, fun j a b => by omega, fun j _ => rfl⟩
    rw [fl_JA_fill_5]
    have : i = N := by omega
    subst this
    rw [if_pos (nI_le (Nat.le_refl _) hN)]
  | succ k ih =>
    intro n i F h1 h2
    obtain ⟨n, rfl⟩ : ∃ m, n = m + 1 := ⟨n - 1, by omega⟩
    obtain ⟨G, e, g1, g2⟩ := ih n (i + 1) (upd F i v) (by omega) (by omega)
    refine ⟨G, ?_, fun j a b => ?_, fun j a => ?_⟩
    · rw [fl_JA_fill_5, if_neg (nI_ge (by omega) hN), xin_nI (by omega) hN, nI_clamp (by omega), nI_1]
      exact e
    · rcases Nat.eq_or_lt_of_le a with h | h
      · rw [g2 j (Or.inl (by omega)), ← h, pk_us]
      · exact g1 j h b
    · rw [g2 j (by omega), pk_un (by omega)]
theorem f_fill_ok (v : Int32) {N n : Nat} (F : Nat → Int32) (hN : N < 2 ^ 31) (hn : N < n) : ∃ G : Nat → Int32, f_JA_fill n N F v = some G ∧ (∀ j, j < N → G j = v) ∧ (∀ j, N ≤ j → G j = F j) := by
  obtain ⟨G, e, g1, g2⟩ := fill_ok v hN N n 0 F (by omega) hn
  refine ⟨G, ?_, fun j h => g1 j (Nat.zero_le _) h, fun j h => g2 j (Or.inr h)⟩
  unfold f_JA_fill
  rw [nI_0] at e
  rw [e]
  rfl
/-! ===== geometry of the passes: finite tables, by trying all ===== -/
def gFC (p : Nat) : Nat := [0, 0, 4, 0, 2, 0, 1, 0].getD p 0
def gCS (p : Nat) : Nat := [1, 8, 8, 4, 4, 2, 2, 1].getD p 1
def gFR (p : Nat) : Nat := [0, 0, 0, 4, 0, 2, 0, 1].getD p 0
def gRS (p : Nat) : Nat := [1, 8, 8, 8, 4, 4, 2, 2].getD p 1
def gCols (w p : Nat) : Nat := if w ≤ gFC p then 0 else (w - 1 - gFC p) / gCS p + 1
def gRows (h p : Nat) : Nat := if h ≤ gFR p then 0 else (h - 1 - gFR p) / gRS p + 1
def gLines (w h p : Nat) : Nat := if gCols w p = 0 then 0 else gRows h p
def gLB (w h ch bt p : Nat) : Nat := if gLines w h p = 0 then 0 else (gCols w p * ch * bt + 7) / 8
theorem columnsOf_ok : ∀ w, w < 17 → ∀ p, p < 8 → 1 ≤ w → f_X2_columnsOf 0 (nI w) (nI p) = some (nI (gCols w p)) := by decide +kernel
theorem rowsOf_ok : ∀ w, w < 17 → ∀ p, p < 8 → 1 ≤ w → f_X2_rowsOf 0 (nI w) (nI p) = some (nI (gRows w p)) := by decide +kernel
theorem columnsOf_fuel (n : Nat) (a b : Int32) : f_X2_columnsOf n a b = f_X2_columnsOf 0 a b := rfl
theorem rowsOf_fuel (n : Nat) (a b : Int32) : f_X2_rowsOf n a b = f_X2_rowsOf 0 a b := rfl
theorem gCols_le : ∀ w, w < 17 → ∀ p, p < 8 → gCols w p ≤ 16 := by decide +kernel
theorem gRows_le : ∀ w, w < 17 → ∀ p, p < 8 → gRows w p ≤ 16 := by decide +kernel
