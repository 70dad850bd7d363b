/-! ===== the palette and its order ===== -/
def gD (a b : Nat) : Nat := (a - b) + (b - a)
def gSum (v : Nat) : Nat := v / 65536 + v / 256 % 256 + v % 256
def gDist (u v : Nat) : Nat := gD (u / 65536) (v / 65536) * gD (u / 65536) (v / 65536) + gD (u / 256 % 256) (v / 256 % 256) * gD (u / 256 % 256) (v / 256 % 256) + gD (u % 256) (v % 256) * gD (u % 256) (v % 256)
def gFr (col : Nat → Nat) (l : Option Nat) (k : Nat) : Nat := match l with
  | none => gSum (col k)
  | some j => gDist (col k) (col j)
def gB (fr : Nat → Nat) (pl : Nat → Bool) : Nat → Option Nat
  | 0 => none
  | y + 1 => if pl y = true then gB fr pl y else match gB fr pl y with
    | none => some y
    | some b => if fr y < fr b then some y else some b
def gSt (col : Nat → Nat) (E : Nat) : Nat → (Nat → Bool) × Option Nat
  | 0 => (fun _ => false, none)
  | j + 1 => (fun k => (gSt col E j).1 k || k == (gB (gFr col (gSt col E j).2) (gSt col E j).1 E).getD 0, some ((gB (gFr col (gSt col E j).2) (gSt col E j).1 E).getD 0))
def gCnt (pl : Nat → Bool) : Nat → Nat
  | 0 => 0
  | y + 1 => gCnt pl y + (if pl y = true then 0 else 1)
theorem gB_some {fr : Nat → Nat} {pl : Nat → Bool} : ∀ (y b : Nat), gB fr pl y = some b → b < y ∧ pl b = false := by
  intro y
  induction y with
  | zero => intro b h; rw [gB] at h; cases h
  | succ y ih =>
    intro b h
    rw [gB] at h
    split at h
    · have := ih b h
      exact ⟨by omega, this.2⟩
    · rename_i hp
      have hp' : pl y = false := Bool.eq_false_iff.mpr hp
      split at h
      · obtain rfl := Option.some.inj h
        exact ⟨by omega, hp'⟩
      · rename_i c hc
        split at h
        · obtain rfl := Option.some.inj h
          exact ⟨by omega, hp'⟩
        · obtain rfl := Option.some.inj h
          have := ih _ hc
          exact ⟨by omega, this.2⟩
theorem gB_none {fr : Nat → Nat} {pl : Nat → Bool} : ∀ (y : Nat), gB fr pl y = none → gCnt pl y = 0 := by
  intro y
  induction y with
  | zero => intro _; rfl
  | succ y ih =>
    intro h
    rw [gB] at h
    rw [gCnt]
    split at h
    · rename_i hp
      rw [ih h, if_pos hp]
    · split at h
      · cases h
      · split at h <;> cases h
theorem gCnt_out {pl : Nat → Bool} {b : Nat} : ∀ (y : Nat), y ≤ b → gCnt (fun k => pl k || k == b) y = gCnt pl y := by
  intro y
  induction y with
  | zero => intro _; rfl
  | succ y ih =>
    intro h
    rw [gCnt, gCnt, ih (by omega)]
    have : (y == b) = false := by
      rw [beq_eq_false_iff_ne]; omega
    simp only [this, Bool.or_false]
theorem gCnt_in {pl : Nat → Bool} {b : Nat} (hb : pl b = false) : ∀ (y : Nat), b < y → gCnt (fun k => pl k || k == b) y + 1 = gCnt pl y := by
  intro y
  induction y with
  | zero => intro h; omega
  | succ y ih =>
    intro h
    rw [gCnt, gCnt]
    rcases Nat.eq_or_lt_of_le (Nat.le_of_lt_succ h) with e | e
    · subst e
      rw [gCnt_out b (Nat.le_refl _)]
      simp [hb]
    · have h2 := ih e
      have : (y == b) = false := by
        rw [beq_eq_false_iff_ne]; omega
      simp only [this, Bool.or_false]
      omega
theorem gCnt_all (E : Nat) : gCnt (fun _ => false) E = E := by
  induction E with
  | zero => rfl
  | succ E ih => rw [gCnt, ih]; rfl
theorem gSt_cnt {col : Nat → Nat} {E : Nat} : ∀ j, j ≤ E → gCnt (gSt col E j).1 E + j = E := by
  intro j
  induction j with
  | zero => intro _; rw [gSt, gCnt_all]; rfl
  | succ j ih =>
    intro h
    have h1 := ih (by omega)
    cases hb : gB (gFr col (gSt col E j).2) (gSt col E j).1 E with
    | none =>
      have := gB_none E hb
      omega
    | some b =>
      obtain ⟨h2, h3⟩ := gB_some E b hb
      have h4 := gCnt_in h3 E h2
      rw [gSt, hb]
      simp only [Option.getD_some]
      omega
theorem gSt_next {col : Nat → Nat} {E j : Nat} (h : j < E) : ∃ b, gB (gFr col (gSt col E j).2) (gSt col E j).1 E = some b ∧ b < E ∧ (gSt col E j).1 b = false ∧ gSt col E (j + 1) = (fun k => (gSt col E j).1 k || k == b, some b) := by
  have h1 := gSt_cnt (col := col) j (by omega : j ≤ E)
  cases hb : gB (gFr col (gSt col E j).2) (gSt col E j).1 E with
  | none =>
    have := gB_none E hb
    omega
  | some b =>
    obtain ⟨h2, h3⟩ := gB_some E b hb
    refine ⟨b, rfl, h2, h3, ?_⟩
    rw [gSt, hb]; rfl
theorem gD_le {a b : Nat} (ha : a < 256) (hb : b < 256) : gD a b * gD a b ≤ 65025 := by
  have h : gD a b ≤ 255 := by unfold gD; omega
  exact Nat.mul_le_mul h h
theorem gFr_le {col : Nat → Nat} {E k : Nat} {l : Option Nat} (hc : ∀ i, i < E → col i < 16777216) (hk : k < E) (hl : ∀ j, l = some j → j < E) : gFr col l k ≤ 195075 := by
  have h1 := hc k hk
  cases l with
  | none => show gSum (col k) ≤ 195075; unfold gSum; omega
  | some j =>
    have h2 := hc j (hl j rfl)
    show gDist (col k) (col j) ≤ 195075
    unfold gDist
    have a1 := gD_le (a := col k / 65536) (b := col j / 65536) (by omega) (by omega)
    have a2 := gD_le (a := col k / 256 % 256) (b := col j / 256 % 256) (by omega) (by omega)
    have a3 := gD_le (a := col k % 256) (b := col j % 256) (by omega) (by omega)
    omega
theorem sq_ok {a b : Nat} : (nI a - nI b) * (nI a - nI b) = nI (gD a b * gD a b) := by
  unfold gD
  rcases Nat.le_total b a with h | h
  · rw [pk_sub h, pk_mul, show b - a = 0 by omega, Nat.add_zero]
  · have : nI a - nI b = -(nI (b - a)) := by rw [← pk_sub h, Int32.neg_sub]
    rw [this, Int32.neg_mul_neg, pk_mul, show a - b = 0 by omega, Nat.zero_add]
theorem partA {v : Nat} (h : v < 16777216) : nI v >>> ((16 : Int32) &&& 31) = nI (v / 65536) := pk_shrN (by omega) _ 16 (by decide)
theorem partB {v : Nat} (h : v < 16777216) : (nI v >>> ((8 : Int32) &&& 31)) &&& (255 : Int32) = nI (v / 256 % 256) := by
  rw [pk_shrN (by omega) _ 8 (by decide), pk_andN (by omega) 8 (by decide)]
theorem partC {v : Nat} (h : v < 16777216) : nI v &&& (255 : Int32) = nI (v % 256) := pk_andN (by omega) 8 (by decide)
theorem farness_ok (m : Nat) {col : Nat → Nat} {E k j : Nat} {oCol oNum : Nat → Int32} {l : Option Nat} (hE : E ≤ 64) (hc : ∀ i, i < E → col i < 16777216 ∧ oCol i = nI (col i)) (hk : k < E) (hj : j < 64) (hl : (j = 0 ∧ l = none) ∨ (0 < j ∧ ∃ b, b < E ∧ l = some b ∧ oNum (j - 1) = nI b)) : f_X1_farness m 64 oCol 64 oNum (nI k) (nI j) = some (nI (gFr col l k)) := by
  unfold f_X1_farness
  obtain ⟨c1, c2⟩ := hc k hk
  rcases hl with ⟨rfl, rfl⟩ | ⟨h0, b, hb, rfl, hn⟩
  · rw [if_pos (by decide), xin_nI (by omega) (by decide), nI_clamp (by omega), c2]
    unfold f_X1_sumOfParts
    rw [partA c1, partB c1, partC c1, xb_some, nI_add, nI_add]; rfl
  · obtain ⟨d1, d2⟩ := hc b hb
    rw [if_neg (by rw [nI_z (by omega)]; omega), xin_nI (by omega) (by decide), nI1, pk_sub h0, xin_nI (by omega) (by decide), nI_clamp (show j - 1 < 2 ^ 31 by omega), hn, xin_nI (by omega) (by decide), nI_clamp (by omega), nI_clamp (by omega), c2, d2]
    unfold f_X1_distance
    rw [xl_eq, xl_eq, xl_eq, partA c1, partA d1, partB c1, partB d1, partC c1, partC d1, sq_ok, sq_ok, sq_ok, xb_some, nI_add, nI_add]; rfl
theorem mpart_ok (m : Nat) {col : Nat → Nat} {E k : Nat} {oCol : Nat → Int32} (hE : E ≤ 64) (hc : ∀ i, i < E → col i < 16777216 ∧ oCol i = nI (col i)) (hk : k < E) : f_X5_part m 64 oCol (nI k) 0 = some (nI (col k / 65536)) ∧ f_X5_part m 64 oCol (nI k) 1 = some (nI (col k / 256 % 256)) ∧ f_X5_part m 64 oCol (nI k) 2 = some (nI (col k % 256)) := by
  obtain ⟨c1, c2⟩ := hc k hk
  refine ⟨?_, ?_, ?_⟩
  · unfold f_X5_part
    rw [xin_nI (by omega) (by decide), nI_clamp (by omega), c2, pk_shrN (by omega) _ 16 (by decide), pk_andN (by omega) 8 (by decide), Nat.mod_eq_of_lt (by omega)]
  · unfold f_X5_part
    rw [xin_nI (by omega) (by decide), nI_clamp (by omega), c2, pk_shrN (by omega) _ 8 (by decide), pk_andN (by omega) 8 (by decide)]
  · unfold f_X5_part
    rw [xin_nI (by omega) (by decide), nI_clamp (by omega), c2, pk_shrN (by omega) _ 0 (by decide), pk_andN (by omega) 8 (by decide), Nat.pow_zero, Nat.div_one]
def lastI (l : Option Nat) : Int32 := match l with
  | none => -1
  | some b => nI b
theorem mfar_ok (m : Nat) (hm : 4 ≤ m) {col : Nat → Nat} {E k : Nat} {oCol : Nat → Int32} {l : Option Nat} (hE : E ≤ 64) (hc : ∀ i, i < E → col i < 16777216 ∧ oCol i = nI (col i)) (hk : k < E) (hl : ∀ b, l = some b → b < E) : f_X5_far m 64 oCol (nI k) (lastI l) = some (nI (gFr col l k)) := by
  obtain ⟨m, rfl⟩ : ∃ q, m = q + 4 := ⟨m - 4, by omega⟩
  have e3 : ¬ (3 : Int32) ≤ 0 := by decide
  have e31 : ¬ (3 : Int32) ≤ 1 := by decide
  have e32 : ¬ (3 : Int32) ≤ 2 := by decide
  have e33 : (3 : Int32) ≤ 3 := by decide
  have a1 : (0 : Int32) + 1 = 1 := by decide
  have a2 : (1 : Int32) + 1 = 2 := by decide
  have a3 : (2 : Int32) + 1 = 3 := by decide
  cases l with
  | none =>
    have g : ¬ (0 : Int32) ≤ lastI none := by decide
    unfold f_X5_far
    rw [fl_X5_far_5, if_neg e3, if_neg g, (mpart_ok _ hE hc hk).1, xb_some, if_neg g, a1, fl_X5_far_5, if_neg e31, if_neg g, (mpart_ok _ hE hc hk).2.1, xb_some, if_neg g, a2, fl_X5_far_5, if_neg e32, if_neg g, (mpart_ok _ hE hc hk).2.2, xb_some, if_neg g, a3, fl_X5_far_5, if_pos e33, xb_some, Int32.zero_add, nI_add, nI_add]
    rfl
  | some b =>
    have hb := hl b rfl
    have g : (0 : Int32) ≤ lastI (some b) := nI_pos' (by omega)
    have p1 := mpart_ok (m + 3) hE hc hb
    have p2 := mpart_ok (m + 2) hE hc hb
    have p3 := mpart_ok (m + 1) hE hc hb
    unfold f_X5_far
    rw [fl_X5_far_5, if_neg e3, if_pos g, (mpart_ok _ hE hc hk).1, xb_some, show lastI (some b) = nI b from rfl, p1.1, xb_some, if_pos (nI_pos' (by omega)), xl_eq, a1, fl_X5_far_5, if_neg e31, if_pos (nI_pos' (by omega)), (mpart_ok _ hE hc hk).2.1, xb_some, p2.2.1, xb_some, if_pos (nI_pos' (by omega)), xl_eq, a2, fl_X5_far_5, if_neg e32, if_pos (nI_pos' (by omega)), (mpart_ok _ hE hc hk).2.2, xb_some, p3.2.2, xb_some, if_pos (nI_pos' (by omega)), xl_eq, a3, fl_X5_far_5, if_pos e33, xb_some, Int32.zero_add, sq_ok, sq_ok, sq_ok, nI_add, nI_add]
    rfl
