/-! ===== the two states side by side ===== -/
def Geo (w h ch bt : Nat) : Prop := 1 ≤ w ∧ w ≤ 16 ∧ 1 ≤ h ∧ h ≤ 16 ∧ 1 ≤ ch ∧ ch ≤ 4 ∧ (bt = 1 ∨ bt = 2 ∨ bt = 4 ∨ bt = 8 ∨ bt = 16) ∧ (1 < ch → 8 ≤ bt)
def RelS (w h ch bt : Nat) (oS mS : Nat → Int32) : Prop := ∀ y, y < h → ∀ x, x < w → ∀ c, c < ch → ∃ v : Nat, v < 2 ^ bt ∧ oS ((y * w + x) * ch + c) = nI v ∧ mS (4 * (16 * y + x) + c) = nI v
/-- bytes one behind the other, E of them, at most b -/
def RelB (b : Nat) (oF : Nat → Int32) (oc : Int32) (mF : Nat → Int32) (mc : Int32) : Prop := ∃ E : Nat, E ≤ b ∧ oc = nI E ∧ mc = nI E ∧ ∀ i, i < E → ∃ v : Nat, v < 256 ∧ oF i = nI v ∧ mF i = nI v
def RelK (oK mK : Nat → Int32) : Prop := ∀ k, k < 5 → oK k = mK k
def RelQ (n : Nat) (sF : Nat → Int32) (cn : Int32) : Prop := ∃ c : Nat, cn = nI c ∧ c + 200 * n ≤ 1000000000 ∧ ∀ j, j < 256 → ∃ s : Nat, s ≤ c ∧ sF j = nI s
theorem lg_same (x : Int64) : lg_cmp x x = 0 := by
  unfold lg_cmp
  simp
theorem out0 (f : Nat → Int64) (x : Int64) : vp_updL f ((0 : Int32)).toNatClampNeg x ((0 : Int32)).toNatClampNeg = x := pk_uLs
theorem in_lt {n : Nat} {x a b : Int32} (h : x < a) : f_X5_in n x a b = some 0 := if_pos h
theorem in_gt {n : Nat} {x a b : Int32} (h : b < x) : f_X5_in n x a b = some 0 := by
  unfold f_X5_in
  rw [if_pos h]
  split <;> rfl
theorem in_ok {n : Nat} {x a b : Int32} (h1 : ¬ x < a) (h2 : ¬ b < x) : f_X5_in n x a b = some 1 := by
  unfold f_X5_in
  rw [if_neg h1, if_neg h2]
theorem nI_m1_lt {E j : Nat} (hE : E < 2 ^ 30) (hj : j < 2 ^ 31) : nI E - 1 < nI j ↔ E ≤ j := by
  cases E with
  | zero =>
    constructor
    · intro _; omega
    · intro _
      rw [nI_0, Int32.lt_iff_toInt_lt, nI_toInt hj]
      have : ((0 : Int32) - 1).toInt = -1 := by decide
      rw [this]; omega
  | succ E => rw [nI_pred, nI_ltI (by omega) hj]; omega
theorem thrown_eq (n : Nat) (x : Int32) : f_X5_thrown n x = some x := rfl
/-- byteAt -/
theorem op7 {n E : Nat} {oE mE : Nat → Int32} (x : Int32) (oLF : Nat → Int64) (hE : E ≤ 2078) (hR : ∀ i, i < E → oE i = mE i) : ∃ (ret b : Int32) (oLF' : Nat → Int64), f_L_byteAt n 2078 oE (nI E) oLF x = some (ret, oLF') ∧ f_X5_byteAt n 4000 mE (nI E) x = some (b, ret) ∧ (ret = 0 → lg_cmp (oLF' ((0 : Int32)).toNatClampNeg) b.toInt64 = 0) := by
  have c1 : ¬ (1 : Int32) ≤ 0 := by decide
  have c0 : (0 : Int32) ≤ 0 := by decide
  have c10 : ¬ (1 : Int32) = 0 := by decide
  rcases i_cases x with h | ⟨j, hj, rfl⟩
  · refine ⟨1, 0, oLF, ?_, ?_, fun q => absurd q c10⟩
    · unfold f_L_byteAt f_X4_byteAt f_X0_hasByte
      rw [if_pos h]; rfl
    · unfold f_X5_byteAt
      rw [in_lt h, xb_some, if_pos rfl, if_neg c1]
  · rcases Nat.lt_or_ge j E with hjE | hjE
    · refine ⟨0, mE j, vp_updL oLF ((0 : Int32)).toNatClampNeg (oE j).toInt64, ?_, ?_, fun _ => ?_⟩
      · unfold f_L_byteAt f_X4_byteAt f_X0_byteOf f_X0_hasByte
        rw [if_neg (nI_pos hj), if_neg (nI_ge hjE (by omega)), xb_some, if_neg c10, xb_some, if_neg c10, xin_nI (by omega) (by decide), nI_clamp hj]
        rfl
      · unfold f_X5_byteAt
        rw [in_ok (nI_pos hj) (by rw [nI_m1_lt (by omega) hj]; omega), xb_some, if_neg c10, if_pos c0, xin_nI (by omega) (by decide), nI_clamp hj]
      · rw [out0, hR j hjE]; exact lg_same _
    · refine ⟨1, 0, oLF, ?_, ?_, fun q => absurd q c10⟩
      · unfold f_L_byteAt f_X4_byteAt f_X0_hasByte
        rw [if_neg (nI_pos hj), if_pos (nI_le hjE hj)]; rfl
      · unfold f_X5_byteAt
        rw [in_gt ((nI_m1_lt (by omega) hj).mpr hjE), xb_some, if_pos rfl, if_neg c1]
/-- chosen -/
theorem op8 {n : Nat} {oK mK : Nat → Int32} (x : Int32) (oLF : Nat → Int64) (hR : RelK oK mK) : ∃ (ret b : Int32) (oLF' : Nat → Int64), f_L_chosen n 5 oK oLF x = some (ret, oLF') ∧ f_X5_chosen n 5 mK x = some (b, ret) ∧ (ret = 0 → lg_cmp (oLF' ((0 : Int32)).toNatClampNeg) b.toInt64 = 0) := by
  have c1 : ¬ (1 : Int32) ≤ 0 := by decide
  have c0 : (0 : Int32) ≤ 0 := by decide
  have c10 : ¬ (1 : Int32) = 0 := by decide
  have e4 : (4 : Int32) = nI 4 := by decide
  rcases i_cases x with h | ⟨j, hj, rfl⟩
  · refine ⟨1, 0, oLF, ?_, ?_, fun q => absurd q c10⟩
    · unfold f_L_chosen f_X4_chosen f_X4_isKind
      rw [if_pos h]; rfl
    · unfold f_X5_chosen
      rw [in_lt h, xb_some, if_pos rfl, if_neg c1]
  · rcases Nat.lt_or_ge j 5 with hjE | hjE
    · refine ⟨0, mK j, vp_updL oLF ((0 : Int32)).toNatClampNeg (oK j).toInt64, ?_, ?_, fun _ => ?_⟩
      · unfold f_L_chosen f_X4_chosen f_X4_isKind
        rw [if_neg (nI_pos hj), if_neg (by rw [e4, nI_ltI (by decide) hj]; omega), xb_some, if_neg c10, xin_nI (by omega) (by decide), nI_clamp hj]
        rfl
      · unfold f_X5_chosen
        rw [in_ok (nI_pos hj) (by rw [e4, nI_ltI (by decide) hj]; omega), xb_some, if_neg c10, if_pos c0, xin_nI (by omega) (by decide), nI_clamp hj]
      · rw [out0, hR j hjE]; exact lg_same _
    · refine ⟨1, 0, oLF, ?_, ?_, fun q => absurd q c10⟩
      · unfold f_L_chosen f_X4_chosen f_X4_isKind
        rw [if_neg (nI_pos hj), if_pos (by rw [e4, nI_ltI (by decide) hj]; omega)]; rfl
      · unfold f_X5_chosen
        rw [in_gt (by rw [e4, nI_ltI (by decide) hj]; omega), xb_some, if_pos rfl, if_neg c1]
/-- feed -/
theorem op9 {n : Nat} {oU mU : Nat → Int32} {oc mc : Int32} (x : Int32) (oLF : Nat → Int64) (hU : RelB 4000 oU oc mU mc) : ∃ (ret b : Int32) (oLF' : Nat → Int64) (oU' mU' : Nat → Int32) (oc' mc' : Int32), f_L_feed n 4000 oU oc oLF x = some (ret, oU', oc', oLF') ∧ f_X5_feed n 4000 mU mc x = some (b, ret, mU', mc') ∧ (ret = 0 → lg_cmp (oLF' ((0 : Int32)).toNatClampNeg) b.toInt64 = 0) ∧ RelB 4000 oU' oc' mU' mc' := by
  have c1 : ¬ (1 : Int32) ≤ 0 := by decide
  have c2 : ¬ (2 : Int32) ≤ 0 := by decide
  have c0 : (0 : Int32) ≤ 0 := by decide
  have c10 : ¬ (1 : Int32) = 0 := by decide
  have c20 : ¬ (2 : Int32) = 0 := by decide
  have e255 : (255 : Int32) = nI 255 := by decide
  have e4000 : (4000 : Int32) = nI 4000 := by decide
  obtain ⟨E, hE, rfl, rfl, hF⟩ := id hU
  rcases i_cases x with h | ⟨j, hj, rfl⟩
  · refine ⟨1, 0, oLF, oU, mU, nI E, nI E, ?_, ?_, fun q => absurd q c10, hU⟩
    · unfold f_L_feed f_X4_feed
      rw [if_pos h]; rfl
    · unfold f_X5_feed
      rw [in_lt h, xb_some, if_pos rfl, if_neg c1]
  · rcases Nat.lt_or_ge j 256 with hj2 | hj2
    · rcases Nat.lt_or_ge E 4000 with hE2 | hE2
      · refine ⟨0, nI (E + 1), vp_updL oLF ((0 : Int32)).toNatClampNeg (nI (E + 1)).toInt64, upd oU E (nI j), upd mU E (nI j), nI (E + 1), nI (E + 1), ?_, ?_, fun _ => ?_, E + 1, by omega, rfl, rfl, fun i hi => ?_⟩
        · unfold f_L_feed f_X4_feed f_X0_hasRoom f_X0_append
          rw [if_neg (nI_pos hj), if_pos (by rw [e255]; exact nI_le (by omega) (by decide)), pk_sub hE, if_neg (show ¬ nI (4000 - E) < 1 by rw [show (1 : Int32) = nI 1 by decide, nI_ltI (by omega) (by decide)]; omega), xb_some, if_neg c10, if_neg (nI_ge hE2 (by decide)), xin_nI hE2 (by decide), nI_clamp (by omega), nI_1]
          rfl
        · unfold f_X5_feed
          rw [in_ok (nI_pos hj) (by rw [e255, nI_ltI (by decide) hj]; omega), xb_some, if_neg c10, if_neg (by rw [e4000, nI_eq (by omega) (by decide)]; omega), if_pos c0, xin_nI hE2 (by decide), nI_clamp (by omega), nI_1]
        · rw [out0]; exact lg_same _
        · rcases Nat.lt_or_ge i E with h | h
          · rw [pk_un (by omega), pk_un (by omega)]; exact hF i h
          · have : i = E := by omega
            subst this
            rw [pk_us, pk_us]; exact ⟨j, hj2, rfl, rfl⟩
      · have hE3 : E = 4000 := by omega
        subst hE3
        refine ⟨2, 0, oLF, oU, mU, nI 4000, nI 4000, ?_, ?_, fun q => absurd q c20, hU⟩
        · unfold f_L_feed f_X4_feed f_X0_hasRoom
          rw [if_neg (nI_pos hj), if_pos (by rw [e255]; exact nI_le (by omega) (by decide)), pk_sub (Nat.le_refl _), if_pos (show nI (4000 - 4000) < 1 by decide), xb_some, if_pos rfl]
          rfl
        · unfold f_X5_feed
          rw [in_ok (nI_pos hj) (by rw [e255, nI_ltI (by decide) hj]; omega), xb_some, if_neg c10, if_pos e4000.symm, if_neg c2]
    · refine ⟨1, 0, oLF, oU, mU, nI E, nI E, ?_, ?_, fun q => absurd q c10, hU⟩
      · unfold f_L_feed f_X4_feed
        rw [if_neg (nI_pos hj), if_neg (by rw [e255]; exact nI_ge (by omega) hj)]; rfl
      · unfold f_X5_feed
        rw [in_gt (by rw [e255, nI_ltI (by decide) hj]; omega), xb_some, if_pos rfl, if_neg c1]
/-- told -/
theorem op15 {n : Nat} (wI hI bI cI sI eI uI pI x : Int32) : ∃ r : Int32, f_X4_told n wI hI bI cI sI eI uI pI x = some r ∧ f_X5_told n wI hI bI cI sI eI uI pI x = some (r, 0) := by
  unfold f_X4_told f_X5_told
  repeat' split
  all_goals exact ⟨_, rfl, rfl⟩
