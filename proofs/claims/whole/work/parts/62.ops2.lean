/-! ===== places ===== -/
theorem idx_lt {w h ch i j k : Nat} (hi : i < w) (hj : j < h) (hk : k < ch) : (j * w + i) * ch + k < w * h * ch := by
  have h1 : j * w + i < w * h := by
    have : (j + 1) * w ≤ h * w := Nat.mul_le_mul_right w hj
    rw [Nat.add_mul, Nat.one_mul] at this
    rw [Nat.mul_comm w h]; omega
  have h2 : (j * w + i + 1) * ch ≤ w * h * ch := Nat.mul_le_mul_right ch h1
  rw [Nat.add_mul, Nat.one_mul] at h2
  omega
theorem pair_inj {a b a' b' m : Nat} (hb : b < m) (hb' : b' < m) (h : a * m + b = a' * m + b') : a = a' ∧ b = b' := by
  have hm : 0 < m := by omega
  have h1 : (a * m + b) / m = a := by rw [Nat.mul_comm, Nat.mul_add_div hm, Nat.div_eq_of_lt hb]; rfl
  have h2 : (a' * m + b') / m = a' := by rw [Nat.mul_comm, Nat.mul_add_div hm, Nat.div_eq_of_lt hb']; rfl
  have h3 : a = a' := by rw [← h1, ← h2, h]
  subst h3
  exact ⟨rfl, by omega⟩
theorem idx_inj {w ch i j k i' j' k' : Nat} (hi : i < w) (hk : k < ch) (hi' : i' < w) (hk' : k' < ch) (h : (j * w + i) * ch + k = (j' * w + i') * ch + k') : i = i' ∧ j = j' ∧ k = k' := by
  obtain ⟨h1, h2⟩ := pair_inj hk hk' h
  obtain ⟨h3, h4⟩ := pair_inj hi hi' h1
  exact ⟨h4, h3, h2⟩
theorem whc_le {w h ch : Nat} (hw : w ≤ 16) (hh : h ≤ 16) (hc : ch ≤ 4) : w * h * ch ≤ 1024 :=
  Nat.le_trans (Nat.mul_le_mul (Nat.mul_le_mul hw hh) hc) (by decide)
theorem most_ok {bt : Nat} (h : bt = 1 ∨ bt = 2 ∨ bt = 4 ∨ bt = 8 ∨ bt = 16) : ((1 : Int32) <<< (nI bt &&& 31)) - (1 : Int32) = nI (2 ^ bt - 1) := by
  rcases h with rfl | rfl | rfl | rfl | rfl <;> decide
theorem bt_le {bt : Nat} (h : bt = 1 ∨ bt = 2 ∨ bt = 4 ∨ bt = 8 ∨ bt = 16) : 1 ≤ bt ∧ bt ≤ 16 ∧ 2 ≤ 2 ^ bt ∧ 2 ^ bt ≤ 65536 := by
  rcases h with rfl | rfl | rfl | rfl | rfl <;> decide
theorem idx_nI (w ch i j k : Nat) : ((nI j * nI w) + nI i) * nI ch + nI k = nI ((j * w + i) * ch + k) := by rw [pk_mul, nI_add, pk_mul, nI_add]
theorem place_nI (n i j : Nat) : f_X5_place n (nI i) (nI j) = some (nI (4 * (16 * j + i))) := by
  unfold f_X5_place
  rw [show (4 : Int32) = nI 4 by decide, show (16 : Int32) = nI 16 by decide, pk_mul, nI_add, pk_mul]
theorem sample_cases {n w h ch : Nat} (hw : 1 ≤ w ∧ w ≤ 16) (hh : 1 ≤ h ∧ h ≤ 16) (hc : 1 ≤ ch ∧ ch ≤ 4) (x y c : Int32) :
    (∃ i j k : Nat, i < w ∧ j < h ∧ k < ch ∧ x = nI i ∧ y = nI j ∧ c = nI k ∧ f_X2_hasSample n (nI w) (nI h) (nI ch) x y c = some 1 ∧ f_X5_isSample n (nI w) (nI h) (nI ch) x y c = some 1) ∨
    (f_X2_hasSample n (nI w) (nI h) (nI ch) x y c = some 0 ∧ f_X5_isSample n (nI w) (nI h) (nI ch) x y c = some 0) := by
  have c10 : ¬ (1 : Int32) = 0 := by decide
  rcases i_cases x with hx | ⟨i, hi, rfl⟩
  · right
    constructor
    · unfold f_X2_hasSample; rw [if_pos hx]
    · unfold f_X5_isSample; rw [in_lt hx, xb_some, if_pos rfl]
  rcases Nat.lt_or_ge i w with hiw | hiw
  case inr =>
    right
    constructor
    · unfold f_X2_hasSample; rw [if_neg (nI_pos hi), if_pos (nI_le hiw hi)]
    · unfold f_X5_isSample; rw [in_gt ((nI_m1_lt (by omega) hi).mpr hiw), xb_some, if_pos rfl]
  rcases i_cases y with hy | ⟨j, hj, rfl⟩
  · right
    constructor
    · unfold f_X2_hasSample; rw [if_neg (nI_pos hi), if_neg (nI_ge hiw (by omega)), if_pos hy]
    · unfold f_X5_isSample; rw [in_ok (nI_pos hi) (by rw [nI_m1_lt (by omega) hi]; omega), xb_some, if_neg c10, in_lt hy, xb_some, if_pos rfl]
  rcases Nat.lt_or_ge j h with hjh | hjh
  case inr =>
    right
    constructor
    · unfold f_X2_hasSample; rw [if_neg (nI_pos hi), if_neg (nI_ge hiw (by omega)), if_neg (nI_pos hj), if_pos (nI_le hjh hj)]
    · unfold f_X5_isSample; rw [in_ok (nI_pos hi) (by rw [nI_m1_lt (by omega) hi]; omega), xb_some, if_neg c10, in_gt ((nI_m1_lt (by omega) hj).mpr hjh), xb_some, if_pos rfl]
  rcases i_cases c with hz | ⟨k, hk, rfl⟩
  · right
    constructor
    · unfold f_X2_hasSample; rw [if_neg (nI_pos hi), if_neg (nI_ge hiw (by omega)), if_neg (nI_pos hj), if_neg (nI_ge hjh (by omega)), if_pos hz]
    · unfold f_X5_isSample; rw [in_ok (nI_pos hi) (by rw [nI_m1_lt (by omega) hi]; omega), xb_some, if_neg c10, in_ok (nI_pos hj) (by rw [nI_m1_lt (by omega) hj]; omega), xb_some, if_neg c10, in_lt hz, xb_some, if_pos rfl]
  rcases Nat.lt_or_ge k ch with hkc | hkc
  case inr =>
    right
    constructor
    · unfold f_X2_hasSample; rw [if_neg (nI_pos hi), if_neg (nI_ge hiw (by omega)), if_neg (nI_pos hj), if_neg (nI_ge hjh (by omega)), if_neg (nI_pos hk), if_pos (nI_le hkc hk)]
    · unfold f_X5_isSample; rw [in_ok (nI_pos hi) (by rw [nI_m1_lt (by omega) hi]; omega), xb_some, if_neg c10, in_ok (nI_pos hj) (by rw [nI_m1_lt (by omega) hj]; omega), xb_some, if_neg c10, in_gt ((nI_m1_lt (by omega) hk).mpr hkc), xb_some, if_pos rfl]
  left
  refine ⟨i, j, k, hiw, hjh, hkc, rfl, rfl, rfl, ?_, ?_⟩
  · unfold f_X2_hasSample; rw [if_neg (nI_pos hi), if_neg (nI_ge hiw (by omega)), if_neg (nI_pos hj), if_neg (nI_ge hjh (by omega)), if_neg (nI_pos hk), if_neg (nI_ge hkc (by omega))]
  · unfold f_X5_isSample; rw [in_ok (nI_pos hi) (by rw [nI_m1_lt (by omega) hi]; omega), xb_some, if_neg c10, in_ok (nI_pos hj) (by rw [nI_m1_lt (by omega) hj]; omega), xb_some, if_neg c10, in_ok (nI_pos hk) (by rw [nI_m1_lt (by omega) hk]; omega), xb_some, if_neg c10]
theorem RelS.put {w h ch bt i j k v : Nat} {oS mS : Nat → Int32} (hR : RelS w h ch bt oS mS) (hi : i < w) (hw : w ≤ 16) (hk : k < ch) (hc : ch ≤ 4) (hv : v < 2 ^ bt) : RelS w h ch bt (upd oS ((j * w + i) * ch + k) (nI v)) (upd mS (4 * (16 * j + i) + k) (nI v)) := by
  intro y hy x hx c hcc
  by_cases e : x = i ∧ y = j ∧ c = k
  · obtain ⟨rfl, rfl, rfl⟩ := e
    exact ⟨v, hv, pk_us, pk_us⟩
  · obtain ⟨u, h1, h2, h3⟩ := hR y hy x hx c hcc
    refine ⟨u, h1, ?_, ?_⟩
    · rw [pk_un]; · exact h2
      intro q
      obtain ⟨a1, a2, a3⟩ := idx_inj hx hcc hi hk q
      exact e ⟨a1, a2, a3⟩
    · rw [pk_un]; · exact h3
      intro q
      exact e ⟨by omega, by omega, by omega⟩
/-- at -/
theorem op2 {n w h ch bt : Nat} (hG : Geo w h ch bt) {oS mS : Nat → Int32} (hR : RelS w h ch bt oS mS) (x y c : Int32) (oLF : Nat → Int64) : ∃ (ret b : Int32) (oLF' : Nat → Int64), f_L_at n (nI w) (nI h) (nI ch) (w * h * ch) oS oLF x y c = some (ret, oLF') ∧ f_X5_at n (nI w) (nI h) (nI ch) 1024 mS x y c = some (b, ret) ∧ (ret = 0 → lg_cmp (oLF' ((0 : Int32)).toNatClampNeg) b.toInt64 = 0) := by
  have c1 : ¬ (1 : Int32) ≤ 0 := by decide
  have c0 : (0 : Int32) ≤ 0 := by decide
  have c10 : ¬ (1 : Int32) = 0 := by decide
  obtain ⟨hw1, hw2, hh1, hh2, hc1, hc2, hb, -⟩ := hG
  have hN := whc_le hw2 hh2 hc2
  rcases sample_cases (n := n) ⟨hw1, hw2⟩ ⟨hh1, hh2⟩ ⟨hc1, hc2⟩ x y c with ⟨i, j, k, hi, hj, hk, rfl, rfl, rfl, e1, e2⟩ | ⟨e1, e2⟩
  · obtain ⟨v, hv, h1, h2⟩ := hR j hj i hi k hk
    have hl := idx_lt hi hj hk
    refine ⟨0, nI v, vp_updL oLF ((0 : Int32)).toNatClampNeg (nI v).toInt64, ?_, ?_, fun _ => ?_⟩
    · unfold f_L_at f_X4_at f_X2_sampleAt f_X2_indexOf
      rw [e1, xb_some, if_neg c10, xb_some, if_neg c10, xb_some, idx_nI, xin_nI hl (by omega), nI_clamp (by omega), h1]
      rfl
    · unfold f_X5_at
      rw [e2, xb_some, if_neg c10, if_pos c0, place_nI, xb_some, nI_add, xin_nI (by omega) (by decide), nI_clamp (by omega), h2]
    · rw [out0]; exact lg_same _
  · refine ⟨1, 0, oLF, ?_, ?_, fun q => absurd q c10⟩
    · unfold f_L_at f_X4_at
      rw [e1]; rfl
    · unfold f_X5_at
      rw [e2, xb_some, if_pos rfl, if_neg c1]
/-- put -/
theorem op0 {n w h ch bt : Nat} (hG : Geo w h ch bt) {oS mS : Nat → Int32} (hR : RelS w h ch bt oS mS) (x y c v : Int32) (oLF : Nat → Int64) : ∃ (ret b : Int32) (oLF' : Nat → Int64) (oS' mS' : Nat → Int32), f_L_put n (nI w) (nI h) (nI ch) (nI (2 ^ bt - 1)) (w * h * ch) oS oLF x y c v = some (ret, oS', oLF') ∧ f_X5_put n (nI w) (nI h) (nI bt) (nI ch) 1024 mS x y c v = some (b, ret, mS') ∧ (ret = 0 → lg_cmp (oLF' ((0 : Int32)).toNatClampNeg) b.toInt64 = 0) ∧ RelS w h ch bt oS' mS' := by
  have c1 : ¬ (1 : Int32) ≤ 0 := by decide
  have c2 : ¬ (2 : Int32) ≤ 0 := by decide
  have c0 : (0 : Int32) ≤ 0 := by decide
  have c10 : ¬ (1 : Int32) = 0 := by decide
  have c20 : ¬ (2 : Int32) = 0 := by decide
  obtain ⟨hw1, hw2, hh1, hh2, hc1, hc2, hb, -⟩ := hG
  have hN := whc_le hw2 hh2 hc2
  obtain ⟨-, -, hb1, hb2⟩ := bt_le hb
  have hm := most_ok hb
  rcases sample_cases (n := n) ⟨hw1, hw2⟩ ⟨hh1, hh2⟩ ⟨hc1, hc2⟩ x y c with ⟨i, j, k, hi, hj, hk, rfl, rfl, rfl, e1, e2⟩ | ⟨e1, e2⟩
  · obtain ⟨u, hu, h1, h2⟩ := hR j hj i hi k hk
    have hl := idx_lt hi hj hk
    rcases i_cases v with hv | ⟨q, hq, rfl⟩
    · refine ⟨2, 0, oLF, oS, mS, ?_, ?_, fun q => absurd q c20, hR⟩
      · unfold f_L_put f_X4_put
        rw [e1, xb_some, if_neg c10, if_pos hv]; rfl
      · unfold f_X5_put
        rw [e2, xb_some, if_neg c10, in_lt hv, xb_some, if_pos rfl, if_neg c2]
    · rcases Nat.lt_or_ge q (2 ^ bt) with hqb | hqb
      · refine ⟨0, nI u, vp_updL oLF ((0 : Int32)).toNatClampNeg (nI u).toInt64, upd oS ((j * w + i) * ch + k) (nI q), upd mS (4 * (16 * j + i) + k) (nI q), ?_, ?_, fun _ => ?_, hR.put hi hw2 hk hc2 hqb⟩
        · unfold f_L_put f_X4_put f_X2_replaceSample f_X2_sampleAt f_X2_indexOf
          rw [e1, xb_some, if_neg c10, if_neg (nI_pos hq), if_pos (nI_le (by omega) (by omega)), xb_some, if_neg c10, xb_some, idx_nI, xin_nI hl (by omega), xb_some, xb_some, if_neg c10, xb_some, xin_nI hl (by omega), nI_clamp (by omega), h1]
          rfl
        · unfold f_X5_put
          rw [e2, xb_some, if_neg c10, hm, in_ok (nI_pos hq) (by rw [nI_ltI (by omega) hq]; omega), xb_some, if_neg c10, if_pos c0, place_nI, xb_some, nI_add, xin_nI (by omega) (by decide), xl_eq, xb_some, nI_add, xin_nI (by omega) (by decide), nI_clamp (by omega), h2]
        · rw [out0]; exact lg_same _
      · refine ⟨2, 0, oLF, oS, mS, ?_, ?_, fun q => absurd q c20, hR⟩
        · unfold f_L_put f_X4_put
          rw [e1, xb_some, if_neg c10, if_neg (nI_pos hq), if_neg (nI_ge (by omega) hq)]; rfl
        · unfold f_X5_put
          rw [e2, xb_some, if_neg c10, hm, in_gt (by rw [nI_ltI (by omega) hq]; omega), xb_some, if_pos rfl, if_neg c2]
  · refine ⟨1, 0, oLF, oS, mS, ?_, ?_, fun q => absurd q c10, hR⟩
    · unfold f_L_put f_X4_put
      rw [e1]; rfl
    · unfold f_X5_put
      rw [e2, xb_some, if_pos rfl, if_neg c1]
