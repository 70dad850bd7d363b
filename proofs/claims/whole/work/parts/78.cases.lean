/-! ===== the seventeen cases ===== -/
abbrev LawT : Type := Int32 → Int32 → Int32 → Int32 → Int32 → Int32 → Nat → (Nat → Int32) → Nat → (Nat → Int32) → Int32 → Nat → (Nat → Int32) → Int32 → Nat → (Nat → Int32) → Nat → Nat → (Nat → Int32) → Nat → Nat → (Nat → Int32) → Int32 → Nat → (Nat → Int32) → Int32 → Nat → (Nat → Int32) → Int32 → Nat → (Nat → Int32) → Nat → (Nat → Int32) → Nat → (Nat → Int32) → Nat → (Nat → Int32) → Int32 → Int32 → Int32 → Int32 → Int32 → Int32 → Int32 → Nat → (Nat → Int32) → Nat → (Nat → Int32) → Nat → (Nat → Int32) → Nat → (Nat → Int32) → Nat → (Nat → Int32) → Nat → (Nat → Int32) → Nat → (Nat → Int32) → Nat → (Nat → Int32) → Nat → (Nat → Int32) → Nat → (Nat → Int32) → Nat → (Nat → Int32) → Int32 → Nat → (Nat → Int32) → Nat → (Nat → Int32) → Int32 → Nat → (Nat → Int32) → Int32 → (Nat → Int64) → Int32 → Option Unit
def gAt (w h ch bt st : Nat) (a b c d : Nat → Int32) (f : LawT) (oS : Nat → Int32) (oD : Nat → Int32) (sF : Nat → Int32) (cn : Int32) (rF : Nat → Int32) (cur : Nat) (cF : Nat → Int32) (abv : Nat) (aF : Nat → Int32) (len : Int32) (eF : Nat → Int32) (ec : Int32) (uF : Nat → Int32) (uc : Int32) (kF : Nat → Int32) (pC : Nat → Int32) (pN : Nat → Int32) (pP : Nat → Int32) (pc : Int32) (pa : Int32) (mS : Nat → Int32) (mD : Nat → Int32) (lF : Nat → Int32) (bF : Nat → Int32) (tF : Nat → Int32) (dF : Nat → Int32) (gF : Nat → Int32) (mc : Int32) (mK : Nat → Int32) (fF : Nat → Int32) (fc : Int32) (mC : Nat → Int32) (mcc : Int32) (oLF : Nat → Int64) (y : Int32) : Option Unit := f (nI w) (nI h) (nI bt) (nI ch) (nI st) (nI (2 ^ bt - 1)) (w * h * ch) oS (w * h * ch) oD (nI st) 256 sF cn (gLB w h ch bt 0) rF cur (gLB w h ch bt 0) cF abv (gLB w h ch bt 0) aF len 2078 eF ec 4000 uF uc 5 kF 64 pC 64 pN 64 pP pc pa (nI w) (nI h) (nI bt) (nI ch) (nI st) 8 a 8 b 8 c 8 d 1024 mS 1024 mD 140 lF 140 bF 140 tF 256 dF 4000 gF mc 5 mK 4000 fF fc 64 mC mcc oLF y
def Inv (w h ch bt n : Nat) (oS : Nat → Int32) (oD : Nat → Int32) (sF : Nat → Int32) (cn : Int32) (eF : Nat → Int32) (ec : Int32) (uF : Nat → Int32) (uc : Int32) (kF : Nat → Int32) (pC : Nat → Int32) (pN : Nat → Int32) (pP : Nat → Int32) (pc : Int32) (pa : Int32) (mS : Nat → Int32) (mD : Nat → Int32) (gF : Nat → Int32) (mc : Int32) (mK : Nat → Int32) (fF : Nat → Int32) (fc : Int32) (mC : Nat → Int32) (mcc : Int32) : Prop := RelS w h ch bt oS mS ∧ RelS w h ch bt oD mD ∧ RelC (1000000000 - 1000 * n) sF cn ∧ RelB 2078 eF ec gF mc ∧ RelB 4000 uF uc fF fc ∧ RelK kF mK ∧ RelP pC pN pP pc pa mC mcc
theorem case_0 {L y n w h ch bt st : Nat} {xs : Nat → Int32} {a b c d : Nat → Int32} (hL : L ≤ 2564) (hy : y + 5 ≤ L) (hn : 3000 < n) (hn2 : n < 100000) (hG : Geo w h ch bt) (hs : 1 ≤ st ∧ st ≤ 8) (hT : Tab a b c d) (rec : LawT) (hrec : ∀ (oS : Nat → Int32) (oD : Nat → Int32) (sF : Nat → Int32) (cn : Int32) (rF : Nat → Int32) (cur : Nat) (cF : Nat → Int32) (abv : Nat) (aF : Nat → Int32) (len : Int32) (eF : Nat → Int32) (ec : Int32) (uF : Nat → Int32) (uc : Int32) (kF : Nat → Int32) (pC : Nat → Int32) (pN : Nat → Int32) (pP : Nat → Int32) (pc : Int32) (pa : Int32) (mS : Nat → Int32) (mD : Nat → Int32) (lF : Nat → Int32) (bF : Nat → Int32) (tF : Nat → Int32) (dF : Nat → Int32) (gF : Nat → Int32) (mc : Int32) (mK : Nat → Int32) (fF : Nat → Int32) (fc : Int32) (mC : Nat → Int32) (mcc : Int32) (oLF : Nat → Int64), Inv w h ch bt n oS oD sF cn eF ec uF uc kF pC pN pP pc pa mS mD gF mc mK fF fc mC mcc → gAt w h ch bt st a b c d rec oS oD sF cn rF cur cF abv aF len eF ec uF uc kF pC pN pP pc pa mS mD lF bF tF dF gF mc mK fF fc mC mcc oLF (nI (y + 5)) = some ()) (oS : Nat → Int32) (oD : Nat → Int32) (sF : Nat → Int32) (cn : Int32) (rF : Nat → Int32) (cur : Nat) (cF : Nat → Int32) (abv : Nat) (aF : Nat → Int32) (len : Int32) (eF : Nat → Int32) (ec : Int32) (uF : Nat → Int32) (uc : Int32) (kF : Nat → Int32) (pC : Nat → Int32) (pN : Nat → Int32) (pP : Nat → Int32) (pc : Int32) (pa : Int32) (mS : Nat → Int32) (mD : Nat → Int32) (lF : Nat → Int32) (bF : Nat → Int32) (tF : Nat → Int32) (dF : Nat → Int32) (gF : Nat → Int32) (mc : Int32) (mK : Nat → Int32) (fF : Nat → Int32) (fc : Int32) (mC : Nat → Int32) (mcc : Int32) (oLF : Nat → Int64) (hI : Inv w h ch bt (n + 1) oS oD sF cn eF ec uF uc kF pC pN pP pc pa mS mD gF mc mK fF fc mC mcc) : gAt w h ch bt st a b c d (ca_0 L xs n rec) oS oD sF cn rF cur cF abv aF len eF ec uF uc kF pC pN pP pc pa mS mD lF bF tF dF gF mc mK fF fc mC mcc oLF (nI y) = some () := by
  obtain ⟨i1, i2, i3, i4, i5, i6, i7⟩ := hI
  have i3' := i3.mono (show 1000000000 - 1000 * (n + 1) ≤ 1000000000 - 1000 * n by omega)
  have a1 : nI y + 1 = nI (y + 1) := nI_1 y
  have a2 : nI y + 2 = nI (y + 2) := by rw [nI2, nI_add]
  have a3 : nI y + 3 = nI (y + 3) := by rw [show (3 : Int32) = nI 3 by decide, nI_add]
  have a4 : nI y + 4 = nI (y + 4) := by rw [nI4, nI_add]
  have a5 : nI y + 5 = nI (y + 5) := by rw [nI5, nI_add]
  unfold gAt at hrec
  obtain ⟨ret, v, oLF2, oS2, mS2, e1, e2, e3, e4⟩ := op0 (n := n) hG i1 (xs (nI (y + 1)).toNatClampNeg) (xs (nI (y + 2)).toNatClampNeg) (xs (nI (y + 3)).toNatClampNeg) (xs (nI (y + 4)).toNatClampNeg) oLF
  unfold gAt ca_0
  rw [a1, a2, a3, a4, a5, xin_nI (i := y + 1) (by omega) (by omega), xin_nI (i := y + 2) (by omega) (by omega), xin_nI (i := y + 3) (by omega) (by omega), xin_nI (i := y + 4) (by omega) (by omega), e1, xb_some]
  dsimp only
  rw [xin_nI (i := y + 1) (by omega) (by omega), xin_nI (i := y + 2) (by omega) (by omega), xin_nI (i := y + 3) (by omega) (by omega), xin_nI (i := y + 4) (by omega) (by omega), e2, xb_some]
  dsimp only
  rw [thrown_eq, xb_some, if_pos rfl]
  by_cases h0 : ret = 0
  · rw [if_pos h0, if_pos (e3 h0)]
    exact hrec oS2 oD sF cn rF cur cF abv aF len eF ec uF uc kF pC pN pP pc pa mS2 mD lF bF tF dF gF mc mK fF fc mC mcc oLF2 ⟨e4, i2, i3', i4, i5, i6, i7⟩
  · rw [if_neg h0]
    exact hrec oS2 oD sF cn rF cur cF abv aF len eF ec uF uc kF pC pN pP pc pa mS2 mD lF bF tF dF gF mc mK fF fc mC mcc oLF2 ⟨e4, i2, i3', i4, i5, i6, i7⟩
theorem case_1 {L y n w h ch bt st : Nat} {xs : Nat → Int32} {a b c d : Nat → Int32} (hL : L ≤ 2564) (hy : y + 5 ≤ L) (hn : 3000 < n) (hn2 : n < 100000) (hG : Geo w h ch bt) (hs : 1 ≤ st ∧ st ≤ 8) (hT : Tab a b c d) (rec : LawT) (hrec : ∀ (oS : Nat → Int32) (oD : Nat → Int32) (sF : Nat → Int32) (cn : Int32) (rF : Nat → Int32) (cur : Nat) (cF : Nat → Int32) (abv : Nat) (aF : Nat → Int32) (len : Int32) (eF : Nat → Int32) (ec : Int32) (uF : Nat → Int32) (uc : Int32) (kF : Nat → Int32) (pC : Nat → Int32) (pN : Nat → Int32) (pP : Nat → Int32) (pc : Int32) (pa : Int32) (mS : Nat → Int32) (mD : Nat → Int32) (lF : Nat → Int32) (bF : Nat → Int32) (tF : Nat → Int32) (dF : Nat → Int32) (gF : Nat → Int32) (mc : Int32) (mK : Nat → Int32) (fF : Nat → Int32) (fc : Int32) (mC : Nat → Int32) (mcc : Int32) (oLF : Nat → Int64), Inv w h ch bt n oS oD sF cn eF ec uF uc kF pC pN pP pc pa mS mD gF mc mK fF fc mC mcc → gAt w h ch bt st a b c d rec oS oD sF cn rF cur cF abv aF len eF ec uF uc kF pC pN pP pc pa mS mD lF bF tF dF gF mc mK fF fc mC mcc oLF (nI (y + 5)) = some ()) (oS : Nat → Int32) (oD : Nat → Int32) (sF : Nat → Int32) (cn : Int32) (rF : Nat → Int32) (cur : Nat) (cF : Nat → Int32) (abv : Nat) (aF : Nat → Int32) (len : Int32) (eF : Nat → Int32) (ec : Int32) (uF : Nat → Int32) (uc : Int32) (kF : Nat → Int32) (pC : Nat → Int32) (pN : Nat → Int32) (pP : Nat → Int32) (pc : Int32) (pa : Int32) (mS : Nat → Int32) (mD : Nat → Int32) (lF : Nat → Int32) (bF : Nat → Int32) (tF : Nat → Int32) (dF : Nat → Int32) (gF : Nat → Int32) (mc : Int32) (mK : Nat → Int32) (fF : Nat → Int32) (fc : Int32) (mC : Nat → Int32) (mcc : Int32) (oLF : Nat → Int64) (hI : Inv w h ch bt (n + 1) oS oD sF cn eF ec uF uc kF pC pN pP pc pa mS mD gF mc mK fF fc mC mcc) : gAt w h ch bt st a b c d (ca_1 L xs n rec) oS oD sF cn rF cur cF abv aF len eF ec uF uc kF pC pN pP pc pa mS mD lF bF tF dF gF mc mK fF fc mC mcc oLF (nI y) = some () := by
  obtain ⟨i1, i2, i3, i4, i5, i6, i7⟩ := hI
  have i3' := i3.mono (show 1000000000 - 1000 * (n + 1) ≤ 1000000000 - 1000 * n by omega)
  have a1 : nI y + 1 = nI (y + 1) := nI_1 y
  have a2 : nI y + 2 = nI (y + 2) := by rw [nI2, nI_add]
  have a3 : nI y + 3 = nI (y + 3) := by rw [show (3 : Int32) = nI 3 by decide, nI_add]
  have a4 : nI y + 4 = nI (y + 4) := by rw [nI4, nI_add]
  have a5 : nI y + 5 = nI (y + 5) := by rw [nI5, nI_add]
  unfold gAt at hrec
  obtain ⟨r, oS2, mS2, e1, e2, e4⟩ := op1 (n := n) (by omega) hG i1 (xs (nI (y + 1)).toNatClampNeg) (xs (nI (y + 2)).toNatClampNeg)
  unfold gAt ca_1
  rw [a1, a2, a5, xin_nI (i := y + 1) (by omega) (by omega), xin_nI (i := y + 2) (by omega) (by omega), e1, xb_some]
  dsimp only
  rw [xin_nI (i := y + 1) (by omega) (by omega), xin_nI (i := y + 2) (by omega) (by omega), e2, xb_some]
  dsimp only
  rw [if_pos rfl]
  exact hrec oS2 oD sF cn rF cur cF abv aF len eF ec uF uc kF pC pN pP pc pa mS2 mD lF bF tF dF gF mc mK fF fc mC mcc oLF ⟨e4, i2, i3', i4, i5, i6, i7⟩
theorem case_2 {L y n w h ch bt st : Nat} {xs : Nat → Int32} {a b c d : Nat → Int32} (hL : L ≤ 2564) (hy : y + 5 ≤ L) (hn : 3000 < n) (hn2 : n < 100000) (hG : Geo w h ch bt) (hs : 1 ≤ st ∧ st ≤ 8) (hT : Tab a b c d) (rec : LawT) (hrec : ∀ (oS : Nat → Int32) (oD : Nat → Int32) (sF : Nat → Int32) (cn : Int32) (rF : Nat → Int32) (cur : Nat) (cF : Nat → Int32) (abv : Nat) (aF : Nat → Int32) (len : Int32) (eF : Nat → Int32) (ec : Int32) (uF : Nat → Int32) (uc : Int32) (kF : Nat → Int32) (pC : Nat → Int32) (pN : Nat → Int32) (pP : Nat → Int32) (pc : Int32) (pa : Int32) (mS : Nat → Int32) (mD : Nat → Int32) (lF : Nat → Int32) (bF : Nat → Int32) (tF : Nat → Int32) (dF : Nat → Int32) (gF : Nat → Int32) (mc : Int32) (mK : Nat → Int32) (fF : Nat → Int32) (fc : Int32) (mC : Nat → Int32) (mcc : Int32) (oLF : Nat → Int64), Inv w h ch bt n oS oD sF cn eF ec uF uc kF pC pN pP pc pa mS mD gF mc mK fF fc mC mcc → gAt w h ch bt st a b c d rec oS oD sF cn rF cur cF abv aF len eF ec uF uc kF pC pN pP pc pa mS mD lF bF tF dF gF mc mK fF fc mC mcc oLF (nI (y + 5)) = some ()) (oS : Nat → Int32) (oD : Nat → Int32) (sF : Nat → Int32) (cn : Int32) (rF : Nat → Int32) (cur : Nat) (cF : Nat → Int32) (abv : Nat) (aF : Nat → Int32) (len : Int32) (eF : Nat → Int32) (ec : Int32) (uF : Nat → Int32) (uc : Int32) (kF : Nat → Int32) (pC : Nat → Int32) (pN : Nat → Int32) (pP : Nat → Int32) (pc : Int32) (pa : Int32) (mS : Nat → Int32) (mD : Nat → Int32) (lF : Nat → Int32) (bF : Nat → Int32) (tF : Nat → Int32) (dF : Nat → Int32) (gF : Nat → Int32) (mc : Int32) (mK : Nat → Int32) (fF : Nat → Int32) (fc : Int32) (mC : Nat → Int32) (mcc : Int32) (oLF : Nat → Int64) (hI : Inv w h ch bt (n + 1) oS oD sF cn eF ec uF uc kF pC pN pP pc pa mS mD gF mc mK fF fc mC mcc) : gAt w h ch bt st a b c d (ca_2 L xs n rec) oS oD sF cn rF cur cF abv aF len eF ec uF uc kF pC pN pP pc pa mS mD lF bF tF dF gF mc mK fF fc mC mcc oLF (nI y) = some () := by
  obtain ⟨i1, i2, i3, i4, i5, i6, i7⟩ := hI
  have i3' := i3.mono (show 1000000000 - 1000 * (n + 1) ≤ 1000000000 - 1000 * n by omega)
  have a1 : nI y + 1 = nI (y + 1) := nI_1 y
  have a2 : nI y + 2 = nI (y + 2) := by rw [nI2, nI_add]
  have a3 : nI y + 3 = nI (y + 3) := by rw [show (3 : Int32) = nI 3 by decide, nI_add]
  have a4 : nI y + 4 = nI (y + 4) := by rw [nI4, nI_add]
  have a5 : nI y + 5 = nI (y + 5) := by rw [nI5, nI_add]
  unfold gAt at hrec
  obtain ⟨ret, v, oLF2, e1, e2, e3⟩ := op2 (n := n) hG i1 (xs (nI (y + 1)).toNatClampNeg) (xs (nI (y + 2)).toNatClampNeg) (xs (nI (y + 3)).toNatClampNeg) oLF
  unfold gAt ca_2
  rw [a1, a2, a3, a5, xin_nI (i := y + 1) (by omega) (by omega), xin_nI (i := y + 2) (by omega) (by omega), xin_nI (i := y + 3) (by omega) (by omega), e1, xb_some]
  dsimp only
  rw [xin_nI (i := y + 1) (by omega) (by omega), xin_nI (i := y + 2) (by omega) (by omega), xin_nI (i := y + 3) (by omega) (by omega), e2, xb_some]
  dsimp only
  rw [thrown_eq, xb_some, if_pos rfl]
  by_cases h0 : ret = 0
  · rw [if_pos h0, if_pos (e3 h0)]
    exact hrec oS oD sF cn rF cur cF abv aF len eF ec uF uc kF pC pN pP pc pa mS mD lF bF tF dF gF mc mK fF fc mC mcc oLF2 ⟨i1, i2, i3', i4, i5, i6, i7⟩
  · rw [if_neg h0]
    exact hrec oS oD sF cn rF cur cF abv aF len eF ec uF uc kF pC pN pP pc pa mS mD lF bF tF dF gF mc mK fF fc mC mcc oLF2 ⟨i1, i2, i3', i4, i5, i6, i7⟩
theorem case_3 {L y n w h ch bt st : Nat} {xs : Nat → Int32} {a b c d : Nat → Int32} (hL : L ≤ 2564) (hy : y + 5 ≤ L) (hn : 3000 < n) (hn2 : n < 100000) (hG : Geo w h ch bt) (hs : 1 ≤ st ∧ st ≤ 8) (hT : Tab a b c d) (rec : LawT) (hrec : ∀ (oS : Nat → Int32) (oD : Nat → Int32) (sF : Nat → Int32) (cn : Int32) (rF : Nat → Int32) (cur : Nat) (cF : Nat → Int32) (abv : Nat) (aF : Nat → Int32) (len : Int32) (eF : Nat → Int32) (ec : Int32) (uF : Nat → Int32) (uc : Int32) (kF : Nat → Int32) (pC : Nat → Int32) (pN : Nat → Int32) (pP : Nat → Int32) (pc : Int32) (pa : Int32) (mS : Nat → Int32) (mD : Nat → Int32) (lF : Nat → Int32) (bF : Nat → Int32) (tF : Nat → Int32) (dF : Nat → Int32) (gF : Nat → Int32) (mc : Int32) (mK : Nat → Int32) (fF : Nat → Int32) (fc : Int32) (mC : Nat → Int32) (mcc : Int32) (oLF : Nat → Int64), Inv w h ch bt n oS oD sF cn eF ec uF uc kF pC pN pP pc pa mS mD gF mc mK fF fc mC mcc → gAt w h ch bt st a b c d rec oS oD sF cn rF cur cF abv aF len eF ec uF uc kF pC pN pP pc pa mS mD lF bF tF dF gF mc mK fF fc mC mcc oLF (nI (y + 5)) = some ()) (oS : Nat → Int32) (oD : Nat → Int32) (sF : Nat → Int32) (cn : Int32) (rF : Nat → Int32) (cur : Nat) (cF : Nat → Int32) (abv : Nat) (aF : Nat → Int32) (len : Int32) (eF : Nat → Int32) (ec : Int32) (uF : Nat → Int32) (uc : Int32) (kF : Nat → Int32) (pC : Nat → Int32) (pN : Nat → Int32) (pP : Nat → Int32) (pc : Int32) (pa : Int32) (mS : Nat → Int32) (mD : Nat → Int32) (lF : Nat → Int32) (bF : Nat → Int32) (tF : Nat → Int32) (dF : Nat → Int32) (gF : Nat → Int32) (mc : Int32) (mK : Nat → Int32) (fF : Nat → Int32) (fc : Int32) (mC : Nat → Int32) (mcc : Int32) (oLF : Nat → Int64) (hI : Inv w h ch bt (n + 1) oS oD sF cn eF ec uF uc kF pC pN pP pc pa mS mD gF mc mK fF fc mC mcc) : gAt w h ch bt st a b c d (ca_3 L xs n rec) oS oD sF cn rF cur cF abv aF len eF ec uF uc kF pC pN pP pc pa mS mD lF bF tF dF gF mc mK fF fc mC mcc oLF (nI y) = some () := by
  obtain ⟨i1, i2, i3, i4, i5, i6, i7⟩ := hI
  have i3' := i3.mono (show 1000000000 - 1000 * (n + 1) ≤ 1000000000 - 1000 * n by omega)
  have a1 : nI y + 1 = nI (y + 1) := nI_1 y
  have a2 : nI y + 2 = nI (y + 2) := by rw [nI2, nI_add]
  have a3 : nI y + 3 = nI (y + 3) := by rw [show (3 : Int32) = nI 3 by decide, nI_add]
  have a4 : nI y + 4 = nI (y + 4) := by rw [nI4, nI_add]
  have a5 : nI y + 5 = nI (y + 5) := by rw [nI5, nI_add]
  unfold gAt at hrec
  obtain ⟨ret, v, oLF2, e1, e2, e3⟩ := op3 (n := n) hG hT (xs (nI (y + 1)).toNatClampNeg) (xs (nI (y + 2)).toNatClampNeg) oLF
  unfold gAt ca_3
  rw [a1, a2, a5, xin_nI (i := y + 1) (by omega) (by omega), xin_nI (i := y + 2) (by omega) (by omega), e1, xb_some]
  dsimp only
  rw [xin_nI (i := y + 1) (by omega) (by omega), xin_nI (i := y + 2) (by omega) (by omega), e2, xb_some]
  dsimp only
  rw [thrown_eq, xb_some, if_pos rfl]
  by_cases h0 : ret = 0
  · rw [if_pos h0, if_pos (e3 h0)]
    exact hrec oS oD sF cn rF cur cF abv aF len eF ec uF uc kF pC pN pP pc pa mS mD lF bF tF dF gF mc mK fF fc mC mcc oLF2 ⟨i1, i2, i3', i4, i5, i6, i7⟩
  · rw [if_neg h0]
    exact hrec oS oD sF cn rF cur cF abv aF len eF ec uF uc kF pC pN pP pc pa mS mD lF bF tF dF gF mc mK fF fc mC mcc oLF2 ⟨i1, i2, i3', i4, i5, i6, i7⟩
theorem case_4 {L y n w h ch bt st : Nat} {xs : Nat → Int32} {a b c d : Nat → Int32} (hL : L ≤ 2564) (hy : y + 5 ≤ L) (hn : 3000 < n) (hn2 : n < 100000) (hG : Geo w h ch bt) (hs : 1 ≤ st ∧ st ≤ 8) (hT : Tab a b c d) (rec : LawT) (hrec : ∀ (oS : Nat → Int32) (oD : Nat → Int32) (sF : Nat → Int32) (cn : Int32) (rF : Nat → Int32) (cur : Nat) (cF : Nat → Int32) (abv : Nat) (aF : Nat → Int32) (len : Int32) (eF : Nat → Int32) (ec : Int32) (uF : Nat → Int32) (uc : Int32) (kF : Nat → Int32) (pC : Nat → Int32) (pN : Nat → Int32) (pP : Nat → Int32) (pc : Int32) (pa : Int32) (mS : Nat → Int32) (mD : Nat → Int32) (lF : Nat → Int32) (bF : Nat → Int32) (tF : Nat → Int32) (dF : Nat → Int32) (gF : Nat → Int32) (mc : Int32) (mK : Nat → Int32) (fF : Nat → Int32) (fc : Int32) (mC : Nat → Int32) (mcc : Int32) (oLF : Nat → Int64), Inv w h ch bt n oS oD sF cn eF ec uF uc kF pC pN pP pc pa mS mD gF mc mK fF fc mC mcc → gAt w h ch bt st a b c d rec oS oD sF cn rF cur cF abv aF len eF ec uF uc kF pC pN pP pc pa mS mD lF bF tF dF gF mc mK fF fc mC mcc oLF (nI (y + 5)) = some ()) (oS : Nat → Int32) (oD : Nat → Int32) (sF : Nat → Int32) (cn : Int32) (rF : Nat → Int32) (cur : Nat) (cF : Nat → Int32) (abv : Nat) (aF : Nat → Int32) (len : Int32) (eF : Nat → Int32) (ec : Int32) (uF : Nat → Int32) (uc : Int32) (kF : Nat → Int32) (pC : Nat → Int32) (pN : Nat → Int32) (pP : Nat → Int32) (pc : Int32) (pa : Int32) (mS : Nat → Int32) (mD : Nat → Int32) (lF : Nat → Int32) (bF : Nat → Int32) (tF : Nat → Int32) (dF : Nat → Int32) (gF : Nat → Int32) (mc : Int32) (mK : Nat → Int32) (fF : Nat → Int32) (fc : Int32) (mC : Nat → Int32) (mcc : Int32) (oLF : Nat → Int64) (hI : Inv w h ch bt (n + 1) oS oD sF cn eF ec uF uc kF pC pN pP pc pa mS mD gF mc mK fF fc mC mcc) : gAt w h ch bt st a b c d (ca_4 L xs n rec) oS oD sF cn rF cur cF abv aF len eF ec uF uc kF pC pN pP pc pa mS mD lF bF tF dF gF mc mK fF fc mC mcc oLF (nI y) = some () := by
  obtain ⟨i1, i2, i3, i4, i5, i6, i7⟩ := hI
  have i3' := i3.mono (show 1000000000 - 1000 * (n + 1) ≤ 1000000000 - 1000 * n by omega)
  have a1 : nI y + 1 = nI (y + 1) := nI_1 y
  have a2 : nI y + 2 = nI (y + 2) := by rw [nI2, nI_add]
  have a3 : nI y + 3 = nI (y + 3) := by rw [show (3 : Int32) = nI 3 by decide, nI_add]
  have a4 : nI y + 4 = nI (y + 4) := by rw [nI4, nI_add]
  have a5 : nI y + 5 = nI (y + 5) := by rw [nI5, nI_add]
  unfold gAt at hrec
  obtain ⟨ret, v, oLF2, rF2, cF2, aF2, lF2, bF2, tF2, len2, e1, e2, e3⟩ := op4 (n := n) (by omega) hG hs i1 hT rF cF aF lF bF tF len (xs (nI (y + 1)).toNatClampNeg) (xs (nI (y + 2)).toNatClampNeg) (xs (nI (y + 3)).toNatClampNeg) (xs (nI (y + 4)).toNatClampNeg) oLF
  unfold gAt ca_4
  rw [a1, a2, a3, a4, a5, xin_nI (i := y + 1) (by omega) (by omega), xin_nI (i := y + 2) (by omega) (by omega), xin_nI (i := y + 3) (by omega) (by omega), xin_nI (i := y + 4) (by omega) (by omega), e1, xb_some]
  dsimp only
  rw [xin_nI (i := y + 1) (by omega) (by omega), xin_nI (i := y + 2) (by omega) (by omega), xin_nI (i := y + 3) (by omega) (by omega), xin_nI (i := y + 4) (by omega) (by omega), e2, xb_some]
  dsimp only
  rw [thrown_eq, xb_some, if_pos rfl]
  by_cases h0 : ret = 0
  · rw [if_pos h0, if_pos (e3 h0)]
    exact hrec oS oD sF cn rF2 cur cF2 abv aF2 len2 eF ec uF uc kF pC pN pP pc pa mS mD lF2 bF2 tF2 dF gF mc mK fF fc mC mcc oLF2 ⟨i1, i2, i3', i4, i5, i6, i7⟩
  · rw [if_neg h0]
    exact hrec oS oD sF cn rF2 cur cF2 abv aF2 len2 eF ec uF uc kF pC pN pP pc pa mS mD lF2 bF2 tF2 dF gF mc mK fF fc mC mcc oLF2 ⟨i1, i2, i3', i4, i5, i6, i7⟩
theorem case_5 {L y n w h ch bt st : Nat} {xs : Nat → Int32} {a b c d : Nat → Int32} (hL : L ≤ 2564) (hy : y + 5 ≤ L) (hn : 3000 < n) (hn2 : n < 100000) (hG : Geo w h ch bt) (hs : 1 ≤ st ∧ st ≤ 8) (hT : Tab a b c d) (rec : LawT) (hrec : ∀ (oS : Nat → Int32) (oD : Nat → Int32) (sF : Nat → Int32) (cn : Int32) (rF : Nat → Int32) (cur : Nat) (cF : Nat → Int32) (abv : Nat) (aF : Nat → Int32) (len : Int32) (eF : Nat → Int32) (ec : Int32) (uF : Nat → Int32) (uc : Int32) (kF : Nat → Int32) (pC : Nat → Int32) (pN : Nat → Int32) (pP : Nat → Int32) (pc : Int32) (pa : Int32) (mS : Nat → Int32) (mD : Nat → Int32) (lF : Nat → Int32) (bF : Nat → Int32) (tF : Nat → Int32) (dF : Nat → Int32) (gF : Nat → Int32) (mc : Int32) (mK : Nat → Int32) (fF : Nat → Int32) (fc : Int32) (mC : Nat → Int32) (mcc : Int32) (oLF : Nat → Int64), Inv w h ch bt n oS oD sF cn eF ec uF uc kF pC pN pP pc pa mS mD gF mc mK fF fc mC mcc → gAt w h ch bt st a b c d rec oS oD sF cn rF cur cF abv aF len eF ec uF uc kF pC pN pP pc pa mS mD lF bF tF dF gF mc mK fF fc mC mcc oLF (nI (y + 5)) = some ()) (oS : Nat → Int32) (oD : Nat → Int32) (sF : Nat → Int32) (cn : Int32) (rF : Nat → Int32) (cur : Nat) (cF : Nat → Int32) (abv : Nat) (aF : Nat → Int32) (len : Int32) (eF : Nat → Int32) (ec : Int32) (uF : Nat → Int32) (uc : Int32) (kF : Nat → Int32) (pC : Nat → Int32) (pN : Nat → Int32) (pP : Nat → Int32) (pc : Int32) (pa : Int32) (mS : Nat → Int32) (mD : Nat → Int32) (lF : Nat → Int32) (bF : Nat → Int32) (tF : Nat → Int32) (dF : Nat → Int32) (gF : Nat → Int32) (mc : Int32) (mK : Nat → Int32) (fF : Nat → Int32) (fc : Int32) (mC : Nat → Int32) (mcc : Int32) (oLF : Nat → Int64) (hI : Inv w h ch bt (n + 1) oS oD sF cn eF ec uF uc kF pC pN pP pc pa mS mD gF mc mK fF fc mC mcc) : gAt w h ch bt st a b c d (ca_5 L xs n rec) oS oD sF cn rF cur cF abv aF len eF ec uF uc kF pC pN pP pc pa mS mD lF bF tF dF gF mc mK fF fc mC mcc oLF (nI y) = some () := by
  obtain ⟨i1, i2, i3, i4, i5, i6, i7⟩ := hI
  have i3' := i3.mono (show 1000000000 - 1000 * (n + 1) ≤ 1000000000 - 1000 * n by omega)
  have a1 : nI y + 1 = nI (y + 1) := nI_1 y
  have a2 : nI y + 2 = nI (y + 2) := by rw [nI2, nI_add]
  have a3 : nI y + 3 = nI (y + 3) := by rw [show (3 : Int32) = nI 3 by decide, nI_add]
  have a4 : nI y + 4 = nI (y + 4) := by rw [nI4, nI_add]
  have a5 : nI y + 5 = nI (y + 5) := by rw [nI5, nI_add]
  unfold gAt at hrec
  obtain ⟨ret, v, oLF2, sF2, rF2, cF2, aF2, lF2, bF2, tF2, dF2, cn2, len2, e1, e2, e3, e4⟩ := op5 (n := n) (by omega) hG hs i1 hT (by omega) i3 rF cF aF lF bF tF dF len (xs (nI (y + 1)).toNatClampNeg) (xs (nI (y + 2)).toNatClampNeg) (xs (nI (y + 3)).toNatClampNeg) (xs (nI (y + 4)).toNatClampNeg) oLF
  unfold gAt ca_5
  rw [a1, a2, a3, a4, a5, xin_nI (i := y + 1) (by omega) (by omega), xin_nI (i := y + 2) (by omega) (by omega), xin_nI (i := y + 3) (by omega) (by omega), xin_nI (i := y + 4) (by omega) (by omega), e1, xb_some]
  dsimp only
  rw [xin_nI (i := y + 1) (by omega) (by omega), xin_nI (i := y + 2) (by omega) (by omega), xin_nI (i := y + 3) (by omega) (by omega), xin_nI (i := y + 4) (by omega) (by omega), e2, xb_some]
  dsimp only
  rw [thrown_eq, xb_some, if_pos rfl]
  by_cases h0 : ret = 0
  · rw [if_pos h0, if_pos (e3 h0)]
    exact hrec oS oD sF2 cn2 rF2 cur cF2 abv aF2 len2 eF ec uF uc kF pC pN pP pc pa mS mD lF2 bF2 tF2 dF2 gF mc mK fF fc mC mcc oLF2 ⟨i1, i2, (e4.mono (by omega)), i4, i5, i6, i7⟩
  · rw [if_neg h0]
    exact hrec oS oD sF2 cn2 rF2 cur cF2 abv aF2 len2 eF ec uF uc kF pC pN pP pc pa mS mD lF2 bF2 tF2 dF2 gF mc mK fF fc mC mcc oLF2 ⟨i1, i2, (e4.mono (by omega)), i4, i5, i6, i7⟩
theorem case_6 {L y n w h ch bt st : Nat} {xs : Nat → Int32} {a b c d : Nat → Int32} (hL : L ≤ 2564) (hy : y + 5 ≤ L) (hn : 3000 < n) (hn2 : n < 100000) (hG : Geo w h ch bt) (hs : 1 ≤ st ∧ st ≤ 8) (hT : Tab a b c d) (rec : LawT) (hrec : ∀ (oS : Nat → Int32) (oD : Nat → Int32) (sF : Nat → Int32) (cn : Int32) (rF : Nat → Int32) (cur : Nat) (cF : Nat → Int32) (abv : Nat) (aF : Nat → Int32) (len : Int32) (eF : Nat → Int32) (ec : Int32) (uF : Nat → Int32) (uc : Int32) (kF : Nat → Int32) (pC : Nat → Int32) (pN : Nat → Int32) (pP : Nat → Int32) (pc : Int32) (pa : Int32) (mS : Nat → Int32) (mD : Nat → Int32) (lF : Nat → Int32) (bF : Nat → Int32) (tF : Nat → Int32) (dF : Nat → Int32) (gF : Nat → Int32) (mc : Int32) (mK : Nat → Int32) (fF : Nat → Int32) (fc : Int32) (mC : Nat → Int32) (mcc : Int32) (oLF : Nat → Int64), Inv w h ch bt n oS oD sF cn eF ec uF uc kF pC pN pP pc pa mS mD gF mc mK fF fc mC mcc → gAt w h ch bt st a b c d rec oS oD sF cn rF cur cF abv aF len eF ec uF uc kF pC pN pP pc pa mS mD lF bF tF dF gF mc mK fF fc mC mcc oLF (nI (y + 5)) = some ()) (oS : Nat → Int32) (oD : Nat → Int32) (sF : Nat → Int32) (cn : Int32) (rF : Nat → Int32) (cur : Nat) (cF : Nat → Int32) (abv : Nat) (aF : Nat → Int32) (len : Int32) (eF : Nat → Int32) (ec : Int32) (uF : Nat → Int32) (uc : Int32) (kF : Nat → Int32) (pC : Nat → Int32) (pN : Nat → Int32) (pP : Nat → Int32) (pc : Int32) (pa : Int32) (mS : Nat → Int32) (mD : Nat → Int32) (lF : Nat → Int32) (bF : Nat → Int32) (tF : Nat → Int32) (dF : Nat → Int32) (gF : Nat → Int32) (mc : Int32) (mK : Nat → Int32) (fF : Nat → Int32) (fc : Int32) (mC : Nat → Int32) (mcc : Int32) (oLF : Nat → Int64) (hI : Inv w h ch bt (n + 1) oS oD sF cn eF ec uF uc kF pC pN pP pc pa mS mD gF mc mK fF fc mC mcc) : gAt w h ch bt st a b c d (ca_6 L xs n rec) oS oD sF cn rF cur cF abv aF len eF ec uF uc kF pC pN pP pc pa mS mD lF bF tF dF gF mc mK fF fc mC mcc oLF (nI y) = some () := by
  obtain ⟨i1, i2, i3, i4, i5, i6, i7⟩ := hI
  have i3' := i3.mono (show 1000000000 - 1000 * (n + 1) ≤ 1000000000 - 1000 * n by omega)
  have a1 : nI y + 1 = nI (y + 1) := nI_1 y
  have a2 : nI y + 2 = nI (y + 2) := by rw [nI2, nI_add]
  have a3 : nI y + 3 = nI (y + 3) := by rw [show (3 : Int32) = nI 3 by decide, nI_add]
  have a4 : nI y + 4 = nI (y + 4) := by rw [nI4, nI_add]
  have a5 : nI y + 5 = nI (y + 5) := by rw [nI5, nI_add]
  unfold gAt at hrec
  by_cases hx : (xs (nI (y + 3)).toNatClampNeg) = 0
  · obtain ⟨ret, v, oLF2, sF2, rF2, cF2, aF2, eF2, kF2, lF2, bF2, tF2, dF2, gF2, mK2, cn2, len2, ec2, mc2, e1, e2, e3, e4, e5, e6⟩ := op6 (n := n) (by omega) hG hs i1 hT (by omega) i3 i4 i6 rF cF aF lF bF tF dF len (xs (nI (y + 1)).toNatClampNeg) (xs (nI (y + 2)).toNatClampNeg) 0 oLF
    unfold gAt ca_6
    rw [a1, a2, a3, a5, xin_nI (i := y + 1) (by omega) (by omega), xin_nI (i := y + 2) (by omega) (by omega), xin_nI (i := y + 3) (by omega) (by omega), if_pos hx, e1, xb_some]
    dsimp only
    rw [xin_nI (i := y + 1) (by omega) (by omega), xin_nI (i := y + 2) (by omega) (by omega), xin_nI (i := y + 3) (by omega) (by omega), if_pos hx, e2, xb_some]
    dsimp only
    rw [thrown_eq, xb_some, if_pos rfl]
    by_cases h0 : ret = 0
    · rw [if_pos h0, if_pos (e3 h0)]
      exact hrec oS oD sF2 cn2 rF2 cur cF2 abv aF2 len2 eF2 ec2 uF uc kF2 pC pN pP pc pa mS mD lF2 bF2 tF2 dF2 gF2 mc2 mK2 fF fc mC mcc oLF2 ⟨i1, i2, (e6.mono (by omega)), e4, i5, e5, i7⟩
    · rw [if_neg h0]
      exact hrec oS oD sF2 cn2 rF2 cur cF2 abv aF2 len2 eF2 ec2 uF uc kF2 pC pN pP pc pa mS mD lF2 bF2 tF2 dF2 gF2 mc2 mK2 fF fc mC mcc oLF2 ⟨i1, i2, (e6.mono (by omega)), e4, i5, e5, i7⟩
  · obtain ⟨ret, v, oLF2, sF2, rF2, cF2, aF2, eF2, kF2, lF2, bF2, tF2, dF2, gF2, mK2, cn2, len2, ec2, mc2, e1, e2, e3, e4, e5, e6⟩ := op6 (n := n) (by omega) hG hs i1 hT (by omega) i3 i4 i6 rF cF aF lF bF tF dF len (xs (nI (y + 1)).toNatClampNeg) (xs (nI (y + 2)).toNatClampNeg) 1 oLF
    unfold gAt ca_6
    rw [a1, a2, a3, a5, xin_nI (i := y + 1) (by omega) (by omega), xin_nI (i := y + 2) (by omega) (by omega), xin_nI (i := y + 3) (by omega) (by omega), if_neg hx, e1, xb_some]
    dsimp only
    rw [xin_nI (i := y + 1) (by omega) (by omega), xin_nI (i := y + 2) (by omega) (by omega), xin_nI (i := y + 3) (by omega) (by omega), if_neg hx, e2, xb_some]
    dsimp only
    rw [thrown_eq, xb_some, if_pos rfl]
    by_cases h0 : ret = 0
    · rw [if_pos h0, if_pos (e3 h0)]
      exact hrec oS oD sF2 cn2 rF2 cur cF2 abv aF2 len2 eF2 ec2 uF uc kF2 pC pN pP pc pa mS mD lF2 bF2 tF2 dF2 gF2 mc2 mK2 fF fc mC mcc oLF2 ⟨i1, i2, (e6.mono (by omega)), e4, i5, e5, i7⟩
    · rw [if_neg h0]
      exact hrec oS oD sF2 cn2 rF2 cur cF2 abv aF2 len2 eF2 ec2 uF uc kF2 pC pN pP pc pa mS mD lF2 bF2 tF2 dF2 gF2 mc2 mK2 fF fc mC mcc oLF2 ⟨i1, i2, (e6.mono (by omega)), e4, i5, e5, i7⟩
theorem case_7 {L y n w h ch bt st : Nat} {xs : Nat → Int32} {a b c d : Nat → Int32} (hL : L ≤ 2564) (hy : y + 5 ≤ L) (hn : 3000 < n) (hn2 : n < 100000) (hG : Geo w h ch bt) (hs : 1 ≤ st ∧ st ≤ 8) (hT : Tab a b c d) (rec : LawT) (hrec : ∀ (oS : Nat → Int32) (oD : Nat → Int32) (sF : Nat → Int32) (cn : Int32) (rF : Nat → Int32) (cur : Nat) (cF : Nat → Int32) (abv : Nat) (aF : Nat → Int32) (len : Int32) (eF : Nat → Int32) (ec : Int32) (uF : Nat → Int32) (uc : Int32) (kF : Nat → Int32) (pC : Nat → Int32) (pN : Nat → Int32) (pP : Nat → Int32) (pc : Int32) (pa : Int32) (mS : Nat → Int32) (mD : Nat → Int32) (lF : Nat → Int32) (bF : Nat → Int32) (tF : Nat → Int32) (dF : Nat → Int32) (gF : Nat → Int32) (mc : Int32) (mK : Nat → Int32) (fF : Nat → Int32) (fc : Int32) (mC : Nat → Int32) (mcc : Int32) (oLF : Nat → Int64), Inv w h ch bt n oS oD sF cn eF ec uF uc kF pC pN pP pc pa mS mD gF mc mK fF fc mC mcc → gAt w h ch bt st a b c d rec oS oD sF cn rF cur cF abv aF len eF ec uF uc kF pC pN pP pc pa mS mD lF bF tF dF gF mc mK fF fc mC mcc oLF (nI (y + 5)) = some ()) (oS : Nat → Int32) (oD : Nat → Int32) (sF : Nat → Int32) (cn : Int32) (rF : Nat → Int32) (cur : Nat) (cF : Nat → Int32) (abv : Nat) (aF : Nat → Int32) (len : Int32) (eF : Nat → Int32) (ec : Int32) (uF : Nat → Int32) (uc : Int32) (kF : Nat → Int32) (pC : Nat → Int32) (pN : Nat → Int32) (pP : Nat → Int32) (pc : Int32) (pa : Int32) (mS : Nat → Int32) (mD : Nat → Int32) (lF : Nat → Int32) (bF : Nat → Int32) (tF : Nat → Int32) (dF : Nat → Int32) (gF : Nat → Int32) (mc : Int32) (mK : Nat → Int32) (fF : Nat → Int32) (fc : Int32) (mC : Nat → Int32) (mcc : Int32) (oLF : Nat → Int64) (hI : Inv w h ch bt (n + 1) oS oD sF cn eF ec uF uc kF pC pN pP pc pa mS mD gF mc mK fF fc mC mcc) : gAt w h ch bt st a b c d (ca_7 L xs n rec) oS oD sF cn rF cur cF abv aF len eF ec uF uc kF pC pN pP pc pa mS mD lF bF tF dF gF mc mK fF fc mC mcc oLF (nI y) = some () := by
  obtain ⟨i1, i2, i3, i4, i5, i6, i7⟩ := hI
  have i3' := i3.mono (show 1000000000 - 1000 * (n + 1) ≤ 1000000000 - 1000 * n by omega)
  have a1 : nI y + 1 = nI (y + 1) := nI_1 y
  have a2 : nI y + 2 = nI (y + 2) := by rw [nI2, nI_add]
  have a3 : nI y + 3 = nI (y + 3) := by rw [show (3 : Int32) = nI 3 by decide, nI_add]
  have a4 : nI y + 4 = nI (y + 4) := by rw [nI4, nI_add]
  have a5 : nI y + 5 = nI (y + 5) := by rw [nI5, nI_add]
  unfold gAt at hrec
  have i4s := i4
  obtain ⟨E, k1, rfl, rfl, k4⟩ := i4s
  obtain ⟨ret, v, oLF2, e1, e2, e3⟩ := op7 (n := n) (E := E) (oE := eF) (mE := gF) (xs (nI (y + 1)).toNatClampNeg) oLF k1 (fun i hi => by obtain ⟨u, -, u1, u2⟩ := k4 i hi; rw [u1, u2])
  unfold gAt ca_7
  rw [a1, a5, xin_nI (i := y + 1) (by omega) (by omega), e1, xb_some]
  dsimp only
  rw [xin_nI (i := y + 1) (by omega) (by omega), e2, xb_some]
  dsimp only
  rw [thrown_eq, xb_some, if_pos rfl]
  by_cases h0 : ret = 0
  · rw [if_pos h0, if_pos (e3 h0)]
    exact hrec oS oD sF cn rF cur cF abv aF len eF (nI E) uF uc kF pC pN pP pc pa mS mD lF bF tF dF gF (nI E) mK fF fc mC mcc oLF2 ⟨i1, i2, i3', i4, i5, i6, i7⟩
  · rw [if_neg h0]
    exact hrec oS oD sF cn rF cur cF abv aF len eF (nI E) uF uc kF pC pN pP pc pa mS mD lF bF tF dF gF (nI E) mK fF fc mC mcc oLF2 ⟨i1, i2, i3', i4, i5, i6, i7⟩
theorem case_8 {L y n w h ch bt st : Nat} {xs : Nat → Int32} {a b c d : Nat → Int32} (hL : L ≤ 2564) (hy : y + 5 ≤ L) (hn : 3000 < n) (hn2 : n < 100000) (hG : Geo w h ch bt) (hs : 1 ≤ st ∧ st ≤ 8) (hT : Tab a b c d) (rec : LawT) (hrec : ∀ (oS : Nat → Int32) (oD : Nat → Int32) (sF : Nat → Int32) (cn : Int32) (rF : Nat → Int32) (cur : Nat) (cF : Nat → Int32) (abv : Nat) (aF : Nat → Int32) (len : Int32) (eF : Nat → Int32) (ec : Int32) (uF : Nat → Int32) (uc : Int32) (kF : Nat → Int32) (pC : Nat → Int32) (pN : Nat → Int32) (pP : Nat → Int32) (pc : Int32) (pa : Int32) (mS : Nat → Int32) (mD : Nat → Int32) (lF : Nat → Int32) (bF : Nat → Int32) (tF : Nat → Int32) (dF : Nat → Int32) (gF : Nat → Int32) (mc : Int32) (mK : Nat → Int32) (fF : Nat → Int32) (fc : Int32) (mC : Nat → Int32) (mcc : Int32) (oLF : Nat → Int64), Inv w h ch bt n oS oD sF cn eF ec uF uc kF pC pN pP pc pa mS mD gF mc mK fF fc mC mcc → gAt w h ch bt st a b c d rec oS oD sF cn rF cur cF abv aF len eF ec uF uc kF pC pN pP pc pa mS mD lF bF tF dF gF mc mK fF fc mC mcc oLF (nI (y + 5)) = some ()) (oS : Nat → Int32) (oD : Nat → Int32) (sF : Nat → Int32) (cn : Int32) (rF : Nat → Int32) (cur : Nat) (cF : Nat → Int32) (abv : Nat) (aF : Nat → Int32) (len : Int32) (eF : Nat → Int32) (ec : Int32) (uF : Nat → Int32) (uc : Int32) (kF : Nat → Int32) (pC : Nat → Int32) (pN : Nat → Int32) (pP : Nat → Int32) (pc : Int32) (pa : Int32) (mS : Nat → Int32) (mD : Nat → Int32) (lF : Nat → Int32) (bF : Nat → Int32) (tF : Nat → Int32) (dF : Nat → Int32) (gF : Nat → Int32) (mc : Int32) (mK : Nat → Int32) (fF : Nat → Int32) (fc : Int32) (mC : Nat → Int32) (mcc : Int32) (oLF : Nat → Int64) (hI : Inv w h ch bt (n + 1) oS oD sF cn eF ec uF uc kF pC pN pP pc pa mS mD gF mc mK fF fc mC mcc) : gAt w h ch bt st a b c d (ca_8 L xs n rec) oS oD sF cn rF cur cF abv aF len eF ec uF uc kF pC pN pP pc pa mS mD lF bF tF dF gF mc mK fF fc mC mcc oLF (nI y) = some () := by
  obtain ⟨i1, i2, i3, i4, i5, i6, i7⟩ := hI
  have i3' := i3.mono (show 1000000000 - 1000 * (n + 1) ≤ 1000000000 - 1000 * n by omega)
  have a1 : nI y + 1 = nI (y + 1) := nI_1 y
  have a2 : nI y + 2 = nI (y + 2) := by rw [nI2, nI_add]
  have a3 : nI y + 3 = nI (y + 3) := by rw [show (3 : Int32) = nI 3 by decide, nI_add]
  have a4 : nI y + 4 = nI (y + 4) := by rw [nI4, nI_add]
  have a5 : nI y + 5 = nI (y + 5) := by rw [nI5, nI_add]
  unfold gAt at hrec
  obtain ⟨ret, v, oLF2, e1, e2, e3⟩ := op8 (n := n) (xs (nI (y + 1)).toNatClampNeg) oLF i6
  unfold gAt ca_8
  rw [a1, a5, xin_nI (i := y + 1) (by omega) (by omega), e1, xb_some]
  dsimp only
  rw [xin_nI (i := y + 1) (by omega) (by omega), e2, xb_some]
  dsimp only
  rw [thrown_eq, xb_some, if_pos rfl]
  by_cases h0 : ret = 0
  · rw [if_pos h0, if_pos (e3 h0)]
    exact hrec oS oD sF cn rF cur cF abv aF len eF ec uF uc kF pC pN pP pc pa mS mD lF bF tF dF gF mc mK fF fc mC mcc oLF2 ⟨i1, i2, i3', i4, i5, i6, i7⟩
  · rw [if_neg h0]
    exact hrec oS oD sF cn rF cur cF abv aF len eF ec uF uc kF pC pN pP pc pa mS mD lF bF tF dF gF mc mK fF fc mC mcc oLF2 ⟨i1, i2, i3', i4, i5, i6, i7⟩
theorem case_9 {L y n w h ch bt st : Nat} {xs : Nat → Int32} {a b c d : Nat → Int32} (hL : L ≤ 2564) (hy : y + 5 ≤ L) (hn : 3000 < n) (hn2 : n < 100000) (hG : Geo w h ch bt) (hs : 1 ≤ st ∧ st ≤ 8) (hT : Tab a b c d) (rec : LawT) (hrec : ∀ (oS : Nat → Int32) (oD : Nat → Int32) (sF : Nat → Int32) (cn : Int32) (rF : Nat → Int32) (cur : Nat) (cF : Nat → Int32) (abv : Nat) (aF : Nat → Int32) (len : Int32) (eF : Nat → Int32) (ec : Int32) (uF : Nat → Int32) (uc : Int32) (kF : Nat → Int32) (pC : Nat → Int32) (pN : Nat → Int32) (pP : Nat → Int32) (pc : Int32) (pa : Int32) (mS : Nat → Int32) (mD : Nat → Int32) (lF : Nat → Int32) (bF : Nat → Int32) (tF : Nat → Int32) (dF : Nat → Int32) (gF : Nat → Int32) (mc : Int32) (mK : Nat → Int32) (fF : Nat → Int32) (fc : Int32) (mC : Nat → Int32) (mcc : Int32) (oLF : Nat → Int64), Inv w h ch bt n oS oD sF cn eF ec uF uc kF pC pN pP pc pa mS mD gF mc mK fF fc mC mcc → gAt w h ch bt st a b c d rec oS oD sF cn rF cur cF abv aF len eF ec uF uc kF pC pN pP pc pa mS mD lF bF tF dF gF mc mK fF fc mC mcc oLF (nI (y + 5)) = some ()) (oS : Nat → Int32) (oD : Nat → Int32) (sF : Nat → Int32) (cn : Int32) (rF : Nat → Int32) (cur : Nat) (cF : Nat → Int32) (abv : Nat) (aF : Nat → Int32) (len : Int32) (eF : Nat → Int32) (ec : Int32) (uF : Nat → Int32) (uc : Int32) (kF : Nat → Int32) (pC : Nat → Int32) (pN : Nat → Int32) (pP : Nat → Int32) (pc : Int32) (pa : Int32) (mS : Nat → Int32) (mD : Nat → Int32) (lF : Nat → Int32) (bF : Nat → Int32) (tF : Nat → Int32) (dF : Nat → Int32) (gF : Nat → Int32) (mc : Int32) (mK : Nat → Int32) (fF : Nat → Int32) (fc : Int32) (mC : Nat → Int32) (mcc : Int32) (oLF : Nat → Int64) (hI : Inv w h ch bt (n + 1) oS oD sF cn eF ec uF uc kF pC pN pP pc pa mS mD gF mc mK fF fc mC mcc) : gAt w h ch bt st a b c d (ca_9 L xs n rec) oS oD sF cn rF cur cF abv aF len eF ec uF uc kF pC pN pP pc pa mS mD lF bF tF dF gF mc mK fF fc mC mcc oLF (nI y) = some () := by
  obtain ⟨i1, i2, i3, i4, i5, i6, i7⟩ := hI
  have i3' := i3.mono (show 1000000000 - 1000 * (n + 1) ≤ 1000000000 - 1000 * n by omega)
  have a1 : nI y + 1 = nI (y + 1) := nI_1 y
  have a2 : nI y + 2 = nI (y + 2) := by rw [nI2, nI_add]
  have a3 : nI y + 3 = nI (y + 3) := by rw [show (3 : Int32) = nI 3 by decide, nI_add]
  have a4 : nI y + 4 = nI (y + 4) := by rw [nI4, nI_add]
  have a5 : nI y + 5 = nI (y + 5) := by rw [nI5, nI_add]
  unfold gAt at hrec
  obtain ⟨ret, v, oLF2, uF2, fF2, uc2, fc2, e1, e2, e3, e4⟩ := op9 (n := n) (xs (nI (y + 1)).toNatClampNeg) oLF i5
  unfold gAt ca_9
  rw [a1, a5, xin_nI (i := y + 1) (by omega) (by omega), e1, xb_some]
  dsimp only
  rw [xin_nI (i := y + 1) (by omega) (by omega), e2, xb_some]
  dsimp only
  rw [thrown_eq, xb_some, if_pos rfl]
  by_cases h0 : ret = 0
  · rw [if_pos h0, if_pos (e3 h0)]
    exact hrec oS oD sF cn rF cur cF abv aF len eF ec uF2 uc2 kF pC pN pP pc pa mS mD lF bF tF dF gF mc mK fF2 fc2 mC mcc oLF2 ⟨i1, i2, i3', i4, e4, i6, i7⟩
  · rw [if_neg h0]
    exact hrec oS oD sF cn rF cur cF abv aF len eF ec uF2 uc2 kF pC pN pP pc pa mS mD lF bF tF dF gF mc mK fF2 fc2 mC mcc oLF2 ⟨i1, i2, i3', i4, e4, i6, i7⟩
theorem case_10 {L y n w h ch bt st : Nat} {xs : Nat → Int32} {a b c d : Nat → Int32} (hL : L ≤ 2564) (hy : y + 5 ≤ L) (hn : 3000 < n) (hn2 : n < 100000) (hG : Geo w h ch bt) (hs : 1 ≤ st ∧ st ≤ 8) (hT : Tab a b c d) (rec : LawT) (hrec : ∀ (oS : Nat → Int32) (oD : Nat → Int32) (sF : Nat → Int32) (cn : Int32) (rF : Nat → Int32) (cur : Nat) (cF : Nat → Int32) (abv : Nat) (aF : Nat → Int32) (len : Int32) (eF : Nat → Int32) (ec : Int32) (uF : Nat → Int32) (uc : Int32) (kF : Nat → Int32) (pC : Nat → Int32) (pN : Nat → Int32) (pP : Nat → Int32) (pc : Int32) (pa : Int32) (mS : Nat → Int32) (mD : Nat → Int32) (lF : Nat → Int32) (bF : Nat → Int32) (tF : Nat → Int32) (dF : Nat → Int32) (gF : Nat → Int32) (mc : Int32) (mK : Nat → Int32) (fF : Nat → Int32) (fc : Int32) (mC : Nat → Int32) (mcc : Int32) (oLF : Nat → Int64), Inv w h ch bt n oS oD sF cn eF ec uF uc kF pC pN pP pc pa mS mD gF mc mK fF fc mC mcc → gAt w h ch bt st a b c d rec oS oD sF cn rF cur cF abv aF len eF ec uF uc kF pC pN pP pc pa mS mD lF bF tF dF gF mc mK fF fc mC mcc oLF (nI (y + 5)) = some ()) (oS : Nat → Int32) (oD : Nat → Int32) (sF : Nat → Int32) (cn : Int32) (rF : Nat → Int32) (cur : Nat) (cF : Nat → Int32) (abv : Nat) (aF : Nat → Int32) (len : Int32) (eF : Nat → Int32) (ec : Int32) (uF : Nat → Int32) (uc : Int32) (kF : Nat → Int32) (pC : Nat → Int32) (pN : Nat → Int32) (pP : Nat → Int32) (pc : Int32) (pa : Int32) (mS : Nat → Int32) (mD : Nat → Int32) (lF : Nat → Int32) (bF : Nat → Int32) (tF : Nat → Int32) (dF : Nat → Int32) (gF : Nat → Int32) (mc : Int32) (mK : Nat → Int32) (fF : Nat → Int32) (fc : Int32) (mC : Nat → Int32) (mcc : Int32) (oLF : Nat → Int64) (hI : Inv w h ch bt (n + 1) oS oD sF cn eF ec uF uc kF pC pN pP pc pa mS mD gF mc mK fF fc mC mcc) : gAt w h ch bt st a b c d (ca_10 L xs n rec) oS oD sF cn rF cur cF abv aF len eF ec uF uc kF pC pN pP pc pa mS mD lF bF tF dF gF mc mK fF fc mC mcc oLF (nI y) = some () := by
  obtain ⟨i1, i2, i3, i4, i5, i6, i7⟩ := hI
  have i3' := i3.mono (show 1000000000 - 1000 * (n + 1) ≤ 1000000000 - 1000 * n by omega)
  have a1 : nI y + 1 = nI (y + 1) := nI_1 y
  have a2 : nI y + 2 = nI (y + 2) := by rw [nI2, nI_add]
  have a3 : nI y + 3 = nI (y + 3) := by rw [show (3 : Int32) = nI 3 by decide, nI_add]
  have a4 : nI y + 4 = nI (y + 4) := by rw [nI4, nI_add]
  have a5 : nI y + 5 = nI (y + 5) := by rw [nI5, nI_add]
  unfold gAt at hrec
  obtain ⟨ret, v, oLF2, uF2, fF2, uc2, fc2, e1, e2, e3, e4⟩ := op10 (n := n) (by omega) i4 i5 oLF
  unfold gAt ca_10
  rw [a5, e1, xb_some]
  dsimp only
  rw [e2, xb_some]
  dsimp only
  rw [thrown_eq, xb_some, if_pos rfl]
  by_cases h0 : ret = 0
  · rw [if_pos h0, if_pos (e3 h0)]
    exact hrec oS oD sF cn rF cur cF abv aF len eF ec uF2 uc2 kF pC pN pP pc pa mS mD lF bF tF dF gF mc mK fF2 fc2 mC mcc oLF2 ⟨i1, i2, i3', i4, e4, i6, i7⟩
  · rw [if_neg h0]
    exact hrec oS oD sF cn rF cur cF abv aF len eF ec uF2 uc2 kF pC pN pP pc pa mS mD lF bF tF dF gF mc mK fF2 fc2 mC mcc oLF2 ⟨i1, i2, i3', i4, e4, i6, i7⟩
theorem case_11 {L y n w h ch bt st : Nat} {xs : Nat → Int32} {a b c d : Nat → Int32} (hL : L ≤ 2564) (hy : y + 5 ≤ L) (hn : 3000 < n) (hn2 : n < 100000) (hG : Geo w h ch bt) (hs : 1 ≤ st ∧ st ≤ 8) (hT : Tab a b c d) (rec : LawT) (hrec : ∀ (oS : Nat → Int32) (oD : Nat → Int32) (sF : Nat → Int32) (cn : Int32) (rF : Nat → Int32) (cur : Nat) (cF : Nat → Int32) (abv : Nat) (aF : Nat → Int32) (len : Int32) (eF : Nat → Int32) (ec : Int32) (uF : Nat → Int32) (uc : Int32) (kF : Nat → Int32) (pC : Nat → Int32) (pN : Nat → Int32) (pP : Nat → Int32) (pc : Int32) (pa : Int32) (mS : Nat → Int32) (mD : Nat → Int32) (lF : Nat → Int32) (bF : Nat → Int32) (tF : Nat → Int32) (dF : Nat → Int32) (gF : Nat → Int32) (mc : Int32) (mK : Nat → Int32) (fF : Nat → Int32) (fc : Int32) (mC : Nat → Int32) (mcc : Int32) (oLF : Nat → Int64), Inv w h ch bt n oS oD sF cn eF ec uF uc kF pC pN pP pc pa mS mD gF mc mK fF fc mC mcc → gAt w h ch bt st a b c d rec oS oD sF cn rF cur cF abv aF len eF ec uF uc kF pC pN pP pc pa mS mD lF bF tF dF gF mc mK fF fc mC mcc oLF (nI (y + 5)) = some ()) (oS : Nat → Int32) (oD : Nat → Int32) (sF : Nat → Int32) (cn : Int32) (rF : Nat → Int32) (cur : Nat) (cF : Nat → Int32) (abv : Nat) (aF : Nat → Int32) (len : Int32) (eF : Nat → Int32) (ec : Int32) (uF : Nat → Int32) (uc : Int32) (kF : Nat → Int32) (pC : Nat → Int32) (pN : Nat → Int32) (pP : Nat → Int32) (pc : Int32) (pa : Int32) (mS : Nat → Int32) (mD : Nat → Int32) (lF : Nat → Int32) (bF : Nat → Int32) (tF : Nat → Int32) (dF : Nat → Int32) (gF : Nat → Int32) (mc : Int32) (mK : Nat → Int32) (fF : Nat → Int32) (fc : Int32) (mC : Nat → Int32) (mcc : Int32) (oLF : Nat → Int64) (hI : Inv w h ch bt (n + 1) oS oD sF cn eF ec uF uc kF pC pN pP pc pa mS mD gF mc mK fF fc mC mcc) : gAt w h ch bt st a b c d (ca_11 L xs n rec) oS oD sF cn rF cur cF abv aF len eF ec uF uc kF pC pN pP pc pa mS mD lF bF tF dF gF mc mK fF fc mC mcc oLF (nI y) = some () := by
  obtain ⟨i1, i2, i3, i4, i5, i6, i7⟩ := hI
  have i3' := i3.mono (show 1000000000 - 1000 * (n + 1) ≤ 1000000000 - 1000 * n by omega)
  have a1 : nI y + 1 = nI (y + 1) := nI_1 y
  have a2 : nI y + 2 = nI (y + 2) := by rw [nI2, nI_add]
  have a3 : nI y + 3 = nI (y + 3) := by rw [show (3 : Int32) = nI 3 by decide, nI_add]
  have a4 : nI y + 4 = nI (y + 4) := by rw [nI4, nI_add]
  have a5 : nI y + 5 = nI (y + 5) := by rw [nI5, nI_add]
  unfold gAt at hrec
  by_cases hx : (xs (nI (y + 1)).toNatClampNeg) = 0
  · obtain ⟨v, oS2, oD2, cF2, aF2, mS2, mD2, lF2, bF2, cur2, abv2, len2, e1, e2, e3, e4⟩ := op11 (n := n) (by omega) hG hs i1 i2 hT i5 cF aF lF bF cur abv len 0
    unfold gAt ca_11
    rw [a1, a5, xin_nI (i := y + 1) (by omega) (by omega), if_pos hx, e1, xb_some]
    dsimp only
    rw [xin_nI (i := y + 1) (by omega) (by omega), if_pos hx, e2, xb_some]
    dsimp only
    rw [if_pos rfl]
    exact hrec oS2 oD2 sF cn rF cur2 cF2 abv2 aF2 len2 eF ec uF 0 kF pC pN pP pc pa mS2 mD2 lF2 bF2 tF dF gF mc mK fF 0 mC mcc oLF ⟨e3, e4, i3', i4, (RelB.empty _ _ _), i6, i7⟩
  · obtain ⟨v, oS2, oD2, cF2, aF2, mS2, mD2, lF2, bF2, cur2, abv2, len2, e1, e2, e3, e4⟩ := op11 (n := n) (by omega) hG hs i1 i2 hT i5 cF aF lF bF cur abv len 1
    unfold gAt ca_11
    rw [a1, a5, xin_nI (i := y + 1) (by omega) (by omega), if_neg hx, e1, xb_some]
    dsimp only
    rw [xin_nI (i := y + 1) (by omega) (by omega), if_neg hx, e2, xb_some]
    dsimp only
    rw [if_pos rfl]
    exact hrec oS2 oD2 sF cn rF cur2 cF2 abv2 aF2 len2 eF ec uF 0 kF pC pN pP pc pa mS2 mD2 lF2 bF2 tF dF gF mc mK fF 0 mC mcc oLF ⟨e3, e4, i3', i4, (RelB.empty _ _ _), i6, i7⟩
theorem case_12 {L y n w h ch bt st : Nat} {xs : Nat → Int32} {a b c d : Nat → Int32} (hL : L ≤ 2564) (hy : y + 5 ≤ L) (hn : 3000 < n) (hn2 : n < 100000) (hG : Geo w h ch bt) (hs : 1 ≤ st ∧ st ≤ 8) (hT : Tab a b c d) (rec : LawT) (hrec : ∀ (oS : Nat → Int32) (oD : Nat → Int32) (sF : Nat → Int32) (cn : Int32) (rF : Nat → Int32) (cur : Nat) (cF : Nat → Int32) (abv : Nat) (aF : Nat → Int32) (len : Int32) (eF : Nat → Int32) (ec : Int32) (uF : Nat → Int32) (uc : Int32) (kF : Nat → Int32) (pC : Nat → Int32) (pN : Nat → Int32) (pP : Nat → Int32) (pc : Int32) (pa : Int32) (mS : Nat → Int32) (mD : Nat → Int32) (lF : Nat → Int32) (bF : Nat → Int32) (tF : Nat → Int32) (dF : Nat → Int32) (gF : Nat → Int32) (mc : Int32) (mK : Nat → Int32) (fF : Nat → Int32) (fc : Int32) (mC : Nat → Int32) (mcc : Int32) (oLF : Nat → Int64), Inv w h ch bt n oS oD sF cn eF ec uF uc kF pC pN pP pc pa mS mD gF mc mK fF fc mC mcc → gAt w h ch bt st a b c d rec oS oD sF cn rF cur cF abv aF len eF ec uF uc kF pC pN pP pc pa mS mD lF bF tF dF gF mc mK fF fc mC mcc oLF (nI (y + 5)) = some ()) (oS : Nat → Int32) (oD : Nat → Int32) (sF : Nat → Int32) (cn : Int32) (rF : Nat → Int32) (cur : Nat) (cF : Nat → Int32) (abv : Nat) (aF : Nat → Int32) (len : Int32) (eF : Nat → Int32) (ec : Int32) (uF : Nat → Int32) (uc : Int32) (kF : Nat → Int32) (pC : Nat → Int32) (pN : Nat → Int32) (pP : Nat → Int32) (pc : Int32) (pa : Int32) (mS : Nat → Int32) (mD : Nat → Int32) (lF : Nat → Int32) (bF : Nat → Int32) (tF : Nat → Int32) (dF : Nat → Int32) (gF : Nat → Int32) (mc : Int32) (mK : Nat → Int32) (fF : Nat → Int32) (fc : Int32) (mC : Nat → Int32) (mcc : Int32) (oLF : Nat → Int64) (hI : Inv w h ch bt (n + 1) oS oD sF cn eF ec uF uc kF pC pN pP pc pa mS mD gF mc mK fF fc mC mcc) : gAt w h ch bt st a b c d (ca_12 L xs n rec) oS oD sF cn rF cur cF abv aF len eF ec uF uc kF pC pN pP pc pa mS mD lF bF tF dF gF mc mK fF fc mC mcc oLF (nI y) = some () := by
  obtain ⟨i1, i2, i3, i4, i5, i6, i7⟩ := hI
  have i3' := i3.mono (show 1000000000 - 1000 * (n + 1) ≤ 1000000000 - 1000 * n by omega)
  have a1 : nI y + 1 = nI (y + 1) := nI_1 y
  have a2 : nI y + 2 = nI (y + 2) := by rw [nI2, nI_add]
  have a3 : nI y + 3 = nI (y + 3) := by rw [show (3 : Int32) = nI 3 by decide, nI_add]
  have a4 : nI y + 4 = nI (y + 4) := by rw [nI4, nI_add]
  have a5 : nI y + 5 = nI (y + 5) := by rw [nI5, nI_add]
  unfold gAt at hrec
  obtain ⟨ret, v, oLF2, oS2, mS2, e1, e2, e3, e4⟩ := op12 (n := n) (by omega) hG i1 oLF
  unfold gAt ca_12
  rw [a5, e1, xb_some]
  dsimp only
  rw [e2, xb_some]
  dsimp only
  rw [thrown_eq, xb_some, if_pos rfl]
  by_cases h0 : ret = 0
  · rw [if_pos h0, if_pos (e3 h0)]
    exact hrec oS2 oD sF cn rF cur cF abv aF len eF ec uF uc kF pC pN pP pc pa mS2 mD lF bF tF dF gF mc mK fF fc mC mcc oLF2 ⟨e4, i2, i3', i4, i5, i6, i7⟩
  · rw [if_neg h0]
    exact hrec oS2 oD sF cn rF cur cF abv aF len eF ec uF uc kF pC pN pP pc pa mS2 mD lF bF tF dF gF mc mK fF fc mC mcc oLF2 ⟨e4, i2, i3', i4, i5, i6, i7⟩
theorem case_13 {L y n w h ch bt st : Nat} {xs : Nat → Int32} {a b c d : Nat → Int32} (hL : L ≤ 2564) (hy : y + 5 ≤ L) (hn : 3000 < n) (hn2 : n < 100000) (hG : Geo w h ch bt) (hs : 1 ≤ st ∧ st ≤ 8) (hT : Tab a b c d) (rec : LawT) (hrec : ∀ (oS : Nat → Int32) (oD : Nat → Int32) (sF : Nat → Int32) (cn : Int32) (rF : Nat → Int32) (cur : Nat) (cF : Nat → Int32) (abv : Nat) (aF : Nat → Int32) (len : Int32) (eF : Nat → Int32) (ec : Int32) (uF : Nat → Int32) (uc : Int32) (kF : Nat → Int32) (pC : Nat → Int32) (pN : Nat → Int32) (pP : Nat → Int32) (pc : Int32) (pa : Int32) (mS : Nat → Int32) (mD : Nat → Int32) (lF : Nat → Int32) (bF : Nat → Int32) (tF : Nat → Int32) (dF : Nat → Int32) (gF : Nat → Int32) (mc : Int32) (mK : Nat → Int32) (fF : Nat → Int32) (fc : Int32) (mC : Nat → Int32) (mcc : Int32) (oLF : Nat → Int64), Inv w h ch bt n oS oD sF cn eF ec uF uc kF pC pN pP pc pa mS mD gF mc mK fF fc mC mcc → gAt w h ch bt st a b c d rec oS oD sF cn rF cur cF abv aF len eF ec uF uc kF pC pN pP pc pa mS mD lF bF tF dF gF mc mK fF fc mC mcc oLF (nI (y + 5)) = some ()) (oS : Nat → Int32) (oD : Nat → Int32) (sF : Nat → Int32) (cn : Int32) (rF : Nat → Int32) (cur : Nat) (cF : Nat → Int32) (abv : Nat) (aF : Nat → Int32) (len : Int32) (eF : Nat → Int32) (ec : Int32) (uF : Nat → Int32) (uc : Int32) (kF : Nat → Int32) (pC : Nat → Int32) (pN : Nat → Int32) (pP : Nat → Int32) (pc : Int32) (pa : Int32) (mS : Nat → Int32) (mD : Nat → Int32) (lF : Nat → Int32) (bF : Nat → Int32) (tF : Nat → Int32) (dF : Nat → Int32) (gF : Nat → Int32) (mc : Int32) (mK : Nat → Int32) (fF : Nat → Int32) (fc : Int32) (mC : Nat → Int32) (mcc : Int32) (oLF : Nat → Int64) (hI : Inv w h ch bt (n + 1) oS oD sF cn eF ec uF uc kF pC pN pP pc pa mS mD gF mc mK fF fc mC mcc) : gAt w h ch bt st a b c d (ca_13 L xs n rec) oS oD sF cn rF cur cF abv aF len eF ec uF uc kF pC pN pP pc pa mS mD lF bF tF dF gF mc mK fF fc mC mcc oLF (nI y) = some () := by
  obtain ⟨i1, i2, i3, i4, i5, i6, i7⟩ := hI
  have i3' := i3.mono (show 1000000000 - 1000 * (n + 1) ≤ 1000000000 - 1000 * n by omega)
  have a1 : nI y + 1 = nI (y + 1) := nI_1 y
  have a2 : nI y + 2 = nI (y + 2) := by rw [nI2, nI_add]
  have a3 : nI y + 3 = nI (y + 3) := by rw [show (3 : Int32) = nI 3 by decide, nI_add]
  have a4 : nI y + 4 = nI (y + 4) := by rw [nI4, nI_add]
  have a5 : nI y + 5 = nI (y + 5) := by rw [nI5, nI_add]
  unfold gAt at hrec
  obtain ⟨ret, v, oLF2, pC2, pP2, mC2, pc2, pa2, mcc2, e1, e2, e3, e4⟩ := op13 (n := n) (by omega) i7 (xs (nI (y + 1)).toNatClampNeg) oLF
  unfold gAt ca_13
  rw [a1, a5, xin_nI (i := y + 1) (by omega) (by omega), e1, xb_some]
  dsimp only
  rw [xin_nI (i := y + 1) (by omega) (by omega), e2, xb_some]
  dsimp only
  rw [thrown_eq, xb_some, if_pos rfl]
  by_cases h0 : ret = 0
  · rw [if_pos h0, if_pos (e3 h0)]
    exact hrec oS oD sF cn rF cur cF abv aF len eF ec uF uc kF pC2 pN pP2 pc2 pa2 mS mD lF bF tF dF gF mc mK fF fc mC2 mcc2 oLF2 ⟨i1, i2, i3', i4, i5, i6, e4⟩
  · rw [if_neg h0]
    exact hrec oS oD sF cn rF cur cF abv aF len eF ec uF uc kF pC2 pN pP2 pc2 pa2 mS mD lF bF tF dF gF mc mK fF fc mC2 mcc2 oLF2 ⟨i1, i2, i3', i4, i5, i6, e4⟩
theorem case_14 {L y n w h ch bt st : Nat} {xs : Nat → Int32} {a b c d : Nat → Int32} (hL : L ≤ 2564) (hy : y + 5 ≤ L) (hn : 3000 < n) (hn2 : n < 100000) (hG : Geo w h ch bt) (hs : 1 ≤ st ∧ st ≤ 8) (hT : Tab a b c d) (rec : LawT) (hrec : ∀ (oS : Nat → Int32) (oD : Nat → Int32) (sF : Nat → Int32) (cn : Int32) (rF : Nat → Int32) (cur : Nat) (cF : Nat → Int32) (abv : Nat) (aF : Nat → Int32) (len : Int32) (eF : Nat → Int32) (ec : Int32) (uF : Nat → Int32) (uc : Int32) (kF : Nat → Int32) (pC : Nat → Int32) (pN : Nat → Int32) (pP : Nat → Int32) (pc : Int32) (pa : Int32) (mS : Nat → Int32) (mD : Nat → Int32) (lF : Nat → Int32) (bF : Nat → Int32) (tF : Nat → Int32) (dF : Nat → Int32) (gF : Nat → Int32) (mc : Int32) (mK : Nat → Int32) (fF : Nat → Int32) (fc : Int32) (mC : Nat → Int32) (mcc : Int32) (oLF : Nat → Int64), Inv w h ch bt n oS oD sF cn eF ec uF uc kF pC pN pP pc pa mS mD gF mc mK fF fc mC mcc → gAt w h ch bt st a b c d rec oS oD sF cn rF cur cF abv aF len eF ec uF uc kF pC pN pP pc pa mS mD lF bF tF dF gF mc mK fF fc mC mcc oLF (nI (y + 5)) = some ()) (oS : Nat → Int32) (oD : Nat → Int32) (sF : Nat → Int32) (cn : Int32) (rF : Nat → Int32) (cur : Nat) (cF : Nat → Int32) (abv : Nat) (aF : Nat → Int32) (len : Int32) (eF : Nat → Int32) (ec : Int32) (uF : Nat → Int32) (uc : Int32) (kF : Nat → Int32) (pC : Nat → Int32) (pN : Nat → Int32) (pP : Nat → Int32) (pc : Int32) (pa : Int32) (mS : Nat → Int32) (mD : Nat → Int32) (lF : Nat → Int32) (bF : Nat → Int32) (tF : Nat → Int32) (dF : Nat → Int32) (gF : Nat → Int32) (mc : Int32) (mK : Nat → Int32) (fF : Nat → Int32) (fc : Int32) (mC : Nat → Int32) (mcc : Int32) (oLF : Nat → Int64) (hI : Inv w h ch bt (n + 1) oS oD sF cn eF ec uF uc kF pC pN pP pc pa mS mD gF mc mK fF fc mC mcc) : gAt w h ch bt st a b c d (ca_14 L xs n rec) oS oD sF cn rF cur cF abv aF len eF ec uF uc kF pC pN pP pc pa mS mD lF bF tF dF gF mc mK fF fc mC mcc oLF (nI y) = some () := by
  obtain ⟨i1, i2, i3, i4, i5, i6, i7⟩ := hI
  have i3' := i3.mono (show 1000000000 - 1000 * (n + 1) ≤ 1000000000 - 1000 * n by omega)
  have a1 : nI y + 1 = nI (y + 1) := nI_1 y
  have a2 : nI y + 2 = nI (y + 2) := by rw [nI2, nI_add]
  have a3 : nI y + 3 = nI (y + 3) := by rw [show (3 : Int32) = nI 3 by decide, nI_add]
  have a4 : nI y + 4 = nI (y + 4) := by rw [nI4, nI_add]
  have a5 : nI y + 5 = nI (y + 5) := by rw [nI5, nI_add]
  unfold gAt at hrec
  obtain ⟨ret, v, oLF2, pN2, pP2, dF2, pa2, e1, e2, e3, e4⟩ := op14 (n := n) (mSeen := dF) (by omega) i7 (xs (nI (y + 1)).toNatClampNeg) oLF
  unfold gAt ca_14
  rw [a1, a5, xin_nI (i := y + 1) (by omega) (by omega), e1, xb_some]
  dsimp only
  rw [xin_nI (i := y + 1) (by omega) (by omega), e2, xb_some]
  dsimp only
  rw [thrown_eq, xb_some, if_pos rfl]
  by_cases h0 : ret = 0
  · rw [if_pos h0, if_pos (e3 h0)]
    exact hrec oS oD sF cn rF cur cF abv aF len eF ec uF uc kF pC pN2 pP2 pc pa2 mS mD lF bF tF dF2 gF mc mK fF fc mC mcc oLF2 ⟨i1, i2, i3', i4, i5, i6, e4⟩
  · rw [if_neg h0]
    exact hrec oS oD sF cn rF cur cF abv aF len eF ec uF uc kF pC pN2 pP2 pc pa2 mS mD lF bF tF dF2 gF mc mK fF fc mC mcc oLF2 ⟨i1, i2, i3', i4, i5, i6, e4⟩
theorem case_15 {L y n w h ch bt st : Nat} {xs : Nat → Int32} {a b c d : Nat → Int32} (hL : L ≤ 2564) (hy : y + 5 ≤ L) (hn : 3000 < n) (hn2 : n < 100000) (hG : Geo w h ch bt) (hs : 1 ≤ st ∧ st ≤ 8) (hT : Tab a b c d) (rec : LawT) (hrec : ∀ (oS : Nat → Int32) (oD : Nat → Int32) (sF : Nat → Int32) (cn : Int32) (rF : Nat → Int32) (cur : Nat) (cF : Nat → Int32) (abv : Nat) (aF : Nat → Int32) (len : Int32) (eF : Nat → Int32) (ec : Int32) (uF : Nat → Int32) (uc : Int32) (kF : Nat → Int32) (pC : Nat → Int32) (pN : Nat → Int32) (pP : Nat → Int32) (pc : Int32) (pa : Int32) (mS : Nat → Int32) (mD : Nat → Int32) (lF : Nat → Int32) (bF : Nat → Int32) (tF : Nat → Int32) (dF : Nat → Int32) (gF : Nat → Int32) (mc : Int32) (mK : Nat → Int32) (fF : Nat → Int32) (fc : Int32) (mC : Nat → Int32) (mcc : Int32) (oLF : Nat → Int64), Inv w h ch bt n oS oD sF cn eF ec uF uc kF pC pN pP pc pa mS mD gF mc mK fF fc mC mcc → gAt w h ch bt st a b c d rec oS oD sF cn rF cur cF abv aF len eF ec uF uc kF pC pN pP pc pa mS mD lF bF tF dF gF mc mK fF fc mC mcc oLF (nI (y + 5)) = some ()) (oS : Nat → Int32) (oD : Nat → Int32) (sF : Nat → Int32) (cn : Int32) (rF : Nat → Int32) (cur : Nat) (cF : Nat → Int32) (abv : Nat) (aF : Nat → Int32) (len : Int32) (eF : Nat → Int32) (ec : Int32) (uF : Nat → Int32) (uc : Int32) (kF : Nat → Int32) (pC : Nat → Int32) (pN : Nat → Int32) (pP : Nat → Int32) (pc : Int32) (pa : Int32) (mS : Nat → Int32) (mD : Nat → Int32) (lF : Nat → Int32) (bF : Nat → Int32) (tF : Nat → Int32) (dF : Nat → Int32) (gF : Nat → Int32) (mc : Int32) (mK : Nat → Int32) (fF : Nat → Int32) (fc : Int32) (mC : Nat → Int32) (mcc : Int32) (oLF : Nat → Int64) (hI : Inv w h ch bt (n + 1) oS oD sF cn eF ec uF uc kF pC pN pP pc pa mS mD gF mc mK fF fc mC mcc) : gAt w h ch bt st a b c d (ca_15 L xs n rec) oS oD sF cn rF cur cF abv aF len eF ec uF uc kF pC pN pP pc pa mS mD lF bF tF dF gF mc mK fF fc mC mcc oLF (nI y) = some () := by
  obtain ⟨i1, i2, i3, i4, i5, i6, i7⟩ := hI
  have i3' := i3.mono (show 1000000000 - 1000 * (n + 1) ≤ 1000000000 - 1000 * n by omega)
  have a1 : nI y + 1 = nI (y + 1) := nI_1 y
  have a2 : nI y + 2 = nI (y + 2) := by rw [nI2, nI_add]
  have a3 : nI y + 3 = nI (y + 3) := by rw [show (3 : Int32) = nI 3 by decide, nI_add]
  have a4 : nI y + 4 = nI (y + 4) := by rw [nI4, nI_add]
  have a5 : nI y + 5 = nI (y + 5) := by rw [nI5, nI_add]
  unfold gAt at hrec
  have i4s := i4
  have i5s := i5
  have i7s := i7
  obtain ⟨E, -, rfl, rfl, -⟩ := i4s
  obtain ⟨U, -, rfl, rfl, -⟩ := i5s
  obtain ⟨P, A, col, -, -, rfl, rfl, rfl, -⟩ := i7s
  obtain ⟨r, e1, e2⟩ := op15 (n := n) (nI w) (nI h) (nI bt) (nI ch) (nI st) (nI E) (nI U) (nI P) (xs (nI (y + 1)).toNatClampNeg)
  unfold gAt ca_15
  rw [a1, a5, xin_nI (i := y + 1) (by omega) (by omega), e1, xb_some, xin_nI (i := y + 1) (by omega) (by omega), e2, xb_some]
  dsimp only
  rw [if_pos rfl]
  exact hrec oS oD sF cn rF cur cF abv aF len eF (nI E) uF (nI U) kF pC pN pP (nI P) (nI A) mS mD lF bF tF dF gF (nI E) mK fF (nI U) mC (nI P) oLF ⟨i1, i2, i3', i4, i5, i6, i7⟩
theorem case_16 {L y n w h ch bt st : Nat} {xs : Nat → Int32} {a b c d : Nat → Int32} (hL : L ≤ 2564) (hy : y + 5 ≤ L) (hn : 3000 < n) (hn2 : n < 100000) (hG : Geo w h ch bt) (hs : 1 ≤ st ∧ st ≤ 8) (hT : Tab a b c d) (rec : LawT) (hrec : ∀ (oS : Nat → Int32) (oD : Nat → Int32) (sF : Nat → Int32) (cn : Int32) (rF : Nat → Int32) (cur : Nat) (cF : Nat → Int32) (abv : Nat) (aF : Nat → Int32) (len : Int32) (eF : Nat → Int32) (ec : Int32) (uF : Nat → Int32) (uc : Int32) (kF : Nat → Int32) (pC : Nat → Int32) (pN : Nat → Int32) (pP : Nat → Int32) (pc : Int32) (pa : Int32) (mS : Nat → Int32) (mD : Nat → Int32) (lF : Nat → Int32) (bF : Nat → Int32) (tF : Nat → Int32) (dF : Nat → Int32) (gF : Nat → Int32) (mc : Int32) (mK : Nat → Int32) (fF : Nat → Int32) (fc : Int32) (mC : Nat → Int32) (mcc : Int32) (oLF : Nat → Int64), Inv w h ch bt n oS oD sF cn eF ec uF uc kF pC pN pP pc pa mS mD gF mc mK fF fc mC mcc → gAt w h ch bt st a b c d rec oS oD sF cn rF cur cF abv aF len eF ec uF uc kF pC pN pP pc pa mS mD lF bF tF dF gF mc mK fF fc mC mcc oLF (nI (y + 5)) = some ()) (oS : Nat → Int32) (oD : Nat → Int32) (sF : Nat → Int32) (cn : Int32) (rF : Nat → Int32) (cur : Nat) (cF : Nat → Int32) (abv : Nat) (aF : Nat → Int32) (len : Int32) (eF : Nat → Int32) (ec : Int32) (uF : Nat → Int32) (uc : Int32) (kF : Nat → Int32) (pC : Nat → Int32) (pN : Nat → Int32) (pP : Nat → Int32) (pc : Int32) (pa : Int32) (mS : Nat → Int32) (mD : Nat → Int32) (lF : Nat → Int32) (bF : Nat → Int32) (tF : Nat → Int32) (dF : Nat → Int32) (gF : Nat → Int32) (mc : Int32) (mK : Nat → Int32) (fF : Nat → Int32) (fc : Int32) (mC : Nat → Int32) (mcc : Int32) (oLF : Nat → Int64) (hI : Inv w h ch bt (n + 1) oS oD sF cn eF ec uF uc kF pC pN pP pc pa mS mD gF mc mK fF fc mC mcc) : gAt w h ch bt st a b c d (ca_16 L xs n rec) oS oD sF cn rF cur cF abv aF len eF ec uF uc kF pC pN pP pc pa mS mD lF bF tF dF gF mc mK fF fc mC mcc oLF (nI y) = some () := by
  obtain ⟨i1, i2, i3, i4, i5, i6, i7⟩ := hI
  have i3' := i3.mono (show 1000000000 - 1000 * (n + 1) ≤ 1000000000 - 1000 * n by omega)
  have a1 : nI y + 1 = nI (y + 1) := nI_1 y
  have a2 : nI y + 2 = nI (y + 2) := by rw [nI2, nI_add]
  have a3 : nI y + 3 = nI (y + 3) := by rw [show (3 : Int32) = nI 3 by decide, nI_add]
  have a4 : nI y + 4 = nI (y + 4) := by rw [nI4, nI_add]
  have a5 : nI y + 5 = nI (y + 5) := by rw [nI5, nI_add]
  unfold gAt at hrec
  obtain ⟨oS2, mS2, kF2, mK2, pP2, e1, e2, e3, e4, e5, e6, e7⟩ := op16 (n := n) (bt := bt) (by omega) hG oS mS kF mK pC pN pP mC eF gF uF fF
  unfold gAt ca_16
  rw [a5, e1, xb_some]
  dsimp only
  rw [e2, xb_some]
  dsimp only
  exact hrec oS2 oD sF cn rF cur cF abv aF len eF 0 uF 0 kF2 pC pN pP2 0 0 mS2 mD lF bF tF dF gF 0 mK2 fF 0 mC 0 oLF ⟨e3, i2, i3', e6, e7, e4, e5⟩
theorem stop_iff {L y : Nat} (hL : L ≤ 2564) (hy : y ≤ 3000) : nI L - 5 < nI y ↔ L < y + 5 := by
  rcases Nat.lt_or_ge L 5 with h | h
  · have e : nI L - 5 < 0 := by rw [nI5]; exact pk_sneg (by omega) h
    constructor
    · intro _; omega
    · intro _
      rw [Int32.lt_iff_toInt_lt] at e ⊢
      rw [nI_toInt (by omega)]
      have z : (0 : Int32).toInt = 0 := by decide
      rw [z] at e
      omega
  · rw [nI5, pk_sub h, nI_ltI (by omega) (by omega)]
    omega
theorem law_all {L w h ch bt st : Nat} {xs : Nat → Int32} {a b c d : Nat → Int32} (hL : L ≤ 2564) (hG : Geo w h ch bt) (hs : 1 ≤ st ∧ st ≤ 8) (hT : Tab a b c d) : ∀ (k n y : Nat), n = 4000 + k → n < 100000 → L < y + 5 * k → y ≤ L + 5 → ∀ (oS : Nat → Int32) (oD : Nat → Int32) (sF : Nat → Int32) (cn : Int32) (rF : Nat → Int32) (cur : Nat) (cF : Nat → Int32) (abv : Nat) (aF : Nat → Int32) (len : Int32) (eF : Nat → Int32) (ec : Int32) (uF : Nat → Int32) (uc : Int32) (kF : Nat → Int32) (pC : Nat → Int32) (pN : Nat → Int32) (pP : Nat → Int32) (pc : Int32) (pa : Int32) (mS : Nat → Int32) (mD : Nat → Int32) (lF : Nat → Int32) (bF : Nat → Int32) (tF : Nat → Int32) (dF : Nat → Int32) (gF : Nat → Int32) (mc : Int32) (mK : Nat → Int32) (fF : Nat → Int32) (fc : Int32) (mC : Nat → Int32) (mcc : Int32) (oLF : Nat → Int64), Inv w h ch bt n oS oD sF cn eF ec uF uc kF pC pN pP pc pa mS mD gF mc mK fF fc mC mcc → gAt w h ch bt st a b c d (fl_L_law L xs n) oS oD sF cn rF cur cF abv aF len eF ec uF uc kF pC pN pP pc pa mS mD lF bF tF dF gF mc mK fF fc mC mcc oLF (nI y) = some () := by
  intro k
  induction k with
  | zero =>
    intro n y hn hn2 h1 h2 oS oD sF cn rF cur cF abv aF len eF ec uF uc kF pC pN pP pc pa mS mD lF bF tF dF gF mc mK fF fc mC mcc oLF hI
    subst hn
    show st_L_law L xs 3999 (fl_L_law L xs 3999) (nI w) (nI h) (nI bt) (nI ch) (nI st) (nI (2 ^ bt - 1)) (w * h * ch) oS (w * h * ch) oD (nI st) 256 sF cn (gLB w h ch bt 0) rF cur (gLB w h ch bt 0) cF abv (gLB w h ch bt 0) aF len 2078 eF ec 4000 uF uc 5 kF 64 pC 64 pN 64 pP pc pa (nI w) (nI h) (nI bt) (nI ch) (nI st) 8 a 8 b 8 c 8 d 1024 mS 1024 mD 140 lF 140 bF 140 tF 256 dF 4000 gF mc 5 mK 4000 fF fc 64 mC mcc oLF (nI y) = some ()
    unfold st_L_law
    rw [if_pos ((stop_iff hL (by omega)).mpr (by omega))]
  | succ k ih =>
    intro n y hn hn2 h1 h2 oS oD sF cn rF cur cF abv aF len eF ec uF uc kF pC pN pP pc pa mS mD lF bF tF dF gF mc mK fF fc mC mcc oLF hI
    subst hn
    show st_L_law L xs (4000 + k) (fl_L_law L xs (4000 + k)) (nI w) (nI h) (nI bt) (nI ch) (nI st) (nI (2 ^ bt - 1)) (w * h * ch) oS (w * h * ch) oD (nI st) 256 sF cn (gLB w h ch bt 0) rF cur (gLB w h ch bt 0) cF abv (gLB w h ch bt 0) aF len 2078 eF ec 4000 uF uc 5 kF 64 pC 64 pN 64 pP pc pa (nI w) (nI h) (nI bt) (nI ch) (nI st) 8 a 8 b 8 c 8 d 1024 mS 1024 mD 140 lF 140 bF 140 tF 256 dF 4000 gF mc 5 mK 4000 fF fc 64 mC mcc oLF (nI y) = some ()
    unfold st_L_law
    by_cases hst : L < y + 5
    · rw [if_pos ((stop_iff hL (by omega)).mpr hst)]
    · have hy : y + 5 ≤ L := by omega
      have hrec := ih (4000 + k) (y + 5) rfl (by omega) (by omega) (by omega)
      rw [if_neg (fun q => hst ((stop_iff hL (by omega)).mp q)), xin_nI (show y < L by omega) (by omega)]
      rcases Classical.em ((xs (nI y).toNatClampNeg &&& 31) = (0 : Int32)) with q | q
      · rw [if_pos q]
        exact case_0 hL hy (by omega) (by omega) hG hs hT _ hrec oS oD sF cn rF cur cF abv aF len eF ec uF uc kF pC pN pP pc pa mS mD lF bF tF dF gF mc mK fF fc mC mcc oLF hI
      rw [if_neg q]
      clear q
      rcases Classical.em ((xs (nI y).toNatClampNeg &&& 31) = (1 : Int32)) with q | q
      · rw [if_pos q]
        exact case_1 hL hy (by omega) (by omega) hG hs hT _ hrec oS oD sF cn rF cur cF abv aF len eF ec uF uc kF pC pN pP pc pa mS mD lF bF tF dF gF mc mK fF fc mC mcc oLF hI
      rw [if_neg q]
      clear q
      rcases Classical.em ((xs (nI y).toNatClampNeg &&& 31) = (2 : Int32)) with q | q
      · rw [if_pos q]
        exact case_2 hL hy (by omega) (by omega) hG hs hT _ hrec oS oD sF cn rF cur cF abv aF len eF ec uF uc kF pC pN pP pc pa mS mD lF bF tF dF gF mc mK fF fc mC mcc oLF hI
      rw [if_neg q]
      clear q
      rcases Classical.em ((xs (nI y).toNatClampNeg &&& 31) = (3 : Int32)) with q | q
      · rw [if_pos q]
        exact case_3 hL hy (by omega) (by omega) hG hs hT _ hrec oS oD sF cn rF cur cF abv aF len eF ec uF uc kF pC pN pP pc pa mS mD lF bF tF dF gF mc mK fF fc mC mcc oLF hI
      rw [if_neg q]
      clear q
      rcases Classical.em ((xs (nI y).toNatClampNeg &&& 31) = (4 : Int32)) with q | q
      · rw [if_pos q]
        exact case_4 hL hy (by omega) (by omega) hG hs hT _ hrec oS oD sF cn rF cur cF abv aF len eF ec uF uc kF pC pN pP pc pa mS mD lF bF tF dF gF mc mK fF fc mC mcc oLF hI
      rw [if_neg q]
      clear q
      rcases Classical.em ((xs (nI y).toNatClampNeg &&& 31) = (5 : Int32)) with q | q
      · rw [if_pos q]
        exact case_5 hL hy (by omega) (by omega) hG hs hT _ hrec oS oD sF cn rF cur cF abv aF len eF ec uF uc kF pC pN pP pc pa mS mD lF bF tF dF gF mc mK fF fc mC mcc oLF hI
      rw [if_neg q]
      clear q
      rcases Classical.em ((xs (nI y).toNatClampNeg &&& 31) = (6 : Int32)) with q | q
      · rw [if_pos q]
        exact case_6 hL hy (by omega) (by omega) hG hs hT _ hrec oS oD sF cn rF cur cF abv aF len eF ec uF uc kF pC pN pP pc pa mS mD lF bF tF dF gF mc mK fF fc mC mcc oLF hI
      rw [if_neg q]
      clear q
      rcases Classical.em ((xs (nI y).toNatClampNeg &&& 31) = (7 : Int32)) with q | q
      · rw [if_pos q]
        exact case_7 hL hy (by omega) (by omega) hG hs hT _ hrec oS oD sF cn rF cur cF abv aF len eF ec uF uc kF pC pN pP pc pa mS mD lF bF tF dF gF mc mK fF fc mC mcc oLF hI
      rw [if_neg q]
      clear q
      rcases Classical.em ((xs (nI y).toNatClampNeg &&& 31) = (8 : Int32)) with q | q
      · rw [if_pos q]
        exact case_8 hL hy (by omega) (by omega) hG hs hT _ hrec oS oD sF cn rF cur cF abv aF len eF ec uF uc kF pC pN pP pc pa mS mD lF bF tF dF gF mc mK fF fc mC mcc oLF hI
      rw [if_neg q]
      clear q
      rcases Classical.em ((xs (nI y).toNatClampNeg &&& 31) = (9 : Int32)) with q | q
      · rw [if_pos q]
        exact case_9 hL hy (by omega) (by omega) hG hs hT _ hrec oS oD sF cn rF cur cF abv aF len eF ec uF uc kF pC pN pP pc pa mS mD lF bF tF dF gF mc mK fF fc mC mcc oLF hI
      rw [if_neg q]
      clear q
      rcases Classical.em ((xs (nI y).toNatClampNeg &&& 31) = (10 : Int32)) with q | q
      · rw [if_pos q]
        exact case_10 hL hy (by omega) (by omega) hG hs hT _ hrec oS oD sF cn rF cur cF abv aF len eF ec uF uc kF pC pN pP pc pa mS mD lF bF tF dF gF mc mK fF fc mC mcc oLF hI
      rw [if_neg q]
      clear q
      rcases Classical.em ((xs (nI y).toNatClampNeg &&& 31) = (11 : Int32)) with q | q
      · rw [if_pos q]
        exact case_11 hL hy (by omega) (by omega) hG hs hT _ hrec oS oD sF cn rF cur cF abv aF len eF ec uF uc kF pC pN pP pc pa mS mD lF bF tF dF gF mc mK fF fc mC mcc oLF hI
      rw [if_neg q]
      clear q
      rcases Classical.em ((xs (nI y).toNatClampNeg &&& 31) = (12 : Int32)) with q | q
      · rw [if_pos q]
        exact case_12 hL hy (by omega) (by omega) hG hs hT _ hrec oS oD sF cn rF cur cF abv aF len eF ec uF uc kF pC pN pP pc pa mS mD lF bF tF dF gF mc mK fF fc mC mcc oLF hI
      rw [if_neg q]
      clear q
      rcases Classical.em ((xs (nI y).toNatClampNeg &&& 31) = (13 : Int32)) with q | q
      · rw [if_pos q]
        exact case_13 hL hy (by omega) (by omega) hG hs hT _ hrec oS oD sF cn rF cur cF abv aF len eF ec uF uc kF pC pN pP pc pa mS mD lF bF tF dF gF mc mK fF fc mC mcc oLF hI
      rw [if_neg q]
      clear q
      rcases Classical.em ((xs (nI y).toNatClampNeg &&& 31) = (14 : Int32)) with q | q
      · rw [if_pos q]
        exact case_14 hL hy (by omega) (by omega) hG hs hT _ hrec oS oD sF cn rF cur cF abv aF len eF ec uF uc kF pC pN pP pc pa mS mD lF bF tF dF gF mc mK fF fc mC mcc oLF hI
      rw [if_neg q]
      clear q
      rcases Classical.em ((xs (nI y).toNatClampNeg &&& 31) = (15 : Int32)) with q | q
      · rw [if_pos q]
        exact case_15 hL hy (by omega) (by omega) hG hs hT _ hrec oS oD sF cn rF cur cF abv aF len eF ec uF uc kF pC pN pP pc pa mS mD lF bF tF dF gF mc mK fF fc mC mcc oLF hI
      rw [if_neg q]
      clear q
      rcases Classical.em ((xs (nI y).toNatClampNeg &&& 31) = (16 : Int32)) with q | q
      · rw [if_pos q]
        exact case_16 hL hy (by omega) (by omega) hG hs hT _ hrec oS oD sF cn rF cur cF abv aF len eF ec uF uc kF pC pN pP pc pa mS mD lF bF tF dF gF mc mK fF fc mC mcc oLF hI
      rw [if_neg q]
      clear q
      obtain ⟨i1, i2, i3, i4, i5, i6, i7⟩ := hI
      unfold gAt at hrec
      rw [show nI y + 5 = nI (y + 5) by rw [nI5, nI_add]]
      exact hrec oS oD sF cn rF cur cF abv aF len eF ec uF uc kF pC pN pP pc pa mS mD lF bF tF dF gF mc mK fF fc mC mcc oLF ⟨i1, i2, i3.mono (by omega), i4, i5, i6, i7⟩
