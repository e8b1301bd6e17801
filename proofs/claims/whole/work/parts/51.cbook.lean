section CACC
variable {C : cS} {a b j k v : Nat} {x : Int32} {y : Int64} {r : Option Nat}
theorem cSN_at : (cSN C j k v).1 a b = if a = j ∧ b = k then v else C.1 a b := rfl
theorem cSN_21 : (cSN C j k v).2.1 = C.2.1 := rfl
theorem cSN_221 : (cSN C j k v).2.2.1 = C.2.2.1 := rfl
theorem cSN_222 : (cSN C j k v).2.2.2 = C.2.2.2 := rfl
theorem cSI_1 : (cSI C j k x).1 = C.1 := rfl
theorem cSI_at : (cSI C j k x).2.1 a b = if a = j ∧ b = k then x else C.2.1 a b := rfl
theorem cSI_221 : (cSI C j k x).2.2.1 = C.2.2.1 := rfl
theorem cSI_222 : (cSI C j k x).2.2.2 = C.2.2.2 := rfl
theorem cSL_1 : (cSL C j k y).1 = C.1 := rfl
theorem cSL_21 : (cSL C j k y).2.1 = C.2.1 := rfl
theorem cSL_at : (cSL C j k y).2.2.1 a b = if a = j ∧ b = k then y else C.2.2.1 a b := rfl
theorem cSL_222 : (cSL C j k y).2.2.2 = C.2.2.2 := rfl
theorem cSP_1 : (cSP C j k r).1 = C.1 := rfl
theorem cSP_21 : (cSP C j k r).2.1 = C.2.1 := rfl
theorem cSP_221 : (cSP C j k r).2.2.1 = C.2.2.1 := rfl
theorem cSP_at : (cSP C j k r).2.2.2 a b = if a = j ∧ b = k then r else C.2.2.2 a b := rfl
end CACC
/-! objects that lists and letters lead to -/
def dOb (F : Nat) (ρ : zS) (p ci : Nat) (fs : List Value) : Prop := F ≤ p ∧ p < ρ.1 ∧ ρ.2.2 p = some (true, .inr (ci, fs))
section DOB
variable {S F n p ci k : Nat} {C : cS} {ρ ρ' : zS} {fs : List Value}
theorem dOb.mono (h : dOb F ρ p ci fs) (hx : dX ρ ρ') : dOb F ρ' p ci fs :=
  ⟨h.1, Nat.lt_of_lt_of_le h.2.1 hx.1.1, by rw [hx.2 p h.2.1 (fun b x q => by rw [h.2.2] at q; cases q)]; exact h.2.2⟩
theorem dOb.zf (h : dOb F ρ p ci fs) (hF : S + cF n ≤ F) : zfs (cW S n C ρ) p ci = some fs := by
  simp only [zfs, cW_out (Or.inr (Nat.le_trans hF h.1)), h.2.2, if_true]
theorem dOb.cls (h : dOb F ρ p ci fs) (hF : S + cF n ≤ F) : zcls (cW S n C ρ) p = some ci := by
  simp only [zcls, cW_out (Or.inr (Nat.le_trans hF h.1)), h.2.2]
theorem dOb.is (h : dOb F ρ p ci fs) (hF : S + cF n ≤ F) : zis (cW S n C ρ) p ci = some () := by
  simp only [zis, dOb.cls h hF, if_true]
theorem dOb.gI {x : Int32} (h : dOb F ρ p ci fs) (hF : S + cF n ≤ F) (hk : fs[k]? = some (.int x)) : zgI (cW S n C ρ) p ci k = some x := by
  simp only [zgI, dOb.zf h hF, hk]
theorem dOb.gL {x : Int64} (h : dOb F ρ p ci fs) (hF : S + cF n ≤ F) (hk : fs[k]? = some (.long x)) : zgL (cW S n C ρ) p ci k = some x := by
  simp only [zgL, dOb.zf h hF, hk]
theorem dOb.gR {r : Option Nat} (h : dOb F ρ p ci fs) (hF : S + cF n ≤ F) (hk : fs[k]? = some (va_rf r)) : zgR (cW S n C ρ) p ci k = some r := by
  cases r with
  | none =>
    have hk2 : fs[k]? = some .null := hk
    simp only [zgR, dOb.zf h hF, hk2]
  | some q =>
    have hk2 : fs[k]? = some (.ref q) := hk
    simp only [zgR, dOb.zf h hF, hk2]
theorem dOb.okE (h : dOb F ρ p ci fs) (h2 : zasg.contains (10, ci) = true) : okE F ρ p := ⟨h.1, h.2.1, ci, fs, h.2.2, h2⟩
theorem dOb.new {y k : Nat} (hF : F ≤ ρ.1) : dOb F (znew ρ k (.inr (ci, fs))) ρ.1 ci fs := ⟨hF, by show ρ.1 < ρ.1 + 1; omega, by simp only [znew, va_up, if_true]⟩
theorem dOb.upd {fs' : List Value} (h : dOb F ρ p ci fs) : dOb F (zupd ρ p (.inr (ci, fs'))) p ci fs' := ⟨h.1, h.2.1, by simp only [zupd, va_up, if_true]⟩
theorem dOb.put {v : Value} (h : dOb F ρ p ci fs) (hF : S + cF n ≤ F) (hk : k < fs.length) : zpF (cW S n C ρ) p ci k v = some (cW S n C (zupd ρ p (.inr (ci, fs.set k v)))) := by
  have h4 : k < fs.length ∧ zown (cW S n C ρ) p = true := ⟨hk, d_own h.2.2 (Or.inr (Nat.le_trans hF h.1))⟩
  simp only [zpF, dOb.zf h hF, if_pos h4]
  rw [cW_zupd (Or.inr (Nat.le_trans hF h.1))]
/-- new, then filled in -/
theorem dX.new {k : Nat} {y : zY} : dX ρ (znew ρ k y) := ⟨⟨by show ρ.1 ≤ ρ.1 + 1; omega, by show ρ.2.1 ≤ ρ.2.1 + k; omega⟩, fun p hp _ => by
  have hpa : ¬ p = ρ.1 := by omega
  simp only [znew, va_up, if_neg hpa]⟩
theorem zupd2 {a : Nat} {y1 y2 : zY} : zupd (zupd ρ a y1) a y2 = zupd ρ a y2 := by
  unfold zupd
  refine congrArg (fun q => (ρ.1, ρ.2.1, q)) ?_
  funext b
  unfold va_up
  dsimp only
  split <;> rfl
theorem zupd_new {k : Nat} {y1 y2 : zY} : zupd (znew ρ k y1) ρ.1 y2 = znew ρ k y2 := by
  unfold zupd znew
  refine congrArg (fun q => (ρ.1 + 1, ρ.2.1 + k, q)) ?_
  funext b
  unfold va_up
  dsimp only
  split <;> rfl
end DOB
def isBlk (F : Nat) (ρ : zS) (p x c : Nat) : Prop := dOb F ρ p 7 [.int (zi x), .int (zi c)]
def isEv (F : Nat) (ρ : zS) (p x u : Nat) (ct : Int64) (d : Int32) : Prop := dOb F ρ p 10 [.int (zi x), .int (zi u), .long ct, .int d]
section CBOOK
variable {g : zG} {e S F n i s b : Nat} {C C' : cS} {ρ ρ' : zS} {f f' : Nat → Nat → Nat}
theorem Y_unrep (hi : i < n) (hs : s < 3) (h : C.1 (oBs i s) 4 ≤ C.1 (oLs i s 1) 1) : s_BranchSeries_unreported g (S + oBs i s) (cW S n C ρ) = some (zi (C.1 (oLs i s 1) 1 - C.1 (oBs i s) 4), cW S n C ρ) := by
  simp (config := { maxSteps := 2000000 }) (disch := (first | omega | (simp only [oBr, oBa, oBs, oLs, oOf, oSa, oSb, oHo, oFa, oCe, oDe, oSt, oAn, oPo]; omega))) only [s_BranchSeries_unreported, s_ArrayList_size, x_isBr, x_clBr, x_gBr0, x_gBr1, x_gBr2, x_pBr2, x_qBr2, x_gBr3, x_pBr3, x_gBr4, x_pBr4, x_gBr5, x_pBr5, x_qBr5, x_gBr6, x_pBr6, x_gBr7, x_pBr7, x_gBr8, x_pBr8, x_isBs, x_clBs, x_gBs0, x_gBs1, x_gBs2, x_pBs2, x_gBs3, x_pBs3, x_gBs4, x_pBs4, x_gBs5, x_pBs5, x_gBs6, x_pBs6, x_gBs7, x_pBs7, x_gBs8, x_pBs8, x_gBs9, x_pBs9, x_isLs, x_clLs, x_gLs0, x_pLs0, x_qLs0, x_gLs1, x_pLs1, x_gLs2, x_pLs2, x_isPo, x_clPo, x_gPo0, x_pPo0, x_qPo0, x_gPo1, x_pPo1, x_gPo2, x_pPo2, x_isOf, x_clOf, x_gOf0, x_gOf1, x_gOf2, x_gOf3, x_gOf4, x_gOf5, x_gOf6, x_pOf6, x_isSb, x_clSb, x_gSb0, x_pSb0, x_gSb1, x_pSb1, x_gSb2, x_pSb2, x_gSb3, x_gSb4, x_gSb5, x_gSb6, x_gSb7, x_pSb7, x_qSb7, x_rHo, x_wHo, x_rFa, x_wFa, x_rCe, x_wCe, x_rDe, x_wDe, x_rSt, x_wSt, x_lSt, x_rAn, c_gNo0, c_gNo1, c_gNo2, c_isNo, c_aNa, c_lNa, c_aBa, c_aSa0, c_aSa1, cSN_at, cSN_21, cSN_221, cSN_222, cSI_1, cSI_at, cSI_221, cSI_222, cSL_1, cSL_21, cSL_at, cSL_222, cSP_1, cSP_21, cSP_221, cSP_at, zi_l0, zi_l1, zi_l2, zi_l3, zi_l4, zi_l5, zi_l6, zi_l7, zi_l8, zi_l9, zi_l10, zi_l12, zi_l18, zi_l20, zi_l30, zi_l32, zi_l36, zi_l48, zi_l64, zi_l99, zi_l100, zi_l300, zi_l512, zi_l600, zi_l900, zi_l1800, zi_l9999, Option.bind_some, zi_lt0, zi_ge0, zi_01, zi_add, zi_mul, zi_sub, zi_lt, zi_le, zi_eq, zi_bool, zi_byte, zi_short, zi_t8, zi_t16, nlt_T, nlt_F, nle_T, nle_F, neq_T, neq_F, ↓reduceIte, or_true, true_or, and_self, and_true, true_and, and_false, false_and, or_false, false_or, or_self, not_true_eq_false, not_false_eq_true]
theorem Y_openB (hi : i < n) (hs : s < 3) (h : C.1 (oBs i s) 2 ≤ C.1 (oLs i s 0) 1) : s_BranchSeries_openBlocks g (S + oBs i s) (cW S n C ρ) = some (zi (C.1 (oLs i s 0) 1 - C.1 (oBs i s) 2), cW S n C ρ) := by
  simp (config := { maxSteps := 2000000 }) (disch := (first | omega | (simp only [oBr, oBa, oBs, oLs, oOf, oSa, oSb, oHo, oFa, oCe, oDe, oSt, oAn, oPo]; omega))) only [s_BranchSeries_openBlocks, s_ArrayList_size, x_isBr, x_clBr, x_gBr0, x_gBr1, x_gBr2, x_pBr2, x_qBr2, x_gBr3, x_pBr3, x_gBr4, x_pBr4, x_gBr5, x_pBr5, x_qBr5, x_gBr6, x_pBr6, x_gBr7, x_pBr7, x_gBr8, x_pBr8, x_isBs, x_clBs, x_gBs0, x_gBs1, x_gBs2, x_pBs2, x_gBs3, x_pBs3, x_gBs4, x_pBs4, x_gBs5, x_pBs5, x_gBs6, x_pBs6, x_gBs7, x_pBs7, x_gBs8, x_pBs8, x_gBs9, x_pBs9, x_isLs, x_clLs, x_gLs0, x_pLs0, x_qLs0, x_gLs1, x_pLs1, x_gLs2, x_pLs2, x_isPo, x_clPo, x_gPo0, x_pPo0, x_qPo0, x_gPo1, x_pPo1, x_gPo2, x_pPo2, x_isOf, x_clOf, x_gOf0, x_gOf1, x_gOf2, x_gOf3, x_gOf4, x_gOf5, x_gOf6, x_pOf6, x_isSb, x_clSb, x_gSb0, x_pSb0, x_gSb1, x_pSb1, x_gSb2, x_pSb2, x_gSb3, x_gSb4, x_gSb5, x_gSb6, x_gSb7, x_pSb7, x_qSb7, x_rHo, x_wHo, x_rFa, x_wFa, x_rCe, x_wCe, x_rDe, x_wDe, x_rSt, x_wSt, x_lSt, x_rAn, c_gNo0, c_gNo1, c_gNo2, c_isNo, c_aNa, c_lNa, c_aBa, c_aSa0, c_aSa1, cSN_at, cSN_21, cSN_221, cSN_222, cSI_1, cSI_at, cSI_221, cSI_222, cSL_1, cSL_21, cSL_at, cSL_222, cSP_1, cSP_21, cSP_221, cSP_at, zi_l0, zi_l1, zi_l2, zi_l3, zi_l4, zi_l5, zi_l6, zi_l7, zi_l8, zi_l9, zi_l10, zi_l12, zi_l18, zi_l20, zi_l30, zi_l32, zi_l36, zi_l48, zi_l64, zi_l99, zi_l100, zi_l300, zi_l512, zi_l600, zi_l900, zi_l1800, zi_l9999, Option.bind_some, zi_lt0, zi_ge0, zi_01, zi_add, zi_mul, zi_sub, zi_lt, zi_le, zi_eq, zi_bool, zi_byte, zi_short, zi_t8, zi_t16, nlt_T, nlt_F, nle_T, nle_F, neq_T, neq_F, ↓reduceIte, or_true, true_or, and_self, and_true, true_and, and_false, false_and, or_false, false_or, or_self, not_true_eq_false, not_false_eq_true]
def cSvK (C : cS) (i s : Nat) : cS := cSN (cSN (cSN (cSN (cSN C (oBs i s) 5 (C.1 (oLs i s 0) 1)) (oBs i s) 6 (C.1 (oLs i s 1) 1)) (oBs i s) 7 (C.1 (oBs i s) 2)) (oBs i s) 8 (C.1 (oBs i s) 3)) (oBs i s) 9 (C.1 (oBs i s) 4)
theorem Y_saveK (hi : i < n) (hs : s < 3) : s_BranchSeries_save g (S + oBs i s) (cW S n C ρ) = some (cW S n (cSvK C i s) ρ) := by
  unfold cSvK
  simp (config := { maxSteps := 2000000 }) (disch := (first | omega | (simp only [oBr, oBa, oBs, oLs, oOf, oSa, oSb, oHo, oFa, oCe, oDe, oSt, oAn, oPo]; omega))) only [s_BranchSeries_save, s_ArrayList_size, x_isBr, x_clBr, x_gBr0, x_gBr1, x_gBr2, x_pBr2, x_qBr2, x_gBr3, x_pBr3, x_gBr4, x_pBr4, x_gBr5, x_pBr5, x_qBr5, x_gBr6, x_pBr6, x_gBr7, x_pBr7, x_gBr8, x_pBr8, x_isBs, x_clBs, x_gBs0, x_gBs1, x_gBs2, x_pBs2, x_gBs3, x_pBs3, x_gBs4, x_pBs4, x_gBs5, x_pBs5, x_gBs6, x_pBs6, x_gBs7, x_pBs7, x_gBs8, x_pBs8, x_gBs9, x_pBs9, x_isLs, x_clLs, x_gLs0, x_pLs0, x_qLs0, x_gLs1, x_pLs1, x_gLs2, x_pLs2, x_isPo, x_clPo, x_gPo0, x_pPo0, x_qPo0, x_gPo1, x_pPo1, x_gPo2, x_pPo2, x_isOf, x_clOf, x_gOf0, x_gOf1, x_gOf2, x_gOf3, x_gOf4, x_gOf5, x_gOf6, x_pOf6, x_isSb, x_clSb, x_gSb0, x_pSb0, x_gSb1, x_pSb1, x_gSb2, x_pSb2, x_gSb3, x_gSb4, x_gSb5, x_gSb6, x_gSb7, x_pSb7, x_qSb7, x_rHo, x_wHo, x_rFa, x_wFa, x_rCe, x_wCe, x_rDe, x_wDe, x_rSt, x_wSt, x_lSt, x_rAn, c_gNo0, c_gNo1, c_gNo2, c_isNo, c_aNa, c_lNa, c_aBa, c_aSa0, c_aSa1, cSN_at, cSN_21, cSN_221, cSN_222, cSI_1, cSI_at, cSI_221, cSI_222, cSL_1, cSL_21, cSL_at, cSL_222, cSP_1, cSP_21, cSP_221, cSP_at, zi_l0, zi_l1, zi_l2, zi_l3, zi_l4, zi_l5, zi_l6, zi_l7, zi_l8, zi_l9, zi_l10, zi_l12, zi_l18, zi_l20, zi_l30, zi_l32, zi_l36, zi_l48, zi_l64, zi_l99, zi_l100, zi_l300, zi_l512, zi_l600, zi_l900, zi_l1800, zi_l9999, Option.bind_some, zi_lt0, zi_ge0, zi_01, zi_add, zi_mul, zi_sub, zi_lt, zi_le, zi_eq, zi_bool, zi_byte, zi_short, zi_t8, zi_t16, nlt_T, nlt_F, nle_T, nle_F, neq_T, neq_F, ↓reduceIte, or_true, true_or, and_self, and_true, true_and, and_false, false_and, or_false, false_or, or_self, not_true_eq_false, not_false_eq_true]
theorem Y_next (h : LLs e S F n C ρ f) (hi : i < n) (hs : s < 3) (h6 : C.1 (oBs i s) 2 < 2147483648) (hb : C.1 (oBs i s) 2 < C.1 (oLs i s 0) 1) {x c : Nat} (hB : isBlk F ρ (f (oLs i s 0) (C.1 (oBs i s) 2)) x c) : s_BranchSeries_nextBlock g (S + oBs i s) (cW S n C ρ) = some (some (f (oLs i s 0) (C.1 (oBs i s) 2)), cW S n C ρ) := by
  have q1 := L_get (g := g) h (ck_Ls hi hs (show 0 < 2 by decide)) (lt_Ls hi hs (by decide)) hb
  have q2 := (h.2.1 _ (ck_Ls hi hs (show 0 < 2 by decide)) (lt_Ls hi hs (by decide))).1
  have q3 := dOb.is (C := C) hB h.1.2.1
  simp (config := { maxSteps := 2000000 }) (disch := (first | omega | (simp only [oBr, oBa, oBs, oLs, oOf, oSa, oSb, oHo, oFa, oCe, oDe, oSt, oAn, oPo]; omega))) only [s_BranchSeries_nextBlock, s_BranchSeries_nextBlock_32, s_ArrayList_size, q1, q3, x_isBr, x_clBr, x_gBr0, x_gBr1, x_gBr2, x_pBr2, x_qBr2, x_gBr3, x_pBr3, x_gBr4, x_pBr4, x_gBr5, x_pBr5, x_qBr5, x_gBr6, x_pBr6, x_gBr7, x_pBr7, x_gBr8, x_pBr8, x_isBs, x_clBs, x_gBs0, x_gBs1, x_gBs2, x_pBs2, x_gBs3, x_pBs3, x_gBs4, x_pBs4, x_gBs5, x_pBs5, x_gBs6, x_pBs6, x_gBs7, x_pBs7, x_gBs8, x_pBs8, x_gBs9, x_pBs9, x_isLs, x_clLs, x_gLs0, x_pLs0, x_qLs0, x_gLs1, x_pLs1, x_gLs2, x_pLs2, x_isPo, x_clPo, x_gPo0, x_pPo0, x_qPo0, x_gPo1, x_pPo1, x_gPo2, x_pPo2, x_isOf, x_clOf, x_gOf0, x_gOf1, x_gOf2, x_gOf3, x_gOf4, x_gOf5, x_gOf6, x_pOf6, x_isSb, x_clSb, x_gSb0, x_pSb0, x_gSb1, x_pSb1, x_gSb2, x_pSb2, x_gSb3, x_gSb4, x_gSb5, x_gSb6, x_gSb7, x_pSb7, x_qSb7, x_rHo, x_wHo, x_rFa, x_wFa, x_rCe, x_wCe, x_rDe, x_wDe, x_rSt, x_wSt, x_lSt, x_rAn, c_gNo0, c_gNo1, c_gNo2, c_isNo, c_aNa, c_lNa, c_aBa, c_aSa0, c_aSa1, cSN_at, cSN_21, cSN_221, cSN_222, cSI_1, cSI_at, cSI_221, cSI_222, cSL_1, cSL_21, cSL_at, cSL_222, cSP_1, cSP_21, cSP_221, cSP_at, zi_l0, zi_l1, zi_l2, zi_l3, zi_l4, zi_l5, zi_l6, zi_l7, zi_l8, zi_l9, zi_l10, zi_l12, zi_l18, zi_l20, zi_l30, zi_l32, zi_l36, zi_l48, zi_l64, zi_l99, zi_l100, zi_l300, zi_l512, zi_l600, zi_l900, zi_l1800, zi_l9999, Option.bind_some, zi_lt0, zi_ge0, zi_01, zi_add, zi_mul, zi_sub, zi_lt, zi_le, zi_eq, zi_bool, zi_byte, zi_short, zi_t8, zi_t16, nlt_T, nlt_F, nle_T, nle_F, neq_T, neq_F, ↓reduceIte, or_true, true_or, and_self, and_true, true_and, and_false, false_and, or_false, false_or, or_self, not_true_eq_false, not_false_eq_true]
theorem Y_next0 (h : LLs e S F n C ρ f) (hi : i < n) (hs : s < 3) (h6 : C.1 (oBs i s) 2 < 2147483648) (hb : C.1 (oLs i s 0) 1 ≤ C.1 (oBs i s) 2) : s_BranchSeries_nextBlock g (S + oBs i s) (cW S n C ρ) = some (none, cW S n C ρ) := by
  have q2 := (h.2.1 _ (ck_Ls hi hs (show 0 < 2 by decide)) (lt_Ls hi hs (by decide))).1
  simp (config := { maxSteps := 2000000 }) (disch := (first | omega | (simp only [oBr, oBa, oBs, oLs, oOf, oSa, oSb, oHo, oFa, oCe, oDe, oSt, oAn, oPo]; omega))) only [s_BranchSeries_nextBlock, s_BranchSeries_nextBlock_32, s_ArrayList_size, x_isBr, x_clBr, x_gBr0, x_gBr1, x_gBr2, x_pBr2, x_qBr2, x_gBr3, x_pBr3, x_gBr4, x_pBr4, x_gBr5, x_pBr5, x_qBr5, x_gBr6, x_pBr6, x_gBr7, x_pBr7, x_gBr8, x_pBr8, x_isBs, x_clBs, x_gBs0, x_gBs1, x_gBs2, x_pBs2, x_gBs3, x_pBs3, x_gBs4, x_pBs4, x_gBs5, x_pBs5, x_gBs6, x_pBs6, x_gBs7, x_pBs7, x_gBs8, x_pBs8, x_gBs9, x_pBs9, x_isLs, x_clLs, x_gLs0, x_pLs0, x_qLs0, x_gLs1, x_pLs1, x_gLs2, x_pLs2, x_isPo, x_clPo, x_gPo0, x_pPo0, x_qPo0, x_gPo1, x_pPo1, x_gPo2, x_pPo2, x_isOf, x_clOf, x_gOf0, x_gOf1, x_gOf2, x_gOf3, x_gOf4, x_gOf5, x_gOf6, x_pOf6, x_isSb, x_clSb, x_gSb0, x_pSb0, x_gSb1, x_pSb1, x_gSb2, x_pSb2, x_gSb3, x_gSb4, x_gSb5, x_gSb6, x_gSb7, x_pSb7, x_qSb7, x_rHo, x_wHo, x_rFa, x_wFa, x_rCe, x_wCe, x_rDe, x_wDe, x_rSt, x_wSt, x_lSt, x_rAn, c_gNo0, c_gNo1, c_gNo2, c_isNo, c_aNa, c_lNa, c_aBa, c_aSa0, c_aSa1, cSN_at, cSN_21, cSN_221, cSN_222, cSI_1, cSI_at, cSI_221, cSI_222, cSL_1, cSL_21, cSL_at, cSL_222, cSP_1, cSP_21, cSP_221, cSP_at, zi_l0, zi_l1, zi_l2, zi_l3, zi_l4, zi_l5, zi_l6, zi_l7, zi_l8, zi_l9, zi_l10, zi_l12, zi_l18, zi_l20, zi_l30, zi_l32, zi_l36, zi_l48, zi_l64, zi_l99, zi_l100, zi_l300, zi_l512, zi_l600, zi_l900, zi_l1800, zi_l9999, Option.bind_some, zi_lt0, zi_ge0, zi_01, zi_add, zi_mul, zi_sub, zi_lt, zi_le, zi_eq, zi_bool, zi_byte, zi_short, zi_t8, zi_t16, nlt_T, nlt_F, nle_T, nle_F, neq_T, neq_F, ↓reduceIte, or_true, true_or, and_self, and_true, true_and, and_false, false_and, or_false, false_or, or_self, not_true_eq_false, not_false_eq_true]
theorem Y_holds {p x c : Nat} {y : Int32} (hF : S + cF n ≤ F) (hB : isBlk F ρ p x c) (hx : x + c < 2147483648) : s_Block_holds g p y (cW S n C ρ) = some (if zi x ≤ y ∧ y < zi (x + c) then zi 1 else zi 0, cW S n C ρ) := by
  have q1 : zgI (cW S n C ρ) p 7 0 = some (zi x) := dOb.gI hB hF rfl
  have q2 : zgI (cW S n C ρ) p 7 1 = some (zi c) := dOb.gI hB hF rfl
  unfold s_Block_holds s_Block_holds_25 s_Block_holds_26
  simp only [q1, q2, Option.bind_some, zi_add]
  by_cases h1 : y < zi x
  · have c1 : ¬ (zi x ≤ y ∧ y < zi (x + c)) := fun q => Int32.not_le.mpr h1 q.1
    rw [if_pos h1, if_neg c1, if_pos (Or.inl trivial)]
    rfl
  · rw [if_neg h1]
    by_cases h2 : zi (x + c) ≤ y
    · have c1 : ¬ (zi x ≤ y ∧ y < zi (x + c)) := fun q => Int32.not_le.mpr q.2 h2
      rw [if_pos h2, if_neg c1, if_pos (Or.inl trivial)]
      rfl
    · have c1 : zi x ≤ y ∧ y < zi (x + c) := ⟨Int32.not_lt.mp h1, Int32.not_le.mp h2⟩
      rw [if_neg h2, if_pos c1, if_pos (Or.inr trivial)]
      rfl
theorem cW_1 : (cW S n C ρ).1 = ρ.1 := rfl
theorem d_pnew {m ci k : Nat} {v : Value} {fs : List Value} (hF : S + cF n ≤ ρ.1) (hk : k < fs.length) : zpF (cW S n C (znew ρ m (.inr (ci, fs)))) ρ.1 ci k v = some (cW S n C (znew ρ m (.inr (ci, fs.set k v)))) := by
  have h : dOb (S + cF n) (znew ρ m (.inr (ci, fs))) ρ.1 ci fs := dOb.new (y := 0) hF
  rw [dOb.put h (Nat.le_refl _) hk, zupd_new]
theorem LLs.new {k : Nat} {y : zY} (h : LLs e S F n C ρ f) : LLs e S F n C (znew ρ k y) f := LLs.mono h (fun j _ _ => ⟨rfl, rfl⟩) (by show ρ.1 ≤ ρ.1 + 1; omega) (fun p hp _ => by
  have hpa : ¬ p = ρ.1 := by omega
  simp only [znew, va_up, if_neg hpa])
theorem Y_evInit {x u : Nat} {ct : Int64} {d : Int32} (hF : S + cF n ≤ ρ.1) (hu : u < 2) : s_Event_init g ρ.1 (zi x) (zi u) ct d (cW S n C (znew ρ 4 (.inr (10, [.int 0, .int 0, .long 0, .int 0])))) = some (cW S n C (znew ρ 4 (.inr (10, [.int (zi x), .int (zi u), .long ct, .int d])))) := by
  unfold s_Event_init
  rw [d_pnew hF (by decide)]
  simp only [Option.bind_some, zi_01 hu, if_true]
  rw [d_pnew hF (by simp only [List.length_set]; decide)]
  simp only [Option.bind_some]
  rw [d_pnew hF (by simp only [List.length_set]; decide)]
  simp only [Option.bind_some]
  rw [d_pnew hF (by simp only [List.length_set]; decide)]
  rfl
theorem Y_addEv {x u : Nat} {ct : Int64} {d : Int32} (h : LLs e S F n C ρ f) (hg : g 0 = some e) (hg2 : ∃ mi, g 10 = some mi) (hi : i < n) (hs : s < 3) (hu : u < 2) (h6 : C.1 (oLs i s 1) 1 < 600) : ∃ C' ρ', s_BranchSeries_addEvent g (S + oBs i s) (zi x) (zi u) ct d (cW S n C ρ) = some (cW S n C' ρ') ∧ LLs e S F n C' ρ' (fSet f (oLs i s 1) (C.1 (oLs i s 1) 1) ρ.1) ∧ isEv F ρ' ρ.1 x u ct d ∧ C'.1 (oLs i s 1) 1 = C.1 (oLs i s 1) 1 + 1 ∧ sameC (oLs i s 1) C C' ∧ dX ρ ρ' ∧ ρ'.1 ≤ ρ.1 + 2 ∧ ρ'.2.1 ≤ ρ.2.1 + 1004 := by
  have hF := h.1.2.1
  have hF2 := h.1.2.2.1
  have q1 := Y_evInit (g := g) (C := C) (x := x) (u := u) (ct := ct) (d := d) (Nat.le_trans hF hF2) hu
  have q2 : isEv F (znew ρ 4 (.inr (10, [.int (zi x), .int (zi u), .long ct, .int d]))) ρ.1 x u ct d := dOb.new (y := 0) hF2
  obtain ⟨C', ρ', a1, a2, a3, a4, a5, a6, a7⟩ := L_add (g := g) (r := ρ.1) (h.new (k := 4) (y := .inr (10, [.int (zi x), .int (zi u), .long ct, .int d]))) hg hg2 (ck_Ls hi hs (show 1 < 2 by decide)) (lt_Ls hi hs (by decide)) (dOb.okE q2 (by decide)) h6
  refine ⟨C', ρ', ?_, a2, dOb.mono q2 a5, a3, a4, dX.new.trans a5, ?_, ?_⟩
  · unfold s_BranchSeries_addEvent
    simp only [x_gBs1 hi hs, Option.bind_some, cW_1]
    rw [cW_znew (Nat.le_trans hF hF2), q1]
    simp only [Option.bind_some, x_isLs hi hs (show 1 < 2 by decide), a1]
  · have : ρ'.1 ≤ (ρ.1 + 1) + 1 := a6
    omega
  · have : ρ'.2.1 ≤ (ρ.2.1 + 4) + 1000 := a7
    omega
/-- the class's registers after a number was used up -/
def cUse (C : cS) (i s c : Nat) : cS := if C.1 (oBs i s) 3 + 1 < c then cSN C (oBs i s) 3 (C.1 (oBs i s) 3 + 1) else cSN (cSN (cSN C (oBs i s) 3 (C.1 (oBs i s) 3 + 1)) (oBs i s) 2 (C.1 (oBs i s) 2 + 1)) (oBs i s) 3 0
theorem Y_useUp0 {v1 : Int32} {v2 : Int64} {v4 : Int32} (h : LLs e S F n C ρ f) (hi : i < n) (hs : s < 3) (h6 : C.1 (oBs i s) 2 < 2147483648) (hb : C.1 (oLs i s 0) 1 ≤ C.1 (oBs i s) 2) : s_BranchSeries_useUpNext g (S + oBs i s) v1 v2 v4 (cW S n C ρ) = some (-1, cW S n C ρ) := by
  have q := Y_next0 (g := g) h hi hs h6 hb
  unfold s_BranchSeries_useUpNext
  simp only [x_isBs hi hs, Option.bind_some, q]
theorem LLs.same (h : LLs e S F n C ρ f) (hC : ∀ j, ck n j = 5 → j < cF n → C'.1 j = C.1 j ∧ C'.2.2.2 j = C.2.2.2 j) : LLs e S F n C' ρ f := LLs.mono h (fun j a b => ⟨by rw [(hC j a b).1], by rw [(hC j a b).2]⟩) (Nat.le_refl _) (fun _ _ _ => rfl)
theorem ne_Bs {j : Nat} (hi : i < n) (hs : s < 3) (hj : ck n j = 5) : ¬ j = oBs i s := by
  intro q
  rw [q, ck_Bs hi hs] at hj
  cases hj
theorem LLs.useN {k v : Nat} (h : LLs e S F n C ρ f) (hi : i < n) (hs : s < 3) : LLs e S F n (cSN C (oBs i s) k v) ρ f := h.same (fun j hj _ => ⟨(sameC.N j (ne_Bs hi hs hj)).1, rfl⟩)
theorem Y_useUp {x c u : Nat} {ct : Int64} {d : Int32} (h : LLs e S F n C ρ f) (hg : g 0 = some e) (hg2 : ∃ mi, g 10 = some mi) (hi : i < n) (hs : s < 3) (hb : C.1 (oBs i s) 2 < C.1 (oLs i s 0) 1) (hB : isBlk F ρ (f (oLs i s 0) (C.1 (oBs i s) 2)) x c) (hx : x + c ≤ 1000) (hc : C.1 (oBs i s) 3 < c) (hu : u < 2) (h6 : C.1 (oLs i s 1) 1 < 600) : ∃ C' ρ', s_BranchSeries_useUpNext g (S + oBs i s) (zi u) ct d (cW S n C ρ) = some (zi (x + C.1 (oBs i s) 3), cW S n C' ρ') ∧ LLs e S F n C' ρ' (fSet f (oLs i s 1) (C.1 (oLs i s 1) 1) ρ.1) ∧ isEv F ρ' ρ.1 (x + C.1 (oBs i s) 3) u ct d ∧ C'.1 (oLs i s 1) 1 = C.1 (oLs i s 1) 1 + 1 ∧ sameC (oLs i s 1) (cUse C i s c) C' ∧ dX ρ ρ' ∧ ρ'.1 ≤ ρ.1 + 2 ∧ ρ'.2.1 ≤ ρ.2.1 + 1004 := by
  have hF := h.1.2.1
  have q0 := (h.2.1 _ (ck_Ls hi hs (show 0 < 2 by decide)) (lt_Ls hi hs (by decide))).1
  have q := Y_next (g := g) h hi hs (by omega) hb hB
  have q2 : ∀ C2 : cS, zgI (cW S n C2 ρ) (f (oLs i s 0) (C.1 (oBs i s) 2)) 7 0 = some (zi x) := fun C2 => dOb.gI hB hF rfl
  have q3 : ∀ C2 : cS, zgI (cW S n C2 ρ) (f (oLs i s 0) (C.1 (oBs i s) 2)) 7 1 = some (zi c) := fun C2 => dOb.gI hB hF rfl
  have hne : ¬ oLs i s 1 = oBs i s := ne_Bs hi hs (ck_Ls hi hs (by decide))
  by_cases hl : C.1 (oBs i s) 3 + 1 < c
  · have e0 : cUse C i s c = cSN C (oBs i s) 3 (C.1 (oBs i s) 3 + 1) := if_pos hl
    have e1 : (cSN C (oBs i s) 3 (C.1 (oBs i s) 3 + 1)).1 (oLs i s 1) 1 = C.1 (oLs i s 1) 1 := if_neg (fun q => hne q.1)
    obtain ⟨C', ρ', a1, a2, a3, a4, a5, a6⟩ := Y_addEv (g := g) (x := x + C.1 (oBs i s) 3) (u := u) (ct := ct) (d := d) (h.useN (k := 3) (v := C.1 (oBs i s) 3 + 1) hi hs) hg hg2 hi hs hu (by rw [e1]; exact h6)
    rw [e1] at a2 a4
    rw [e0]
    refine ⟨C', ρ', ?_, a2, a3, a4, a5, a6⟩
    unfold s_BranchSeries_useUpNext
    simp only [x_isBs hi hs, Option.bind_some, q]
    simp (config := { maxSteps := 2000000 }) (disch := (first | omega | (simp only [oBr, oBa, oBs, oLs, oOf, oSa, oSb, oHo, oFa, oCe, oDe, oSt, oAn, oPo]; omega))) only [q2, q3, s_BranchSeries_useUpNext_62, a1, x_isBr, x_clBr, x_gBr0, x_gBr1, x_gBr2, x_pBr2, x_qBr2, x_gBr3, x_pBr3, x_gBr4, x_pBr4, x_gBr5, x_pBr5, x_qBr5, x_gBr6, x_pBr6, x_gBr7, x_pBr7, x_gBr8, x_pBr8, x_isBs, x_clBs, x_gBs0, x_gBs1, x_gBs2, x_pBs2, x_gBs3, x_pBs3, x_gBs4, x_pBs4, x_gBs5, x_pBs5, x_gBs6, x_pBs6, x_gBs7, x_pBs7, x_gBs8, x_pBs8, x_gBs9, x_pBs9, x_isLs, x_clLs, x_gLs0, x_pLs0, x_qLs0, x_gLs1, x_pLs1, x_gLs2, x_pLs2, x_isPo, x_clPo, x_gPo0, x_pPo0, x_qPo0, x_gPo1, x_pPo1, x_gPo2, x_pPo2, x_isOf, x_clOf, x_gOf0, x_gOf1, x_gOf2, x_gOf3, x_gOf4, x_gOf5, x_gOf6, x_pOf6, x_isSb, x_clSb, x_gSb0, x_pSb0, x_gSb1, x_pSb1, x_gSb2, x_pSb2, x_gSb3, x_gSb4, x_gSb5, x_gSb6, x_gSb7, x_pSb7, x_qSb7, x_rHo, x_wHo, x_rFa, x_wFa, x_rCe, x_wCe, x_rDe, x_wDe, x_rSt, x_wSt, x_lSt, x_rAn, c_gNo0, c_gNo1, c_gNo2, c_isNo, c_aNa, c_lNa, c_aBa, c_aSa0, c_aSa1, cSN_at, cSN_21, cSN_221, cSN_222, cSI_1, cSI_at, cSI_221, cSI_222, cSL_1, cSL_21, cSL_at, cSL_222, cSP_1, cSP_21, cSP_221, cSP_at, zi_l0, zi_l1, zi_l2, zi_l3, zi_l4, zi_l5, zi_l6, zi_l7, zi_l8, zi_l9, zi_l10, zi_l12, zi_l18, zi_l20, zi_l30, zi_l32, zi_l36, zi_l48, zi_l64, zi_l99, zi_l100, zi_l300, zi_l512, zi_l600, zi_l900, zi_l1800, zi_l9999, Option.bind_some, zi_lt0, zi_ge0, zi_01, zi_add, zi_mul, zi_sub, zi_lt, zi_le, zi_eq, zi_bool, zi_byte, zi_short, zi_t8, zi_t16, nlt_T, nlt_F, nle_T, nle_F, neq_T, neq_F, ↓reduceIte, or_true, true_or, and_self, and_true, true_and, and_false, false_and, or_false, false_or, or_self, not_true_eq_false, not_false_eq_true]
  · have e0 : cUse C i s c = cSN (cSN (cSN C (oBs i s) 3 (C.1 (oBs i s) 3 + 1)) (oBs i s) 2 (C.1 (oBs i s) 2 + 1)) (oBs i s) 3 0 := if_neg hl
    have e1 : (cSN (cSN (cSN C (oBs i s) 3 (C.1 (oBs i s) 3 + 1)) (oBs i s) 2 (C.1 (oBs i s) 2 + 1)) (oBs i s) 3 0).1 (oLs i s 1) 1 = C.1 (oLs i s 1) 1 := by
      simp only [cSN_at, hne, false_and, if_false]
    obtain ⟨C', ρ', a1, a2, a3, a4, a5, a6⟩ := Y_addEv (g := g) (x := x + C.1 (oBs i s) 3) (u := u) (ct := ct) (d := d) (((h.useN (k := 3) (v := C.1 (oBs i s) 3 + 1) hi hs).useN (k := 2) (v := C.1 (oBs i s) 2 + 1) hi hs).useN (k := 3) (v := 0) hi hs) hg hg2 hi hs hu (by rw [e1]; exact h6)
    rw [e1] at a2 a4
    rw [e0]
    refine ⟨C', ρ', ?_, a2, a3, a4, a5, a6⟩
    unfold s_BranchSeries_useUpNext
    simp only [x_isBs hi hs, Option.bind_some, q]
    simp (config := { maxSteps := 2000000 }) (disch := (first | omega | (simp only [oBr, oBa, oBs, oLs, oOf, oSa, oSb, oHo, oFa, oCe, oDe, oSt, oAn, oPo]; omega))) only [q2, q3, s_BranchSeries_useUpNext_62, a1, x_isBr, x_clBr, x_gBr0, x_gBr1, x_gBr2, x_pBr2, x_qBr2, x_gBr3, x_pBr3, x_gBr4, x_pBr4, x_gBr5, x_pBr5, x_qBr5, x_gBr6, x_pBr6, x_gBr7, x_pBr7, x_gBr8, x_pBr8, x_isBs, x_clBs, x_gBs0, x_gBs1, x_gBs2, x_pBs2, x_gBs3, x_pBs3, x_gBs4, x_pBs4, x_gBs5, x_pBs5, x_gBs6, x_pBs6, x_gBs7, x_pBs7, x_gBs8, x_pBs8, x_gBs9, x_pBs9, x_isLs, x_clLs, x_gLs0, x_pLs0, x_qLs0, x_gLs1, x_pLs1, x_gLs2, x_pLs2, x_isPo, x_clPo, x_gPo0, x_pPo0, x_qPo0, x_gPo1, x_pPo1, x_gPo2, x_pPo2, x_isOf, x_clOf, x_gOf0, x_gOf1, x_gOf2, x_gOf3, x_gOf4, x_gOf5, x_gOf6, x_pOf6, x_isSb, x_clSb, x_gSb0, x_pSb0, x_gSb1, x_pSb1, x_gSb2, x_pSb2, x_gSb3, x_gSb4, x_gSb5, x_gSb6, x_gSb7, x_pSb7, x_qSb7, x_rHo, x_wHo, x_rFa, x_wFa, x_rCe, x_wCe, x_rDe, x_wDe, x_rSt, x_wSt, x_lSt, x_rAn, c_gNo0, c_gNo1, c_gNo2, c_isNo, c_aNa, c_lNa, c_aBa, c_aSa0, c_aSa1, cSN_at, cSN_21, cSN_221, cSN_222, cSI_1, cSI_at, cSI_221, cSI_222, cSL_1, cSL_21, cSL_at, cSL_222, cSP_1, cSP_21, cSP_221, cSP_at, zi_l0, zi_l1, zi_l2, zi_l3, zi_l4, zi_l5, zi_l6, zi_l7, zi_l8, zi_l9, zi_l10, zi_l12, zi_l18, zi_l20, zi_l30, zi_l32, zi_l36, zi_l48, zi_l64, zi_l99, zi_l100, zi_l300, zi_l512, zi_l600, zi_l900, zi_l1800, zi_l9999, Option.bind_some, zi_lt0, zi_ge0, zi_01, zi_add, zi_mul, zi_sub, zi_lt, zi_le, zi_eq, zi_bool, zi_byte, zi_short, zi_t8, zi_t16, nlt_T, nlt_F, nle_T, nle_F, neq_T, neq_F, ↓reduceIte, or_true, true_or, and_self, and_true, true_and, and_false, false_and, or_false, false_or, or_self, not_true_eq_false, not_false_eq_true]
end CBOOK
