section COFF2
variable {g : zG} {e S F n i s b a o c d k : Nat} {C C' : cS} {ρ ρ' : zS} {f f' : Nat → Nat → Nat}
/-! the office's copy, place by place -/
theorem cCpB_at (hcd : ¬ c = d) (hc : c < 2) (hd : d < 2) (hs : s < 3) : (∀ k, k < 3 → (cCpB C n c d s).1 (oSb n d s) k = C.1 (oSb n c s) k) ∧ (∀ k, k < 300 → (cCpB C n c d s).1 (oHo n d s) k = C.1 (oHo n c s) k) ∧ (∀ k, k < 300 → (cCpB C n c d s).1 (oFa n d s) k = C.1 (oFa n c s) k) ∧ (∀ k, k < 300 → (cCpB C n c d s).2.2.1 (oCe n d s) k = C.2.2.1 (oCe n c s) k) ∧ (∀ k, k < 300 → (cCpB C n c d s).2.1 (oDe n d s) k = C.2.1 (oDe n c s) k) ∧ (cCpB C n c d s).2.2.2 (oSb n d s) 7 = C.2.2.2 (oSb n c s) 7 := by
  have m1 : ¬ oSb n d s = oHo n d s := by unfold oSb oHo; omega
  have m2 : ¬ oSb n d s = oFa n d s := by unfold oSb oFa; omega
  have m3 : ¬ oHo n d s = oFa n d s := by unfold oHo oFa; omega
  have m5 : ¬ oHo n c s = oSb n d s := by unfold oHo oSb; omega
  have m6 : ¬ oFa n c s = oSb n d s := by unfold oFa oSb; omega
  have m7 : ¬ oFa n c s = oHo n d s := by unfold oFa oHo; omega
  have m8 : ¬ oSb n c s = oSb n d s := by unfold oSb; omega
  refine ⟨fun k hk => ?_, fun k hk => ?_, fun k hk => ?_, fun k hk => ?_, fun k hk => ?_, ?_⟩
  · simp only [cCpB, cSP_1, cCpI_1, cCpL_1, cCpN_at, cSN_at, m1, m2, false_and, if_false, true_and]
    have hk : k = 0 ∨ k = 1 ∨ k = 2 := by omega
    rcases hk with rfl | rfl | rfl <;> rfl
  · simp only [cCpB, cSP_1, cCpI_1, cCpL_1, cCpN_at, cSN_at, m3, m5, false_and, if_false, true_and, hk, if_true]
  · simp only [cCpB, cSP_1, cCpI_1, cCpL_1, cCpN_at, cSN_at, m6, m7, false_and, if_false, true_and, hk, if_true]
  · simp only [cCpB, cSP_221, cCpI_22, cCpL_at, cCpN_2, cSN_221, true_and, hk, if_true]
  · simp only [cCpB, cSP_21, cCpI_at, cCpL_21, cCpN_2, cSN_21, true_and, hk, if_true]
  · simp only [cCpB, cSP_at, and_self, if_true]
theorem bk_ne {s' : Nat} (hs : s < 3) (hs' : s' < 3) (hss : ¬ s = s') (hc : c < 2) (hd : d < 2) {x : Nat} (hx : x = oSb n c s ∨ x = oHo n c s ∨ x = oFa n c s ∨ x = oCe n c s ∨ x = oDe n c s) : ¬ x = oSb n d s' ∧ ¬ x = oHo n d s' ∧ ¬ x = oFa n d s' ∧ ¬ x = oCe n d s' ∧ ¬ x = oDe n d s' := by
  unfold oSb oHo oFa oCe oDe at *
  omega
theorem cCpB_fr1 {x : Nat} (h : ¬ x = oSb n d s ∧ ¬ x = oHo n d s ∧ ¬ x = oFa n d s ∧ ¬ x = oCe n d s ∧ ¬ x = oDe n d s) : same4 C (cCpB C n c d s) x := by
  obtain ⟨a1, a2, a3, a4, a5⟩ := h
  refine ⟨?_, ?_, ?_, ?_⟩
  · funext k
    simp only [cCpB, cSP_1, cCpI_1, cCpL_1, cCpN_at, cSN_at, a1, a2, a3, false_and, if_false]
  · funext k
    simp only [cCpB, cSP_21, cCpI_at, cCpL_21, cCpN_2, cSN_21, a5, false_and, if_false]
  · funext k
    simp only [cCpB, cSP_221, cCpI_22, cCpL_at, cCpN_2, cSN_221, a4, false_and, if_false]
  · funext k
    simp only [cCpB, cSP_at, cCpI_22, cCpL_222, cCpN_2, cSN_222, a1, false_and, if_false]
/-- book s of copy d is book s of copy c -/
def cpd (C C' : cS) (n c d s : Nat) : Prop := (∀ k, k < 3 → C'.1 (oSb n d s) k = C.1 (oSb n c s) k) ∧ (∀ k, k < 300 → C'.1 (oHo n d s) k = C.1 (oHo n c s) k) ∧ (∀ k, k < 300 → C'.1 (oFa n d s) k = C.1 (oFa n c s) k) ∧ (∀ k, k < 300 → C'.2.2.1 (oCe n d s) k = C.2.2.1 (oCe n c s) k) ∧ (∀ k, k < 300 → C'.2.1 (oDe n d s) k = C.2.1 (oDe n c s) k) ∧ C'.2.2.2 (oSb n d s) 7 = C.2.2.2 (oSb n c s) 7
theorem cpd.of {C1 C2 : cS} (h : cpd C1 C2 n c d s) (h1 : ∀ x, (x = oSb n c s ∨ x = oHo n c s ∨ x = oFa n c s ∨ x = oCe n c s ∨ x = oDe n c s) → same4 C C1 x) (h2 : ∀ x, (x = oSb n d s ∨ x = oHo n d s ∨ x = oFa n d s ∨ x = oCe n d s ∨ x = oDe n d s) → same4 C2 C' x) : cpd C C' n c d s := by
  obtain ⟨a1, a2, a3, a4, a5, a6⟩ := h
  have c1 := h1 _ (Or.inl rfl)
  have c2 := h1 _ (Or.inr (Or.inl rfl))
  have c3 := h1 _ (Or.inr (Or.inr (Or.inl rfl)))
  have c4 := h1 _ (Or.inr (Or.inr (Or.inr (Or.inl rfl))))
  have c5 := h1 _ (Or.inr (Or.inr (Or.inr (Or.inr rfl))))
  have d1 := h2 _ (Or.inl rfl)
  have d2 := h2 _ (Or.inr (Or.inl rfl))
  have d3 := h2 _ (Or.inr (Or.inr (Or.inl rfl)))
  have d4 := h2 _ (Or.inr (Or.inr (Or.inr (Or.inl rfl))))
  have d5 := h2 _ (Or.inr (Or.inr (Or.inr (Or.inr rfl))))
  exact ⟨fun k hk => by rw [d1.1, a1 k hk, c1.1], fun k hk => by rw [d2.1, a2 k hk, c2.1], fun k hk => by rw [d3.1, a3 k hk, c3.1], fun k hk => by rw [d4.2.2.1, a4 k hk, c4.2.2.1], fun k hk => by rw [d5.2.1, a5 k hk, c5.2.1], by rw [d1.2.2.2, a6, c1.2.2.2]⟩
theorem same4.refl {j : Nat} : same4 C C j := ⟨rfl, rfl, rfl, rfl⟩
theorem cCpA_fr {x K : Nat} (h1 : ¬ x = oSt n d) (h2 : ¬ x = oAn n d) : same4 C (cCpA C n c d K) x := by
  refine ⟨?_, rfl, rfl, ?_⟩
  · funext k
    exact if_neg (fun q => h1 q.1)
  · funext k
    exact if_neg (fun q => h2 q.1)
theorem cCpO_bk (hcd : ¬ c = d) (hc : c < 2) (hd : d < 2) (hs : s < 3) : cpd C (cCpO C n c d) n c d s := by
  have key : ∀ X : cS, cpd X (cCpB X n c d s) n c d s := fun X => cCpB_at hcd hc hd hs
  have fr : ∀ (X : cS) (s' x : Nat), s' < 3 → ¬ s = s' → ∀ c', c' < 2 → (x = oSb n c' s ∨ x = oHo n c' s ∨ x = oFa n c' s ∨ x = oCe n c' s ∨ x = oDe n c' s) → same4 X (cCpB X n c d s') x := fun X s' x hs' hss c' hc' hx => cCpB_fr1 (bk_ne hs hs' hss hc' hd hx)
  have fa : ∀ (X : cS) (x : Nat), (x = oSb n d s ∨ x = oHo n d s ∨ x = oFa n d s ∨ x = oCe n d s ∨ x = oDe n d s) → same4 X (cCpA X n c d n) x := fun X x hx => cCpA_fr (by unfold oSb oHo oFa oCe oDe at hx; unfold oSt; omega) (by unfold oSb oHo oFa oCe oDe at hx; unfold oAn; omega)
  unfold cCpO
  have hs3 : s = 0 ∨ s = 1 ∨ s = 2 := by omega
  rcases hs3 with h0 | h0 | h0
  · have k0 := key C
    rw [h0] at k0 fr fa ⊢
    exact k0.of (fun _ _ => same4.refl) (fun x hx => ((fr _ 1 x (by decide) (by decide) d hd hx).trans (fr _ 2 x (by decide) (by decide) d hd hx)).trans (fa _ x hx))
  · have k0 := key (cCpB C n c d 0)
    rw [h0] at k0 fr fa ⊢
    exact k0.of (fun x hx => fr _ 0 x (by decide) (by decide) c hc hx) (fun x hx => (fr _ 2 x (by decide) (by decide) d hd hx).trans (fa _ x hx))
  · have k0 := key (cCpB (cCpB C n c d 0) n c d 1)
    rw [h0] at k0 fr fa ⊢
    exact k0.of (fun x hx => (fr _ 0 x (by decide) (by decide) c hc hx).trans (fr _ 1 x (by decide) (by decide) c hc hx)) (fun x hx => fa _ x hx)
theorem cCpO_fr {x : Nat} (h1 : ∀ s, s < 3 → ¬ x = oSb n d s ∧ ¬ x = oHo n d s ∧ ¬ x = oFa n d s ∧ ¬ x = oCe n d s ∧ ¬ x = oDe n d s) (h2 : ¬ x = oSt n d) (h3 : ¬ x = oAn n d) : same4 C (cCpO C n c d) x := (cCpB3_fr h1).trans (cCpA_fr h2 h3)
theorem cCpO_st (hc : c < 2) (hd : d < 2) (hcd : ¬ c = d) (hk : k < n) : (cCpO C n c d).1 (oSt n d) k = C.1 (oSt n c) k ∧ (cCpO C n c d).2.2.2 (oAn n d) k = C.2.2.2 (oAn n c) k := by
  have b1 := cCpB3_fr (C := C) (n := n) (c := c) (d := d) (st_ne (c := c) hc hd)
  have b2 := cCpB3_fr (C := C) (n := n) (c := c) (d := d) (an_ne (c := c) hc hd)
  refine ⟨?_, ?_⟩
  · unfold cCpO
    show (if oSt n d = oSt n d ∧ k < n then _ else _) = _
    rw [if_pos ⟨rfl, hk⟩, b1.1]
  · unfold cCpO
    show (if oAn n d = oAn n d ∧ k < n then _ else _) = _
    rw [if_pos ⟨rfl, hk⟩, b2.2.2.2]
theorem ls_off {j : Nat} (hj : ck n j = 5) (hd : d < 2) : (∀ s, s < 3 → ¬ j = oSb n d s ∧ ¬ j = oHo n d s ∧ ¬ j = oFa n d s ∧ ¬ j = oCe n d s ∧ ¬ j = oDe n d s) ∧ ¬ j = oSt n d ∧ ¬ j = oAn n d := by
  refine ⟨fun s hs => ⟨?_, ?_, ?_, ?_, ?_⟩, ?_, ?_⟩
  · intro q
    rw [q, ck_Sb hd hs] at hj
    cases hj
  · intro q
    rw [q, ck_Ho hd hs] at hj
    cases hj
  · intro q
    rw [q, ck_Fa hd hs] at hj
    cases hj
  · intro q
    rw [q, ck_Ce hd hs] at hj
    cases hj
  · intro q
    rw [q, ck_De hd hs] at hj
    cases hj
  · intro q
    rw [q, ck_St hd] at hj
    cases hj
  · intro q
    rw [q, ck_An hd] at hj
    cases hj
theorem LLs.off (h : LLs e S F n C ρ f) (hd : d < 2) : LLs e S F n (cCpO C n c d) ρ f := h.same (fun j hj _ => ⟨(cCpO_fr (ls_off hj hd).1 (ls_off hj hd).2.1 (ls_off hj hd).2.2).1, (cCpO_fr (ls_off hj hd).1 (ls_off hj hd).2.1 (ls_off hj hd).2.2).2.2.2⟩)
/-! a book of the office -/
theorem Y_bookAtO (hs : s < 3) : s_Office_bookAt g (S + oOf n) (zi s) (cW S n C ρ) = some (some (S + oSb n 0 s), cW S n C ρ) := by
  simp (config := { maxSteps := 2000000 }) (disch := (first | omega | (simp only [oBr, oBa, oBs, oLs, oOf, oSa, oSb, oHo, oFa, oCe, oDe, oSt, oAn, oPo]; omega))) only [s_Office_bookAt, s_Office_bookAt_18, s_Office_bookAt_19, x_isBr, x_clBr, x_gBr0, x_gBr1, x_gBr2, x_pBr2, x_qBr2, x_gBr3, x_pBr3, x_gBr4, x_pBr4, x_gBr5, x_pBr5, x_qBr5, x_gBr6, x_pBr6, x_gBr7, x_pBr7, x_gBr8, x_pBr8, x_isBs, x_clBs, x_gBs0, x_gBs1, x_gBs2, x_pBs2, x_gBs3, x_pBs3, x_gBs4, x_pBs4, x_gBs5, x_pBs5, x_gBs6, x_pBs6, x_gBs7, x_pBs7, x_gBs8, x_pBs8, x_gBs9, x_pBs9, x_isLs, x_clLs, x_gLs0, x_pLs0, x_qLs0, x_gLs1, x_pLs1, x_gLs2, x_pLs2, x_isPo, x_clPo, x_gPo0, x_pPo0, x_qPo0, x_gPo1, x_pPo1, x_gPo2, x_pPo2, x_isOf, x_clOf, x_gOf0, x_gOf1, x_gOf2, x_gOf3, x_gOf4, x_gOf5, x_gOf6, x_pOf6, x_isSb, x_clSb, x_gSb0, x_pSb0, x_gSb1, x_pSb1, x_gSb2, x_pSb2, x_gSb3, x_gSb4, x_gSb5, x_gSb6, x_gSb7, x_pSb7, x_qSb7, x_rHo, x_wHo, x_rFa, x_wFa, x_rCe, x_wCe, x_rDe, x_wDe, x_rSt, x_wSt, x_lSt, x_rAn, c_gNo0, c_gNo1, c_gNo2, c_isNo, c_aNa, c_lNa, c_aBa, c_aSa0, c_aSa1, cSN_at, cSN_21, cSN_221, cSN_222, cSI_1, cSI_at, cSI_221, cSI_222, cSL_1, cSL_21, cSL_at, cSL_222, cSP_1, cSP_21, cSP_221, cSP_at, zi_l0, zi_l1, zi_l2, zi_l3, zi_l4, zi_l5, zi_l6, zi_l7, zi_l8, zi_l9, zi_l10, zi_l12, zi_l18, zi_l20, zi_l30, zi_l32, zi_l36, zi_l48, zi_l64, zi_l99, zi_l100, zi_l300, zi_l512, zi_l600, zi_l900, zi_l1800, zi_l9999, Option.bind_some, zi_lt0, zi_ge0, zi_01, zi_add, zi_mul, zi_sub, zi_lt, zi_le, zi_eq, zi_bool, zi_byte, zi_short, zi_t8, zi_t16, nlt_T, nlt_F, nle_T, nle_F, neq_T, neq_F, ↓reduceIte, or_true, true_or, and_self, and_true, true_and, and_false, false_and, or_false, false_or, or_self, not_true_eq_false, not_false_eq_true]
theorem Y_bookAtON {x : Int32} (h : x < 0 ∨ ∃ k, k < 2147483648 ∧ 3 ≤ k ∧ x = zi k) : s_Office_bookAt g (S + oOf n) x (cW S n C ρ) = some (none, cW S n C ρ) := by
  rcases h with h | ⟨k, h1, h2, rfl⟩
  · simp only [s_Office_bookAt, s_Office_bookAt_18, s_Office_bookAt_19, if_pos h]
  · simp (config := { maxSteps := 2000000 }) (disch := (first | omega | (simp only [oBr, oBa, oBs, oLs, oOf, oSa, oSb, oHo, oFa, oCe, oDe, oSt, oAn, oPo]; omega))) only [s_Office_bookAt, s_Office_bookAt_18, s_Office_bookAt_19, x_isBr, x_clBr, x_gBr0, x_gBr1, x_gBr2, x_pBr2, x_qBr2, x_gBr3, x_pBr3, x_gBr4, x_pBr4, x_gBr5, x_pBr5, x_qBr5, x_gBr6, x_pBr6, x_gBr7, x_pBr7, x_gBr8, x_pBr8, x_isBs, x_clBs, x_gBs0, x_gBs1, x_gBs2, x_pBs2, x_gBs3, x_pBs3, x_gBs4, x_pBs4, x_gBs5, x_pBs5, x_gBs6, x_pBs6, x_gBs7, x_pBs7, x_gBs8, x_pBs8, x_gBs9, x_pBs9, x_isLs, x_clLs, x_gLs0, x_pLs0, x_qLs0, x_gLs1, x_pLs1, x_gLs2, x_pLs2, x_isPo, x_clPo, x_gPo0, x_pPo0, x_qPo0, x_gPo1, x_pPo1, x_gPo2, x_pPo2, x_isOf, x_clOf, x_gOf0, x_gOf1, x_gOf2, x_gOf3, x_gOf4, x_gOf5, x_gOf6, x_pOf6, x_isSb, x_clSb, x_gSb0, x_pSb0, x_gSb1, x_pSb1, x_gSb2, x_pSb2, x_gSb3, x_gSb4, x_gSb5, x_gSb6, x_gSb7, x_pSb7, x_qSb7, x_rHo, x_wHo, x_rFa, x_wFa, x_rCe, x_wCe, x_rDe, x_wDe, x_rSt, x_wSt, x_lSt, x_rAn, c_gNo0, c_gNo1, c_gNo2, c_isNo, c_aNa, c_lNa, c_aBa, c_aSa0, c_aSa1, cSN_at, cSN_21, cSN_221, cSN_222, cSI_1, cSI_at, cSI_221, cSI_222, cSL_1, cSL_21, cSL_at, cSL_222, cSP_1, cSP_21, cSP_221, cSP_at, zi_l0, zi_l1, zi_l2, zi_l3, zi_l4, zi_l5, zi_l6, zi_l7, zi_l8, zi_l9, zi_l10, zi_l12, zi_l18, zi_l20, zi_l30, zi_l32, zi_l36, zi_l48, zi_l64, zi_l99, zi_l100, zi_l300, zi_l512, zi_l600, zi_l900, zi_l1800, zi_l9999, Option.bind_some, zi_lt0, zi_ge0, zi_01, zi_add, zi_mul, zi_sub, zi_lt, zi_le, zi_eq, zi_bool, zi_byte, zi_short, zi_t8, zi_t16, nlt_T, nlt_F, nle_T, nle_F, neq_T, neq_F, ↓reduceIte, or_true, true_or, and_self, and_true, true_and, and_false, false_and, or_false, false_or, or_self, not_true_eq_false, not_false_eq_true]
theorem Y_knows (hi : i < n) (hn : n ≤ 6) : s_Office_knows g (S + oOf n) (zi i) (cW S n C ρ) = some (zi 1, cW S n C ρ) := by
  simp (config := { maxSteps := 2000000 }) (disch := (first | omega | (simp only [oBr, oBa, oBs, oLs, oOf, oSa, oSb, oHo, oFa, oCe, oDe, oSt, oAn, oPo]; omega))) only [s_Office_knows, s_Office_knows_17, s_Office_knows_18, x_isBr, x_clBr, x_gBr0, x_gBr1, x_gBr2, x_pBr2, x_qBr2, x_gBr3, x_pBr3, x_gBr4, x_pBr4, x_gBr5, x_pBr5, x_qBr5, x_gBr6, x_pBr6, x_gBr7, x_pBr7, x_gBr8, x_pBr8, x_isBs, x_clBs, x_gBs0, x_gBs1, x_gBs2, x_pBs2, x_gBs3, x_pBs3, x_gBs4, x_pBs4, x_gBs5, x_pBs5, x_gBs6, x_pBs6, x_gBs7, x_pBs7, x_gBs8, x_pBs8, x_gBs9, x_pBs9, x_isLs, x_clLs, x_gLs0, x_pLs0, x_qLs0, x_gLs1, x_pLs1, x_gLs2, x_pLs2, x_isPo, x_clPo, x_gPo0, x_pPo0, x_qPo0, x_gPo1, x_pPo1, x_gPo2, x_pPo2, x_isOf, x_clOf, x_gOf0, x_gOf1, x_gOf2, x_gOf3, x_gOf4, x_gOf5, x_gOf6, x_pOf6, x_isSb, x_clSb, x_gSb0, x_pSb0, x_gSb1, x_pSb1, x_gSb2, x_pSb2, x_gSb3, x_gSb4, x_gSb5, x_gSb6, x_gSb7, x_pSb7, x_qSb7, x_rHo, x_wHo, x_rFa, x_wFa, x_rCe, x_wCe, x_rDe, x_wDe, x_rSt, x_wSt, x_lSt, x_rAn, c_gNo0, c_gNo1, c_gNo2, c_isNo, c_aNa, c_lNa, c_aBa, c_aSa0, c_aSa1, cSN_at, cSN_21, cSN_221, cSN_222, cSI_1, cSI_at, cSI_221, cSI_222, cSL_1, cSL_21, cSL_at, cSL_222, cSP_1, cSP_21, cSP_221, cSP_at, zi_l0, zi_l1, zi_l2, zi_l3, zi_l4, zi_l5, zi_l6, zi_l7, zi_l8, zi_l9, zi_l10, zi_l12, zi_l18, zi_l20, zi_l30, zi_l32, zi_l36, zi_l48, zi_l64, zi_l99, zi_l100, zi_l300, zi_l512, zi_l600, zi_l900, zi_l1800, zi_l9999, Option.bind_some, zi_lt0, zi_ge0, zi_01, zi_add, zi_mul, zi_sub, zi_lt, zi_le, zi_eq, zi_bool, zi_byte, zi_short, zi_t8, zi_t16, nlt_T, nlt_F, nle_T, nle_F, neq_T, neq_F, ↓reduceIte, or_true, true_or, and_self, and_true, true_and, and_false, false_and, or_false, false_or, or_self, not_true_eq_false, not_false_eq_true]
theorem Y_openFor {y : Nat} (hs : s < 3) (h : C.1 (oSb n 0 s) 0 = 0) : s_SeriesBook_openFor g (S + oSb n 0 s) (zi y) (cW S n C ρ) = some (zi 1, cW S n (cSN (cSN C (oSb n 0 s) 0 1) (oSb n 0 s) 1 y) ρ) := by
  simp (config := { maxSteps := 2000000 }) (disch := (first | omega | (simp only [oBr, oBa, oBs, oLs, oOf, oSa, oSb, oHo, oFa, oCe, oDe, oSt, oAn, oPo]; omega))) only [s_SeriesBook_openFor, h, x_isBr, x_clBr, x_gBr0, x_gBr1, x_gBr2, x_pBr2, x_qBr2, x_gBr3, x_pBr3, x_gBr4, x_pBr4, x_gBr5, x_pBr5, x_qBr5, x_gBr6, x_pBr6, x_gBr7, x_pBr7, x_gBr8, x_pBr8, x_isBs, x_clBs, x_gBs0, x_gBs1, x_gBs2, x_pBs2, x_gBs3, x_pBs3, x_gBs4, x_pBs4, x_gBs5, x_pBs5, x_gBs6, x_pBs6, x_gBs7, x_pBs7, x_gBs8, x_pBs8, x_gBs9, x_pBs9, x_isLs, x_clLs, x_gLs0, x_pLs0, x_qLs0, x_gLs1, x_pLs1, x_gLs2, x_pLs2, x_isPo, x_clPo, x_gPo0, x_pPo0, x_qPo0, x_gPo1, x_pPo1, x_gPo2, x_pPo2, x_isOf, x_clOf, x_gOf0, x_gOf1, x_gOf2, x_gOf3, x_gOf4, x_gOf5, x_gOf6, x_pOf6, x_isSb, x_clSb, x_gSb0, x_pSb0, x_gSb1, x_pSb1, x_gSb2, x_pSb2, x_gSb3, x_gSb4, x_gSb5, x_gSb6, x_gSb7, x_pSb7, x_qSb7, x_rHo, x_wHo, x_rFa, x_wFa, x_rCe, x_wCe, x_rDe, x_wDe, x_rSt, x_wSt, x_lSt, x_rAn, c_gNo0, c_gNo1, c_gNo2, c_isNo, c_aNa, c_lNa, c_aBa, c_aSa0, c_aSa1, cSN_at, cSN_21, cSN_221, cSN_222, cSI_1, cSI_at, cSI_221, cSI_222, cSL_1, cSL_21, cSL_at, cSL_222, cSP_1, cSP_21, cSP_221, cSP_at, zi_l0, zi_l1, zi_l2, zi_l3, zi_l4, zi_l5, zi_l6, zi_l7, zi_l8, zi_l9, zi_l10, zi_l12, zi_l18, zi_l20, zi_l30, zi_l32, zi_l36, zi_l48, zi_l64, zi_l99, zi_l100, zi_l300, zi_l512, zi_l600, zi_l900, zi_l1800, zi_l9999, Option.bind_some, zi_lt0, zi_ge0, zi_01, zi_add, zi_mul, zi_sub, zi_lt, zi_le, zi_eq, zi_bool, zi_byte, zi_short, zi_t8, zi_t16, nlt_T, nlt_F, nle_T, nle_F, neq_T, neq_F, ↓reduceIte, or_true, true_or, and_self, and_true, true_and, and_false, false_and, or_false, false_or, or_self, not_true_eq_false, not_false_eq_true]
theorem Y_openForN {y : Int32} (hs : s < 3) (h : ¬ C.1 (oSb n 0 s) 0 = 0) (h2 : C.1 (oSb n 0 s) 0 < 2147483648) : s_SeriesBook_openFor g (S + oSb n 0 s) y (cW S n C ρ) = some (zi 0, cW S n C ρ) := by
  simp (config := { maxSteps := 2000000 }) (disch := (first | omega | (simp only [oBr, oBa, oBs, oLs, oOf, oSa, oSb, oHo, oFa, oCe, oDe, oSt, oAn, oPo]; omega))) only [s_SeriesBook_openFor, x_isBr, x_clBr, x_gBr0, x_gBr1, x_gBr2, x_pBr2, x_qBr2, x_gBr3, x_pBr3, x_gBr4, x_pBr4, x_gBr5, x_pBr5, x_qBr5, x_gBr6, x_pBr6, x_gBr7, x_pBr7, x_gBr8, x_pBr8, x_isBs, x_clBs, x_gBs0, x_gBs1, x_gBs2, x_pBs2, x_gBs3, x_pBs3, x_gBs4, x_pBs4, x_gBs5, x_pBs5, x_gBs6, x_pBs6, x_gBs7, x_pBs7, x_gBs8, x_pBs8, x_gBs9, x_pBs9, x_isLs, x_clLs, x_gLs0, x_pLs0, x_qLs0, x_gLs1, x_pLs1, x_gLs2, x_pLs2, x_isPo, x_clPo, x_gPo0, x_pPo0, x_qPo0, x_gPo1, x_pPo1, x_gPo2, x_pPo2, x_isOf, x_clOf, x_gOf0, x_gOf1, x_gOf2, x_gOf3, x_gOf4, x_gOf5, x_gOf6, x_pOf6, x_isSb, x_clSb, x_gSb0, x_pSb0, x_gSb1, x_pSb1, x_gSb2, x_pSb2, x_gSb3, x_gSb4, x_gSb5, x_gSb6, x_gSb7, x_pSb7, x_qSb7, x_rHo, x_wHo, x_rFa, x_wFa, x_rCe, x_wCe, x_rDe, x_wDe, x_rSt, x_wSt, x_lSt, x_rAn, c_gNo0, c_gNo1, c_gNo2, c_isNo, c_aNa, c_lNa, c_aBa, c_aSa0, c_aSa1, cSN_at, cSN_21, cSN_221, cSN_222, cSI_1, cSI_at, cSI_221, cSI_222, cSL_1, cSL_21, cSL_at, cSL_222, cSP_1, cSP_21, cSP_221, cSP_at, zi_l0, zi_l1, zi_l2, zi_l3, zi_l4, zi_l5, zi_l6, zi_l7, zi_l8, zi_l9, zi_l10, zi_l12, zi_l18, zi_l20, zi_l30, zi_l32, zi_l36, zi_l48, zi_l64, zi_l99, zi_l100, zi_l300, zi_l512, zi_l600, zi_l900, zi_l1800, zi_l9999, Option.bind_some, zi_lt0, zi_ge0, zi_01, zi_add, zi_mul, zi_sub, zi_lt, zi_le, zi_eq, zi_bool, zi_byte, zi_short, zi_t8, zi_t16, nlt_T, nlt_F, nle_T, nle_F, neq_T, neq_F, ↓reduceIte, or_true, true_or, and_self, and_true, true_and, and_false, false_and, or_false, false_or, or_self, not_true_eq_false, not_false_eq_true]
theorem Y_fateN {x : Int32} (hs : s < 3) (h : x < 1 ∨ zi (C.1 (oSb n 0 s) 2) < x) : s_SeriesBook_fateOf g (S + oSb n 0 s) x (cW S n C ρ) = some (zi 0, cW S n C ρ) := by
  have q : s_SeriesBook_isGiven g (S + oSb n 0 s) x (cW S n C ρ) = some (zi 0, cW S n C ρ) := by
    unfold s_SeriesBook_isGiven s_SeriesBook_isGiven_24 s_SeriesBook_isGiven_25
    by_cases h1 : x < 1
    · rw [if_pos h1]
      rfl
    · rw [if_neg h1, x_gSb2 (by decide) hs, Option.bind_some, if_pos (h.resolve_left h1)]
      rfl
  unfold s_SeriesBook_fateOf
  rw [x_isSb (by decide) hs, Option.bind_some, q, Option.bind_some]
  dsimp only
  rw [if_pos (show zi 0 = 0 from rfl)]
  rfl
theorem Y_fateO (hs : s < 3) (hg : C.1 (oSb n 0 s) 2 ≤ 300) (hk : k < C.1 (oSb n 0 s) 2) : s_SeriesBook_fateOf g (S + oSb n 0 s) (zi (k + 1)) (cW S n C ρ) = some (zi (C.1 (oFa n 0 s) k), cW S n C ρ) := by
  have e1 : k + 1 - 1 = k := rfl
  simp (config := { maxSteps := 2000000 }) (disch := (first | omega | (simp only [oBr, oBa, oBs, oLs, oOf, oSa, oSb, oHo, oFa, oCe, oDe, oSt, oAn, oPo]; omega))) only [s_SeriesBook_fateOf, s_SeriesBook_fateOf_20, s_SeriesBook_isGiven, s_SeriesBook_isGiven_24, s_SeriesBook_isGiven_25, e1, x_isBr, x_clBr, x_gBr0, x_gBr1, x_gBr2, x_pBr2, x_qBr2, x_gBr3, x_pBr3, x_gBr4, x_pBr4, x_gBr5, x_pBr5, x_qBr5, x_gBr6, x_pBr6, x_gBr7, x_pBr7, x_gBr8, x_pBr8, x_isBs, x_clBs, x_gBs0, x_gBs1, x_gBs2, x_pBs2, x_gBs3, x_pBs3, x_gBs4, x_pBs4, x_gBs5, x_pBs5, x_gBs6, x_pBs6, x_gBs7, x_pBs7, x_gBs8, x_pBs8, x_gBs9, x_pBs9, x_isLs, x_clLs, x_gLs0, x_pLs0, x_qLs0, x_gLs1, x_pLs1, x_gLs2, x_pLs2, x_isPo, x_clPo, x_gPo0, x_pPo0, x_qPo0, x_gPo1, x_pPo1, x_gPo2, x_pPo2, x_isOf, x_clOf, x_gOf0, x_gOf1, x_gOf2, x_gOf3, x_gOf4, x_gOf5, x_gOf6, x_pOf6, x_isSb, x_clSb, x_gSb0, x_pSb0, x_gSb1, x_pSb1, x_gSb2, x_pSb2, x_gSb3, x_gSb4, x_gSb5, x_gSb6, x_gSb7, x_pSb7, x_qSb7, x_rHo, x_wHo, x_rFa, x_wFa, x_rCe, x_wCe, x_rDe, x_wDe, x_rSt, x_wSt, x_lSt, x_rAn, c_gNo0, c_gNo1, c_gNo2, c_isNo, c_aNa, c_lNa, c_aBa, c_aSa0, c_aSa1, cSN_at, cSN_21, cSN_221, cSN_222, cSI_1, cSI_at, cSI_221, cSI_222, cSL_1, cSL_21, cSL_at, cSL_222, cSP_1, cSP_21, cSP_221, cSP_at, zi_l0, zi_l1, zi_l2, zi_l3, zi_l4, zi_l5, zi_l6, zi_l7, zi_l8, zi_l9, zi_l10, zi_l12, zi_l18, zi_l20, zi_l30, zi_l32, zi_l36, zi_l48, zi_l64, zi_l99, zi_l100, zi_l300, zi_l512, zi_l600, zi_l900, zi_l1800, zi_l9999, Option.bind_some, zi_lt0, zi_ge0, zi_01, zi_add, zi_mul, zi_sub, zi_lt, zi_le, zi_eq, zi_bool, zi_byte, zi_short, zi_t8, zi_t16, nlt_T, nlt_F, nle_T, nle_F, neq_T, neq_F, ↓reduceIte, or_true, true_or, and_self, and_true, true_and, and_false, false_and, or_false, false_or, or_self, not_true_eq_false, not_false_eq_true]
def cIO (C : cS) (n s k : Nat) (w : Int32) : Int64 := if w = 0 then (if C.1 (oFa n 0 s) k = 2 then C.2.2.1 (oCe n 0 s) k else -1) else if w = 1 then (if C.1 (oFa n 0 s) k = 2 then (C.2.1 (oDe n 0 s) k).toInt64 else -1) else if w = 2 then (zi (C.1 (oHo n 0 s) k)).toInt64 else if w = 3 then (if C.1 (oFa n 0 s) k = 3 then (C.2.1 (oDe n 0 s) k).toInt64 else -1) else -1
theorem Y_fieldN {x w : Int32} (hs : s < 3) (h : x < 1 ∨ zi (C.1 (oSb n 0 s) 2) < x) : s_SeriesBook_fieldOf g (S + oSb n 0 s) x w (cW S n C ρ) = some (-1, cW S n C ρ) := by
  unfold s_SeriesBook_fieldOf
  rw [x_isSb (by decide) hs, Option.bind_some, Y_fateN hs h, Option.bind_some]
  dsimp only
  rw [if_pos (show zi 0 = 0 from rfl)]
theorem Y_field {w : Int32} (hs : s < 3) (hg : C.1 (oSb n 0 s) 2 ≤ 300) (hk : k < C.1 (oSb n 0 s) 2) (hf : 0 < C.1 (oFa n 0 s) k ∧ C.1 (oFa n 0 s) k < 128) : s_SeriesBook_fieldOf g (S + oSb n 0 s) (zi (k + 1)) w (cW S n C ρ) = some (cIO C n s k w, cW S n C ρ) := by
  have e0 : zi (k + 1) - 1 = zi k := zi_s1
  have f0 : ¬ zi (C.1 (oFa n 0 s) k) = 0 := by
    rw [zi_l0, zi_eq (by omega) (by omega)]
    omega
  have f2 : (zi (C.1 (oFa n 0 s) k) = 2) = (C.1 (oFa n 0 s) k = 2) := by rw [zi_l2, zi_eq (by omega) (by omega)]
  have f3 : (zi (C.1 (oFa n 0 s) k) = 3) = (C.1 (oFa n 0 s) k = 3) := by rw [zi_l3, zi_eq (by omega) (by omega)]
  have r1 := x_rCe (S := S) (n := n) (C := C) (ρ := ρ) (c := 0) (s := s) (k := k) (by decide) hs (by omega)
  have r2 := x_rDe (S := S) (n := n) (C := C) (ρ := ρ) (c := 0) (s := s) (k := k) (by decide) hs (by omega)
  have r3 := x_rHo (S := S) (n := n) (C := C) (ρ := ρ) (c := 0) (s := s) (k := k) (by decide) hs (by omega)
  unfold s_SeriesBook_fieldOf cIO
  rw [x_isSb (by decide) hs, Option.bind_some, Y_fateO hs hg hk, Option.bind_some]
  dsimp only
  rw [if_neg f0, e0]
  by_cases w0 : w = 0
  · subst w0
    rw [if_neg (show ¬ ((0 : Int32).toInt < 0 ∨ 3 < (0 : Int32).toInt) by decide), if_pos rfl, if_pos rfl]
    by_cases h2 : C.1 (oFa n 0 s) k = 2
    · rw [if_pos h2, if_pos (by rw [f2]; exact h2), x_gSb5 (by decide) hs, Option.bind_some, Option.bind_some, r1]
      rfl
    · rw [if_neg h2, if_neg (by rw [f2]; exact h2)]
      rfl
  by_cases w1 : w = 1
  · subst w1
    rw [if_neg (show ¬ ((1 : Int32).toInt < 0 ∨ 3 < (1 : Int32).toInt) by decide), if_neg w0, if_neg w0, if_pos rfl, if_pos rfl]
    by_cases h2 : C.1 (oFa n 0 s) k = 2
    · rw [if_pos h2, if_pos (by rw [f2]; exact h2), x_gSb6 (by decide) hs, Option.bind_some, Option.bind_some, r2]
      rfl
    · rw [if_neg h2, if_neg (by rw [f2]; exact h2)]
      rfl
  by_cases w2 : w = 2
  · subst w2
    rw [if_neg (show ¬ ((2 : Int32).toInt < 0 ∨ 3 < (2 : Int32).toInt) by decide), if_neg w0, if_neg w0, if_neg w1, if_neg w1, if_pos rfl, if_pos rfl, x_gSb3 (by decide) hs, Option.bind_some, Option.bind_some, r3]
    rfl
  by_cases w3 : w = 3
  · subst w3
    rw [if_neg (show ¬ ((3 : Int32).toInt < 0 ∨ 3 < (3 : Int32).toInt) by decide), if_neg w0, if_neg w0, if_neg w1, if_neg w1, if_neg w2, if_neg w2, if_pos rfl, if_pos rfl]
    by_cases h2 : C.1 (oFa n 0 s) k = 3
    · rw [if_pos h2, if_pos (by rw [f3]; exact h2), x_gSb6 (by decide) hs, Option.bind_some, Option.bind_some, r2]
      rfl
    · rw [if_neg h2, if_neg (by rw [f3]; exact h2)]
      rfl
  · have hw : w.toInt < 0 ∨ 3 < w.toInt := by
      rcases Int.lt_or_le w.toInt 0 with h | h
      · exact Or.inl h
      · refine Or.inr ?_
        have a0 : ¬ w.toInt = 0 := fun q => w0 (Int32.toInt_inj.mp q)
        have a1 : ¬ w.toInt = 1 := fun q => w1 (Int32.toInt_inj.mp q)
        have a2 : ¬ w.toInt = 2 := fun q => w2 (Int32.toInt_inj.mp q)
        have a3 : ¬ w.toInt = 3 := fun q => w3 (Int32.toInt_inj.mp q)
        omega
    rw [if_pos hw, if_neg w0, if_neg w1, if_neg w2, if_neg w3]
def cSum (C : cS) (n s : Nat) (x : Int32) : Nat → Int64
  | 0 => 0
  | k + 1 => if zi (C.1 (oHo n 0 s) k) = x ∧ C.1 (oFa n 0 s) k = 2 then cSum C n s x k + C.2.2.1 (oCe n 0 s) k else cSum C n s x k
theorem Y_cents {x : Int32} (hs : s < 3) (hg : C.1 (oSb n 0 s) 2 ≤ 300) (hf : ∀ k, k < 300 → C.1 (oFa n 0 s) k < 128) : s_SeriesBook_centsOf g (S + oSb n 0 s) x (cW S n C ρ) = some (cSum C n s x (C.1 (oSb n 0 s) 2), cW S n C ρ) := by
  have key : ∀ (m k fuel : Nat), k + m = C.1 (oSb n 0 s) 2 → m < fuel → s_SeriesBook_centsOf_5 g fuel (S + oSb n 0 s) x (cSum C n s x k) (zi k) (cW S n C ρ) = some (cSum C n s x (C.1 (oSb n 0 s) 2), cW S n C ρ) := by
    intro m
    induction m with
    | zero =>
      intro k fuel h1 h2
      obtain ⟨fuel, rfl⟩ : ∃ k, fuel = k + 1 := ⟨fuel - 1, by omega⟩
      have e : k = C.1 (oSb n 0 s) 2 := by omega
      rw [s_SeriesBook_centsOf_5]
      rw [x_gSb2 (by decide) hs, Option.bind_some, if_pos (by rw [e]; exact Int32.le_refl _), e]
    | succ m ih =>
      intro k fuel h1 h2
      obtain ⟨fuel, rfl⟩ : ∃ k, fuel = k + 1 := ⟨fuel - 1, by omega⟩
      have e1 : ¬ zi (C.1 (oSb n 0 s) 2) ≤ zi k := by
        rw [zi_le (by omega) (by omega)]
        omega
      have r1 := x_rCe (S := S) (n := n) (C := C) (ρ := ρ) (c := 0) (s := s) (k := k) (by decide) hs (by omega)
      have r2 := x_rFa (S := S) (n := n) (C := C) (ρ := ρ) (c := 0) (s := s) (k := k) (by decide) hs (by omega)
      have r3 := x_rHo (S := S) (n := n) (C := C) (ρ := ρ) (c := 0) (s := s) (k := k) (by decide) hs (by omega)
      have f1 := hf k (by omega)
      have f2 : (zi (C.1 (oFa n 0 s) k) = 2) = (C.1 (oFa n 0 s) k = 2) := by rw [zi_l2, zi_eq (by omega) (by omega)]
      have q := ih (k + 1) fuel (by omega) (by omega)
      rw [cSum] at q
      rw [s_SeriesBook_centsOf_5]
      rw [x_gSb2 (by decide) hs, Option.bind_some, if_neg e1, x_gSb3 (by decide) hs, Option.bind_some, Option.bind_some, r3, Option.bind_some]
      unfold s_SeriesBook_centsOf_46
      rw [zi_l1, zi_add]
      by_cases h3 : zi (C.1 (oHo n 0 s) k) = x
      · rw [if_pos h3, x_gSb4 (by decide) hs, Option.bind_some, Option.bind_some, r2, Option.bind_some]
        by_cases h4 : C.1 (oFa n 0 s) k = 2
        · rw [if_pos (by rw [f2]; exact h4), x_gSb5 (by decide) hs, Option.bind_some, Option.bind_some, r1, Option.bind_some]
          rw [if_pos ⟨h3, h4⟩] at q
          exact q
        · rw [if_neg (by rw [f2]; exact h4)]
          rw [if_neg (fun w => h4 w.2)] at q
          exact q
      · rw [if_neg h3]
        rw [if_neg (fun w => h3 w.1)] at q
        exact q
  have z := key (C.1 (oSb n 0 s) 2) 0 zfuel (by omega) (by unfold zfuel; omega)
  unfold s_SeriesBook_centsOf
  exact z
theorem Y_leastF (hs : s < 3) (hg : C.1 (oSb n 0 s) 2 ≤ 300) {N : Nat} (hN : N < C.1 (oSb n 0 s) 2) (h1 : C.1 (oFa n 0 s) N = 1) (hno : ∀ k, k < N → ¬ C.1 (oFa n 0 s) k = 1) (hf : ∀ k, k < 300 → C.1 (oFa n 0 s) k < 128) : ∀ (m k fuel : Nat), k + m = N → m < fuel → s_SeriesBook_leastOut_2 g fuel (S + oSb n 0 s) (zi k) (cW S n C ρ) = some (zi (N + 1), cW S n C ρ) := by
  intro m
  induction m with
  | zero =>
    intro k fuel h2 h3
    obtain ⟨fuel, rfl⟩ : ∃ k, fuel = k + 1 := ⟨fuel - 1, by omega⟩
    have e : k = N := by omega
    subst e
    rw [s_SeriesBook_leastOut_2]
    rw [x_gSb2 (by decide) hs, Option.bind_some, if_neg (by rw [zi_le (by omega) (by omega)]; omega), x_gSb4 (by decide) hs, Option.bind_some, Option.bind_some, x_rFa (by decide) hs (by omega), Option.bind_some, h1, if_pos (show zi 1 = 1 from rfl), zi_l1, zi_add]
  | succ m ih =>
    intro k fuel h2 h3
    obtain ⟨fuel, rfl⟩ : ∃ k, fuel = k + 1 := ⟨fuel - 1, by omega⟩
    have h4 := hno k (by omega)
    have h5 := hf k (by omega)
    rw [s_SeriesBook_leastOut_2]
    rw [x_gSb2 (by decide) hs, Option.bind_some, if_neg (by rw [zi_le (by omega) (by omega)]; omega), x_gSb4 (by decide) hs, Option.bind_some, Option.bind_some, x_rFa (by decide) hs (by omega), Option.bind_some, zi_l1, if_neg (by rw [zi_eq (by omega) (by omega)]; exact h4), zi_add]
    exact ih (k + 1) fuel (by omega) (by omega)
theorem Y_least0 (hs : s < 3) (hg : C.1 (oSb n 0 s) 2 ≤ 300) (hno : ∀ k, k < C.1 (oSb n 0 s) 2 → ¬ C.1 (oFa n 0 s) k = 1) (hf : ∀ k, k < 300 → C.1 (oFa n 0 s) k < 128) : ∀ (m k fuel : Nat), k + m = C.1 (oSb n 0 s) 2 → m < fuel → s_SeriesBook_leastOut_2 g fuel (S + oSb n 0 s) (zi k) (cW S n C ρ) = some (zi 0, cW S n C ρ) := by
  intro m
  induction m with
  | zero =>
    intro k fuel h2 h3
    obtain ⟨fuel, rfl⟩ : ∃ k, fuel = k + 1 := ⟨fuel - 1, by omega⟩
    rw [s_SeriesBook_leastOut_2]
    rw [x_gSb2 (by decide) hs, Option.bind_some, if_pos (by rw [zi_le (by omega) (by omega)]; omega)]
    rfl
  | succ m ih =>
    intro k fuel h2 h3
    obtain ⟨fuel, rfl⟩ : ∃ k, fuel = k + 1 := ⟨fuel - 1, by omega⟩
    have h4 := hno k (by omega)
    have h5 := hf k (by omega)
    rw [s_SeriesBook_leastOut_2]
    rw [x_gSb2 (by decide) hs, Option.bind_some, if_neg (by rw [zi_le (by omega) (by omega)]; omega), x_gSb4 (by decide) hs, Option.bind_some, Option.bind_some, x_rFa (by decide) hs (by omega), Option.bind_some, zi_l1, if_neg (by rw [zi_eq (by omega) (by omega)]; exact h4), zi_add]
    exact ih (k + 1) fuel (by omega) (by omega)
end COFF2
