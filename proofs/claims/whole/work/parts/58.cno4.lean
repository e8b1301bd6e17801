section CNO4
variable {g : zG} {e S F n i s b q : Nat} {C C' : cS} {ρ ρ' : zS} {f f' : Nat → Nat → Nat} {en eu : Nat → Nat} {ec : Nat → Int64} {ed : Nat → Int32}
theorem Y_isRN {r : Int32} (h : r < 1 ∨ ¬ r ≤ 99) : s_No_isReason g r ρ = some (zi 0, ρ) := by
  unfold s_No_isReason s_No_isReason_15 s_No_isReason_16
  by_cases h1 : r < 1
  · rw [if_pos h1]
    rfl
  · rw [if_neg h1, if_pos (Int32.not_le.mp (h.resolve_left h1))]
    rfl
theorem Y_isR {r : Nat} (h : 1 ≤ r ∧ r ≤ 99) : s_No_isReason g (zi r) ρ = some (zi 1, ρ) := by
  unfold s_No_isReason s_No_isReason_15 s_No_isReason_16
  rw [if_neg (by rw [zi_l1, zi_lt (by omega) (by omega)]; omega), if_neg (by rw [zi_l99, zi_lt (by omega) (by omega)]; omega)]
  rfl
theorem Y_invoiceC {c : Int64} {d : Int32} (hn : n ≤ 6) (hi : i < n) (hu : C.1 (oBr i) 8 = 1) (hs : s < 3) (hc : lg_cmp c 1 < 0 ∨ 0 < lg_cmp c 1000000000000) : s_No_invoice g S (zi i) (zi s) c d (cW S n C ρ) = some (.inl (-1), cW S n C ρ) := by
  unfold s_No_invoice
  rw [c_isNo, Option.bind_some, Y_branchAt hi hn, Option.bind_some]
  dsimp only
  rw [Y_upB hi hu, Option.bind_some]
  dsimp only
  rw [x_isBr hi, Option.bind_some, Y_bookAtB hi hs, Option.bind_some]
  dsimp only
  by_cases h1 : lg_cmp c 1 < 0
  · rw [if_pos h1]
    rfl
  · rw [if_neg h1, if_pos (hc.resolve_left h1)]
    rfl
theorem Y_invoiceE {c : Int64} {d : Int32} (h : LLs e S F n C ρ f) (hn : n ≤ 6) (hi : i < n) (hu : C.1 (oBr i) 8 = 1) (hs : s < 3) (hc : ¬ lg_cmp c 1 < 0 ∧ ¬ 0 < lg_cmp c 1000000000000) (h6 : C.1 (oBs i s) 2 < 2147483648) (hb : C.1 (oLs i s 0) 1 ≤ C.1 (oBs i s) 2) : s_No_invoice g S (zi i) (zi s) c d (cW S n C ρ) = some (.inl (-1), cW S n C ρ) := by
  unfold s_No_invoice
  rw [c_isNo, Option.bind_some, Y_branchAt hi hn, Option.bind_some]
  dsimp only
  rw [Y_upB hi hu, Option.bind_some]
  dsimp only
  rw [x_isBr hi, Option.bind_some, Y_bookAtB hi hs, Option.bind_some]
  dsimp only
  rw [if_neg hc.1, if_neg hc.2, x_isBs hi hs, Option.bind_some, Y_fits0 h hi hs h6 hb, Option.bind_some]
  dsimp only
  rw [if_neg (show ¬ zi 1 = 0 by decide), x_isBs hi hs, Option.bind_some, Y_useUp0 h hi hs h6 hb, Option.bind_some]
  dsimp only
  rw [if_pos rfl]
  rfl
theorem Y_invoiceT {c : Int64} {d : Int32} {x m : Nat} (h : LLs e S F n C ρ f) (hn : n ≤ 6) (hi : i < n) (hu : C.1 (oBr i) 8 = 1) (hs : s < 3) (hc : ¬ lg_cmp c 1 < 0 ∧ ¬ 0 < lg_cmp c 1000000000000) (hb : C.1 (oBs i s) 2 < C.1 (oLs i s 0) 1) (hB : isBlk F ρ (f (oLs i s 0) (C.1 (oBs i s) 2)) x m) (hx : x + m ≤ 1000) (hE : ∀ t, t < C.1 (oLs i s 1) 1 → isEv F ρ (f (oLs i s 1) t) (en t) (eu t) (ec t) (ed t) ∧ eu t < 2 ∧ en t ≤ 1000) (ht : dFt en eu ed x (x + m) d (C.1 (oLs i s 1) 1) = 0) : s_No_invoice g S (zi i) (zi s) c d (cW S n C ρ) = some (.inl (-1), cW S n C ρ) := by
  have q := Y_fits (g := g) (d := d) h hi hs hb hB hx hE
  rw [ht] at q
  unfold s_No_invoice
  rw [c_isNo, Option.bind_some, Y_branchAt hi hn, Option.bind_some]
  dsimp only
  rw [Y_upB hi hu, Option.bind_some]
  dsimp only
  rw [x_isBr hi, Option.bind_some, Y_bookAtB hi hs, Option.bind_some]
  dsimp only
  rw [if_neg hc.1, if_neg hc.2, x_isBs hi hs, Option.bind_some, q, Option.bind_some]
  dsimp only
  rw [if_pos (show zi 0 = 0 from rfl)]
  rfl
theorem Y_invoice {c : Int64} {d : Int32} {x m : Nat} (h : LLs e S F n C ρ f) (hg : g 0 = some e) (hg2 : ∃ mi, g 10 = some mi) (hn : n ≤ 6) (hi : i < n) (hu : C.1 (oBr i) 8 = 1) (hs : s < 3) (hc : ¬ lg_cmp c 1 < 0 ∧ ¬ 0 < lg_cmp c 1000000000000) (hb : C.1 (oBs i s) 2 < C.1 (oLs i s 0) 1) (hB : isBlk F ρ (f (oLs i s 0) (C.1 (oBs i s) 2)) x m) (hx : x + m ≤ 1000) (hE : ∀ t, t < C.1 (oLs i s 1) 1 → isEv F ρ (f (oLs i s 1) t) (en t) (eu t) (ec t) (ed t) ∧ eu t < 2 ∧ en t ≤ 1000) (ht : dFt en eu ed x (x + m) d (C.1 (oLs i s 1) 1) = 1) (hm : C.1 (oBs i s) 3 < m) (h6 : C.1 (oLs i s 1) 1 < 600) (h3 : C.1 (oBr i) 3 < 2) (h4 : C.1 (oBr i) 4 < 2) : ∃ C' ρ', s_No_invoice g S (zi i) (zi s) c d (cW S n C ρ) = some (.inl (zi (x + C.1 (oBs i s) 3)), cW S n (cSv C' i) ρ') ∧ LLs e S F n C' ρ' (fSet f (oLs i s 1) (C.1 (oLs i s 1) 1) ρ.1) ∧ isEv F ρ' ρ.1 (x + C.1 (oBs i s) 3) 1 c d ∧ C'.1 (oLs i s 1) 1 = C.1 (oLs i s 1) 1 + 1 ∧ sameC (oLs i s 1) (cUse C i s m) C' ∧ dX ρ ρ' ∧ ρ'.1 ≤ ρ.1 + 2 ∧ ρ'.2.1 ≤ ρ.2.1 + 1004 := by
  have q := Y_fits (g := g) (d := d) h hi hs hb hB hx hE
  rw [ht] at q
  obtain ⟨C', ρ', a1, a2, a3, a4, a5, a6⟩ := Y_useUp (g := g) (u := 1) (ct := c) (d := d) h hg hg2 hi hs hb hB hx hm (by decide) h6
  refine ⟨C', ρ', ?_, a2, a3, a4, a5, a6⟩
  have nb : ¬ oBr i = oLs i s 1 := by
    unfold oBr oLs
    omega
  have eb : C'.1 (oBr i) = C.1 (oBr i) := by
    rw [(a5 _ nb).1]
    funext k
    have nn : ¬ oBr i = oBs i s := by
      unfold oBr oBs
      omega
    unfold cUse
    split
    · simp only [cSN_at, nn, false_and, if_false]
    · simp only [cSN_at, nn, false_and, if_false]
  have q2 := Y_saveB (g := g) (S := S) (n := n) (C := C') (ρ := ρ') (i := i) hi (by rw [eb]; exact h3) (by rw [eb]; exact h4)
  have a1' : s_BranchSeries_useUpNext g (S + oBs i s) 1 c d (cW S n C ρ) = some (zi (x + C.1 (oBs i s) 3), cW S n C' ρ') := a1
  unfold s_No_invoice
  rw [c_isNo, Option.bind_some, Y_branchAt hi hn, Option.bind_some]
  dsimp only
  rw [Y_upB hi hu, Option.bind_some]
  dsimp only
  rw [x_isBr hi, Option.bind_some, Y_bookAtB hi hs, Option.bind_some]
  dsimp only
  rw [if_neg hc.1, if_neg hc.2, x_isBs hi hs, Option.bind_some, q, Option.bind_some]
  dsimp only
  rw [if_neg (show ¬ zi 1 = 0 by decide), x_isBs hi hs, Option.bind_some, a1', Option.bind_some]
  dsimp only
  rw [if_neg (zi_ne1 (by omega)), x_isBr hi, Option.bind_some, q2, Option.bind_some]
  rfl
theorem Y_voidNextR {r : Int32} (hn : n ≤ 6) (hi : i < n) (hu : C.1 (oBr i) 8 = 1) (hs : s < 3) (hr : r < 1 ∨ ¬ r ≤ 99) : s_No_voidNext g S (zi i) (zi s) r (cW S n C ρ) = some (.inl (-1), cW S n C ρ) := by
  unfold s_No_voidNext
  rw [c_isNo, Option.bind_some, Y_branchAt hi hn, Option.bind_some]
  dsimp only
  rw [Y_upB hi hu, Option.bind_some]
  dsimp only
  rw [x_isBr hi, Option.bind_some, Y_bookAtB hi hs, Option.bind_some]
  dsimp only
  rw [Y_isRN hr, Option.bind_some]
  dsimp only
  rw [if_pos (show zi 0 = 0 from rfl)]
  rfl
theorem Y_voidNextE {r : Nat} (h : LLs e S F n C ρ f) (hn : n ≤ 6) (hi : i < n) (hu : C.1 (oBr i) 8 = 1) (hs : s < 3) (hr : 1 ≤ r ∧ r ≤ 99) (h6 : C.1 (oBs i s) 2 < 2147483648) (hb : C.1 (oLs i s 0) 1 ≤ C.1 (oBs i s) 2) : s_No_voidNext g S (zi i) (zi s) (zi r) (cW S n C ρ) = some (.inl (-1), cW S n C ρ) := by
  unfold s_No_voidNext
  rw [c_isNo, Option.bind_some, Y_branchAt hi hn, Option.bind_some]
  dsimp only
  rw [Y_upB hi hu, Option.bind_some]
  dsimp only
  rw [x_isBr hi, Option.bind_some, Y_bookAtB hi hs, Option.bind_some]
  dsimp only
  rw [Y_isR hr, Option.bind_some]
  dsimp only
  rw [if_neg (show ¬ zi 1 = 0 by decide), x_isBs hi hs, Option.bind_some, Y_useUp0 h hi hs h6 hb, Option.bind_some]
theorem Y_voidNext {r x m : Nat} (h : LLs e S F n C ρ f) (hg : g 0 = some e) (hg2 : ∃ mi, g 10 = some mi) (hn : n ≤ 6) (hi : i < n) (hu : C.1 (oBr i) 8 = 1) (hs : s < 3) (hr : 1 ≤ r ∧ r ≤ 99) (hb : C.1 (oBs i s) 2 < C.1 (oLs i s 0) 1) (hB : isBlk F ρ (f (oLs i s 0) (C.1 (oBs i s) 2)) x m) (hx : x + m ≤ 1000) (hm : C.1 (oBs i s) 3 < m) (h6 : C.1 (oLs i s 1) 1 < 600) : ∃ C' ρ', s_No_voidNext g S (zi i) (zi s) (zi r) (cW S n C ρ) = some (.inl (zi (x + C.1 (oBs i s) 3)), cW S n C' ρ') ∧ LLs e S F n C' ρ' (fSet f (oLs i s 1) (C.1 (oLs i s 1) 1) ρ.1) ∧ isEv F ρ' ρ.1 (x + C.1 (oBs i s) 3) 0 0 (zi r) ∧ C'.1 (oLs i s 1) 1 = C.1 (oLs i s 1) 1 + 1 ∧ sameC (oLs i s 1) (cUse C i s m) C' ∧ dX ρ ρ' ∧ ρ'.1 ≤ ρ.1 + 2 ∧ ρ'.2.1 ≤ ρ.2.1 + 1004 := by
  obtain ⟨C', ρ', a1, a2⟩ := Y_useUp (g := g) (u := 0) (ct := 0) (d := zi r) h hg hg2 hi hs hb hB hx hm (by decide) h6
  refine ⟨C', ρ', ?_, a2⟩
  have a1' : s_BranchSeries_useUpNext g (S + oBs i s) 0 0 (zi r) (cW S n C ρ) = some (zi (x + C.1 (oBs i s) 3), cW S n C' ρ') := a1
  unfold s_No_voidNext
  rw [c_isNo, Option.bind_some, Y_branchAt hi hn, Option.bind_some]
  dsimp only
  rw [Y_upB hi hu, Option.bind_some]
  dsimp only
  rw [x_isBr hi, Option.bind_some, Y_bookAtB hi hs, Option.bind_some]
  dsimp only
  rw [Y_isR hr, Option.bind_some]
  dsimp only
  rw [if_neg (show ¬ zi 1 = 0 by decide), x_isBs hi hs, Option.bind_some, a1', Option.bind_some]
theorem Y_voidUsedR {v r : Int32} (hn : n ≤ 6) (hi : i < n) (hu : C.1 (oBr i) 8 = 1) (hs : s < 3) (hr : r < 1 ∨ ¬ r ≤ 99) : s_No_voidUsed g S (zi i) (zi s) v r (cW S n C ρ) = some (.inl 0, cW S n C ρ) := by
  unfold s_No_voidUsed
  rw [c_isNo, Option.bind_some, Y_branchAt hi hn, Option.bind_some]
  dsimp only
  rw [Y_upB hi hu, Option.bind_some]
  dsimp only
  rw [x_isBr hi, Option.bind_some, Y_bookAtB hi hs, Option.bind_some]
  dsimp only
  rw [Y_isRN hr, Option.bind_some]
  dsimp only
  rw [if_pos (show zi 0 = 0 from rfl)]
  rfl
theorem Y_voidUsedN {v : Int32} {r w : Nat} (hn : n ≤ 6) (hi : i < n) (hu : C.1 (oBr i) 8 = 1) (hs : s < 3) (hr : 1 ≤ r ∧ r ≤ 99) (hf : s_BranchSeries_fateOf g (S + oBs i s) v (cW S n C ρ) = some (zi w, cW S n C ρ)) (hw : ¬ w = 2 ∧ w < 4) : s_No_voidUsed g S (zi i) (zi s) v (zi r) (cW S n C ρ) = some (.inl 0, cW S n C ρ) := by
  unfold s_No_voidUsed
  rw [c_isNo, Option.bind_some, Y_branchAt hi hn, Option.bind_some]
  dsimp only
  rw [Y_upB hi hu, Option.bind_some]
  dsimp only
  rw [x_isBr hi, Option.bind_some, Y_bookAtB hi hs, Option.bind_some]
  dsimp only
  rw [Y_isR hr, Option.bind_some]
  dsimp only
  rw [if_neg (show ¬ zi 1 = 0 by decide), x_isBs hi hs, Option.bind_some, hf, Option.bind_some]
  dsimp only
  rw [if_neg (by rw [zi_l2, zi_eq (by omega) (by omega)]; exact hw.1)]
  rfl
theorem Y_voidUsed {v r : Nat} (h : LLs e S F n C ρ f) (hg : g 0 = some e) (hg2 : ∃ mi, g 10 = some mi) (hn : n ≤ 6) (hi : i < n) (hu : C.1 (oBr i) 8 = 1) (hs : s < 3) (hr : 1 ≤ r ∧ r ≤ 99) (hf : s_BranchSeries_fateOf g (S + oBs i s) (zi v) (cW S n C ρ) = some (zi 2, cW S n C ρ)) (h6 : C.1 (oLs i s 1) 1 < 600) : ∃ C' ρ', s_No_voidUsed g S (zi i) (zi s) (zi v) (zi r) (cW S n C ρ) = some (.inl 1, cW S n C' ρ') ∧ LLs e S F n C' ρ' (fSet f (oLs i s 1) (C.1 (oLs i s 1) 1) ρ.1) ∧ isEv F ρ' ρ.1 v 0 0 (zi r) ∧ C'.1 (oLs i s 1) 1 = C.1 (oLs i s 1) 1 + 1 ∧ sameC (oLs i s 1) C C' ∧ dX ρ ρ' ∧ ρ'.1 ≤ ρ.1 + 2 ∧ ρ'.2.1 ≤ ρ.2.1 + 1004 := by
  obtain ⟨C', ρ', a1, a2⟩ := Y_addEv (g := g) (x := v) (u := 0) (ct := 0) (d := zi r) h hg hg2 hi hs (by decide) h6
  refine ⟨C', ρ', ?_, a2⟩
  have a1' : s_BranchSeries_addEvent g (S + oBs i s) (zi v) 0 0 (zi r) (cW S n C ρ) = some (cW S n C' ρ') := a1
  unfold s_No_voidUsed
  rw [c_isNo, Option.bind_some, Y_branchAt hi hn, Option.bind_some]
  dsimp only
  rw [Y_upB hi hu, Option.bind_some]
  dsimp only
  rw [x_isBr hi, Option.bind_some, Y_bookAtB hi hs, Option.bind_some]
  dsimp only
  rw [Y_isR hr, Option.bind_some]
  dsimp only
  rw [if_neg (show ¬ zi 1 = 0 by decide), x_isBs hi hs, Option.bind_some, hf, Option.bind_some]
  dsimp only
  rw [if_pos (show zi 2 = 2 from rfl), x_isBs hi hs, Option.bind_some, a1', Option.bind_some]
theorem Y_bFateB {x y z : Int32} (hn : n ≤ 6) (h : x < 0 ∨ ∃ k, k < 2147483648 ∧ n ≤ k ∧ x = zi k) : s_No_branchFate g S x y z (cW S n C ρ) = some (-1, cW S n C ρ) := by
  unfold s_No_branchFate
  rw [c_isNo, Option.bind_some, Y_branchAtN hn h, Option.bind_some]
  rfl
theorem Y_bFateD {y z : Int32} (hn : n ≤ 6) (hi : i < n) (hd : C.1 (oBr i) 8 = 0) : s_No_branchFate g S (zi i) y z (cW S n C ρ) = some (-1, cW S n C ρ) := by
  unfold s_No_branchFate
  rw [c_isNo, Option.bind_some, Y_branchAt hi hn, Option.bind_some]
  dsimp only
  rw [x_gBr8 hi, Option.bind_some, hd, if_pos (show zi 0 = 0 from rfl)]
  rfl
theorem Y_bFateS {y z : Int32} (hn : n ≤ 6) (hi : i < n) (hu : C.1 (oBr i) 8 = 1) (h : y < 0 ∨ ∃ k, k < 2147483648 ∧ 3 ≤ k ∧ y = zi k) : s_No_branchFate g S (zi i) y z (cW S n C ρ) = some (-1, cW S n C ρ) := by
  unfold s_No_branchFate
  rw [c_isNo, Option.bind_some, Y_branchAt hi hn, Option.bind_some]
  dsimp only
  rw [x_gBr8 hi, Option.bind_some, hu, if_neg (show ¬ zi 1 = 0 by decide), x_isBr hi, Option.bind_some, Y_bookAtBN h, Option.bind_some]
  rfl
theorem Y_bFate {z x : Int32} (hn : n ≤ 6) (hi : i < n) (hu : C.1 (oBr i) 8 = 1) (hs : s < 3) (hf : s_BranchSeries_fateOf g (S + oBs i s) z (cW S n C ρ) = some (x, cW S n C ρ)) : s_No_branchFate g S (zi i) (zi s) z (cW S n C ρ) = some (x, cW S n C ρ) := by
  unfold s_No_branchFate
  rw [c_isNo, Option.bind_some, Y_branchAt hi hn, Option.bind_some]
  dsimp only
  rw [x_gBr8 hi, Option.bind_some, hu, if_neg (show ¬ zi 1 = 0 by decide), x_isBr hi, Option.bind_some, Y_bookAtB hi hs, Option.bind_some]
  dsimp only
  rw [x_isBs hi hs, Option.bind_some, hf, Option.bind_some]
  rfl
theorem Y_branchB {x y : Int32} (hn : n ≤ 6) (h : x < 0 ∨ ∃ k, k < 2147483648 ∧ n ≤ k ∧ x = zi k) : s_No_branch g S x y (cW S n C ρ) = some (-1, cW S n C ρ) := by
  unfold s_No_branch
  rw [c_isNo, Option.bind_some, Y_branchAtN hn h, Option.bind_some]
  rfl
theorem Y_branchD {y : Int32} (hn : n ≤ 6) (hi : i < n) (hd : C.1 (oBr i) 8 = 0) : s_No_branch g S (zi i) y (cW S n C ρ) = some (-1, cW S n C ρ) := by
  unfold s_No_branch
  rw [c_isNo, Option.bind_some, Y_branchAt hi hn, Option.bind_some]
  dsimp only
  rw [x_gBr8 hi, Option.bind_some, hd, if_pos (show zi 0 = 0 from rfl)]
  rfl
theorem Y_br91 {k : Nat} {v3 : Option Nat} (hi : i < n) (hk : k < 3) (hr : C.1 (oBs i k) 4 ≤ C.1 (oLs i k 1) 1) {x : Int32} : s_No_branch_91 g S x (zi (k + 3)) (some (S + oBr i)) (cW S n C ρ) = some (zi (C.1 (oLs i k 1) 1 - C.1 (oBs i k) 4), cW S n C ρ) := by
  have e1 : zi (k + 3) - 3 = zi k := by rw [zi_l3, zi_sub (by omega), Nat.add_sub_cancel]
  unfold s_No_branch_91
  rw [Option.bind_some, x_isBr hi, Option.bind_some, e1, Y_bookAtB hi hk, Option.bind_some]
  dsimp only
  rw [x_isBs hi hk, Option.bind_some, Y_unrep hi hk hr, Option.bind_some]
  rfl
def cBr (C : cS) (i lat : Nat) (w : Int32) : Int32 := if w = 0 then zi (C.1 (oBr i) 3) else if w = 1 then zi lat else if w = 2 then zi (C.1 (oBr i) 4) else if w = 3 then zi (C.1 (oLs i 0 1) 1 - C.1 (oBs i 0) 4) else if w = 4 then zi (C.1 (oLs i 1 1) 1 - C.1 (oBs i 1) 4) else if w = 5 then zi (C.1 (oLs i 2 1) 1 - C.1 (oBs i 2) 4) else -1
theorem Y_branch {w : Int32} {lat : Nat} (hF : S + cF n ≤ F) (hn : n ≤ 6) (hi : i < n) (hu : C.1 (oBr i) 8 = 1) (h3 : C.1 (oBr i) 3 < 2) (h4 : C.1 (oBr i) 4 < 2) (hlat : latOK F ρ (C.2.2.2 (oBr i) 2) lat) (hr : ∀ s, s < 3 → C.1 (oBs i s) 4 ≤ C.1 (oLs i s 1) 1) : s_No_branch g S (zi i) w (cW S n C ρ) = some (cBr C i lat w, cW S n C ρ) := by
  have b3 : C.1 (oBr i) 3 = 0 ∨ C.1 (oBr i) 3 = 1 := by omega
  have b4 : C.1 (oBr i) 4 = 0 ∨ C.1 (oBr i) 4 = 1 := by omega
  unfold s_No_branch cBr
  rw [c_isNo, Option.bind_some, Y_branchAt hi hn, Option.bind_some]
  dsimp only
  rw [x_gBr8 hi, Option.bind_some, hu, if_neg (show ¬ zi 1 = 0 by decide)]
  by_cases w0 : w = 0
  · subst w0
    rw [if_neg (show ¬ ((0 : Int32).toInt < 0 ∨ 5 < (0 : Int32).toInt) by decide), if_pos rfl, if_pos rfl, x_gBr3 hi, Option.bind_some]
    rcases b3 with b3 | b3
    · rw [b3, if_pos (show zi 0 = 0 from rfl)]
      rfl
    · rw [b3, if_neg (show ¬ zi 1 = 0 by decide)]
      rfl
  by_cases w1 : w = 1
  · subst w1
    rw [if_neg (show ¬ ((1 : Int32).toInt < 0 ∨ 5 < (1 : Int32).toInt) by decide), if_neg w0, if_neg w0, if_pos rfl, if_pos rfl, x_isBr hi, Option.bind_some, Y_lat hF hi hlat, Option.bind_some]
  by_cases w2 : w = 2
  · subst w2
    rw [if_neg (show ¬ ((2 : Int32).toInt < 0 ∨ 5 < (2 : Int32).toInt) by decide), if_neg w0, if_neg w0, if_neg w1, if_neg w1, if_pos rfl, if_pos rfl, x_gBr4 hi, Option.bind_some]
    rcases b4 with b4 | b4
    · rw [b4, if_pos (show zi 0 = 0 from rfl)]
      rfl
    · rw [b4, if_neg (show ¬ zi 1 = 0 by decide)]
      rfl
  by_cases w3 : w = 3
  · subst w3
    rw [if_neg (show ¬ ((3 : Int32).toInt < 0 ∨ 5 < (3 : Int32).toInt) by decide), if_neg w0, if_neg w0, if_neg w1, if_neg w1, if_neg w2, if_neg w2, if_pos rfl, if_pos rfl]
    exact Y_br91 (k := 0) (v3 := none) hi (by decide) (hr 0 (by decide))
  by_cases w4 : w = 4
  · subst w4
    rw [if_neg (show ¬ ((4 : Int32).toInt < 0 ∨ 5 < (4 : Int32).toInt) by decide), if_neg w0, if_neg w0, if_neg w1, if_neg w1, if_neg w2, if_neg w2, if_neg w3, if_neg w3, if_pos rfl, if_pos rfl]
    exact Y_br91 (k := 1) (v3 := none) hi (by decide) (hr 1 (by decide))
  by_cases w5 : w = 5
  · subst w5
    rw [if_neg (show ¬ ((5 : Int32).toInt < 0 ∨ 5 < (5 : Int32).toInt) by decide), if_neg w0, if_neg w0, if_neg w1, if_neg w1, if_neg w2, if_neg w2, if_neg w3, if_neg w3, if_neg w4, if_neg w4, if_pos rfl, if_pos rfl]
    exact Y_br91 (k := 2) (v3 := none) hi (by decide) (hr 2 (by decide))
  · have hw : w.toInt < 0 ∨ 5 < w.toInt := by
      rcases Int.lt_or_le w.toInt 0 with h | h
      · exact Or.inl h
      · refine Or.inr ?_
        have a0 : ¬ w.toInt = 0 := fun q => w0 (Int32.toInt_inj.mp q)
        have a1 : ¬ w.toInt = 1 := fun q => w1 (Int32.toInt_inj.mp q)
        have a2 : ¬ w.toInt = 2 := fun q => w2 (Int32.toInt_inj.mp q)
        have a3 : ¬ w.toInt = 3 := fun q => w3 (Int32.toInt_inj.mp q)
        have a4 : ¬ w.toInt = 4 := fun q => w4 (Int32.toInt_inj.mp q)
        have a5 : ¬ w.toInt = 5 := fun q => w5 (Int32.toInt_inj.mp q)
        omega
    rw [if_pos hw, if_neg w0, if_neg w1, if_neg w2, if_neg w3, if_neg w4, if_neg w5]
end CNO4
