section CNO5
variable {g : zG} {e S F n i s b q : Nat} {C C' C1 : cS} {ρ ρ' ρ1 : zS} {f f' : Nat → Nat → Nat}
theorem Y_seriesD {x : Int32} {y : Int32} (hF : S + cF n ≤ ρ.1) (hd : C.1 (oOf n) 6 = 0) (hg : g 21 = some q) : s_No_series g S x y (cW S n C ρ) = some (.inr ρ.1, cW S n C (exc g q ρ)) := by
  unfold s_No_series
  rw [c_gNo1, Option.bind_some, Y_dnO hF hd hg, Option.bind_some]
theorem Y_seriesS {x : Int32} {y : Int32} (hu : C.1 (oOf n) 6 = 1) (h : x < 0 ∨ ∃ k, k < 2147483648 ∧ 3 ≤ k ∧ x = zi k) : s_No_series g S x y (cW S n C ρ) = some (.inl (0), cW S n C ρ) := by
  unfold s_No_series
  rw [c_gNo1, Option.bind_some, Y_upO hu, Option.bind_some]
  dsimp only
  rw [c_gNo1, Option.bind_some, Option.bind_some, x_isOf, Option.bind_some, Y_bookAtON h, Option.bind_some]
  rfl
theorem Y_closeD {x : Int32}  (hF : S + cF n ≤ ρ.1) (hd : C.1 (oOf n) 6 = 0) (hg : g 21 = some q) : s_No_close g S x  (cW S n C ρ) = some (.inr ρ.1, cW S n C (exc g q ρ)) := by
  unfold s_No_close
  rw [c_gNo1, Option.bind_some, Y_dnO hF hd hg, Option.bind_some]
theorem Y_closeS {x : Int32}  (hu : C.1 (oOf n) 6 = 1) (h : x < 0 ∨ ∃ k, k < 2147483648 ∧ 3 ≤ k ∧ x = zi k) : s_No_close g S x  (cW S n C ρ) = some (.inl (-1), cW S n C ρ) := by
  unfold s_No_close
  rw [c_gNo1, Option.bind_some, Y_upO hu, Option.bind_some]
  dsimp only
  rw [c_gNo1, Option.bind_some, Option.bind_some, x_isOf, Option.bind_some, Y_bookAtON h, Option.bind_some]
  rfl
theorem Y_fateD {x : Int32} {y : Int32} (hF : S + cF n ≤ ρ.1) (hd : C.1 (oOf n) 6 = 0) (hg : g 21 = some q) : s_No_fate g S x y (cW S n C ρ) = some (.inr ρ.1, cW S n C (exc g q ρ)) := by
  unfold s_No_fate
  rw [c_gNo1, Option.bind_some, Y_dnO hF hd hg, Option.bind_some]
theorem Y_fateS {x : Int32} {y : Int32} (hu : C.1 (oOf n) 6 = 1) (h : x < 0 ∨ ∃ k, k < 2147483648 ∧ 3 ≤ k ∧ x = zi k) : s_No_fate g S x y (cW S n C ρ) = some (.inl (0), cW S n C ρ) := by
  unfold s_No_fate
  rw [c_gNo1, Option.bind_some, Y_upO hu, Option.bind_some]
  dsimp only
  rw [c_gNo1, Option.bind_some, Option.bind_some, x_isOf, Option.bind_some, Y_bookAtON h, Option.bind_some]
  rfl
theorem Y_invoiceOfD {x : Int32} {y z : Int32} (hF : S + cF n ≤ ρ.1) (hd : C.1 (oOf n) 6 = 0) (hg : g 21 = some q) : s_No_invoiceOf g S x y z (cW S n C ρ) = some (.inr ρ.1, cW S n C (exc g q ρ)) := by
  unfold s_No_invoiceOf
  rw [c_gNo1, Option.bind_some, Y_dnO hF hd hg, Option.bind_some]
theorem Y_invoiceOfS {x : Int32} {y z : Int32} (hu : C.1 (oOf n) 6 = 1) (h : x < 0 ∨ ∃ k, k < 2147483648 ∧ 3 ≤ k ∧ x = zi k) : s_No_invoiceOf g S x y z (cW S n C ρ) = some (.inl (-1), cW S n C ρ) := by
  unfold s_No_invoiceOf
  rw [c_gNo1, Option.bind_some, Y_upO hu, Option.bind_some]
  dsimp only
  rw [c_gNo1, Option.bind_some, Option.bind_some, x_isOf, Option.bind_some, Y_bookAtON h, Option.bind_some]
  rfl
theorem Y_totalD {x : Int32} {y : Int32} (hF : S + cF n ≤ ρ.1) (hd : C.1 (oOf n) 6 = 0) (hg : g 21 = some q) : s_No_total g S x y (cW S n C ρ) = some (.inr ρ.1, cW S n C (exc g q ρ)) := by
  unfold s_No_total
  rw [c_gNo1, Option.bind_some, Y_dnO hF hd hg, Option.bind_some]
theorem Y_totalS {x : Int32} {y : Int32} (hu : C.1 (oOf n) 6 = 1) (h : x < 0 ∨ ∃ k, k < 2147483648 ∧ 3 ≤ k ∧ x = zi k) : s_No_total g S x y (cW S n C ρ) = some (.inl (0), cW S n C ρ) := by
  unfold s_No_total
  rw [c_gNo1, Option.bind_some, Y_upO hu, Option.bind_some]
  dsimp only
  rw [c_gNo1, Option.bind_some, Option.bind_some, x_isOf, Option.bind_some, Y_bookAtON h, Option.bind_some]
  rfl
theorem Y_listByteD {x : Int32} {y : Int32} (hF : S + cF n ≤ ρ.1) (hd : C.1 (oOf n) 6 = 0) (hg : g 21 = some q) : s_No_listByte g S x y (cW S n C ρ) = some (.inr ρ.1, cW S n C (exc g q ρ)) := by
  unfold s_No_listByte
  rw [c_gNo1, Option.bind_some, Y_dnO hF hd hg, Option.bind_some]
theorem Y_listByteS {x : Int32} {y : Int32} (hu : C.1 (oOf n) 6 = 1) (h : x < 0 ∨ ∃ k, k < 2147483648 ∧ 3 ≤ k ∧ x = zi k) : s_No_listByte g S x y (cW S n C ρ) = some (.inl (-1), cW S n C ρ) := by
  unfold s_No_listByte
  rw [c_gNo1, Option.bind_some, Y_upO hu, Option.bind_some]
  dsimp only
  rw [c_gNo1, Option.bind_some, Option.bind_some, x_isOf, Option.bind_some, Y_bookAtON h, Option.bind_some]
  rfl
theorem Y_series1 {y : Int32} (hu : C.1 (oOf n) 6 = 1) (hs : s < 3) (ho : ¬ C.1 (oSb n 0 s) 0 = 0) (h2 : C.1 (oSb n 0 s) 0 < 128) : s_No_series g S (zi s) y (cW S n C ρ) = some (.inl 0, cW S n C ρ) := by
  unfold s_No_series
  rw [c_gNo1, Option.bind_some, Y_upO hu, Option.bind_some]
  dsimp only
  rw [c_gNo1, Option.bind_some, Option.bind_some, x_isOf, Option.bind_some, Y_bookAtO hs, Option.bind_some]
  dsimp only
  by_cases h1 : y < 1
  · rw [if_pos h1]
    rfl
  · rw [if_neg h1]
    by_cases h3 : y ≤ 9999
    · rw [if_pos h3, x_isSb (by decide) hs, Option.bind_some, Y_openForN hs ho (by omega), Option.bind_some]
      rfl
    · rw [if_neg h3]
      rfl
theorem Y_series2 {y : Int32} (hu : C.1 (oOf n) 6 = 1) (hs : s < 3) (hy : y < 1 ∨ ¬ y ≤ 9999) : s_No_series g S (zi s) y (cW S n C ρ) = some (.inl 0, cW S n C ρ) := by
  unfold s_No_series
  rw [c_gNo1, Option.bind_some, Y_upO hu, Option.bind_some]
  dsimp only
  rw [c_gNo1, Option.bind_some, Option.bind_some, x_isOf, Option.bind_some, Y_bookAtO hs, Option.bind_some]
  dsimp only
  by_cases h1 : y < 1
  · rw [if_pos h1]
    rfl
  · rw [if_neg h1, if_neg (hy.resolve_left h1)]
    rfl
theorem Y_series {y : Nat} (hu : C.1 (oOf n) 6 = 1) (hs : s < 3) (ho : C.1 (oSb n 0 s) 0 = 0) (hy : 1 ≤ y ∧ y ≤ 9999) : s_No_series g S (zi s) (zi y) (cW S n C ρ) = some (.inl 1, cW S n (cSN (cSN C (oSb n 0 s) 0 1) (oSb n 0 s) 1 y) ρ) := by
  unfold s_No_series
  rw [c_gNo1, Option.bind_some, Y_upO hu, Option.bind_some]
  dsimp only
  rw [c_gNo1, Option.bind_some, Option.bind_some, x_isOf, Option.bind_some, Y_bookAtO hs, Option.bind_some]
  dsimp only
  rw [if_neg (by rw [zi_l1, zi_lt (by omega) (by omega)]; omega), if_pos (by rw [zi_l9999, zi_le (by omega) (by omega)]; omega), x_isSb (by decide) hs, Option.bind_some, Y_openFor hs ho, Option.bind_some]
  rfl
theorem Y_fatC {y x : Int32} (hu : C.1 (oOf n) 6 = 1) (hs : s < 3) (hf : s_SeriesBook_fateOf g (S + oSb n 0 s) y (cW S n C ρ) = some (x, cW S n C ρ)) : s_No_fate g S (zi s) y (cW S n C ρ) = some (.inl x, cW S n C ρ) := by
  unfold s_No_fate
  rw [c_gNo1, Option.bind_some, Y_upO hu, Option.bind_some]
  dsimp only
  rw [c_gNo1, Option.bind_some, Option.bind_some, x_isOf, Option.bind_some, Y_bookAtO hs, Option.bind_some]
  dsimp only
  rw [x_isSb (by decide) hs, Option.bind_some, hf, Option.bind_some]
  rfl
theorem Y_invC {y z : Int32} {x : Int64} (hu : C.1 (oOf n) 6 = 1) (hs : s < 3) (hf : s_SeriesBook_fieldOf g (S + oSb n 0 s) y z (cW S n C ρ) = some (x, cW S n C ρ)) : s_No_invoiceOf g S (zi s) y z (cW S n C ρ) = some (.inl x, cW S n C ρ) := by
  unfold s_No_invoiceOf
  rw [c_gNo1, Option.bind_some, Y_upO hu, Option.bind_some]
  dsimp only
  rw [c_gNo1, Option.bind_some, Option.bind_some, x_isOf, Option.bind_some, Y_bookAtO hs, Option.bind_some]
  dsimp only
  rw [x_isSb (by decide) hs, Option.bind_some, hf, Option.bind_some]
  rfl
theorem Y_totC {y : Int32} {x : Int64} (hu : C.1 (oOf n) 6 = 1) (hs : s < 3) (hf : s_SeriesBook_centsOf g (S + oSb n 0 s) y (cW S n C ρ) = some (x, cW S n C ρ)) : s_No_total g S (zi s) y (cW S n C ρ) = some (.inl x, cW S n C ρ) := by
  unfold s_No_total
  rw [c_gNo1, Option.bind_some, Y_upO hu, Option.bind_some]
  dsimp only
  rw [c_gNo1, Option.bind_some, Option.bind_some, x_isOf, Option.bind_some, Y_bookAtO hs, Option.bind_some]
  dsimp only
  rw [x_isSb (by decide) hs, Option.bind_some, hf, Option.bind_some]
  rfl
theorem Y_lisC {y x : Int32} (hu : C.1 (oOf n) 6 = 1) (hs : s < 3) (hf : s_SeriesBook_listByteAt g (S + oSb n 0 s) y (cW S n C ρ) = some (x, cW S n C ρ)) : s_No_listByte g S (zi s) y (cW S n C ρ) = some (.inl x, cW S n C ρ) := by
  unfold s_No_listByte
  rw [c_gNo1, Option.bind_some, Y_upO hu, Option.bind_some]
  dsimp only
  rw [c_gNo1, Option.bind_some, Option.bind_some, x_isOf, Option.bind_some, Y_bookAtO hs, Option.bind_some]
  dsimp only
  rw [x_isSb (by decide) hs, Option.bind_some, hf, Option.bind_some]
  rfl
theorem Y_closeO (hu : C.1 (oOf n) 6 = 1) (hs : s < 3) (h2 : C.1 (oSb n 0 s) 0 < 128) (ho : ¬ C.1 (oSb n 0 s) 0 = 1) : s_No_close g S (zi s) (cW S n C ρ) = some (.inl (-1), cW S n C ρ) := by
  unfold s_No_close
  rw [c_gNo1, Option.bind_some, Y_upO hu, Option.bind_some]
  dsimp only
  rw [c_gNo1, Option.bind_some, Option.bind_some, x_isOf, Option.bind_some, Y_bookAtO hs, Option.bind_some]
  dsimp only
  have q : s_SeriesBook_isOpen g (S + oSb n 0 s) (cW S n C ρ) = some (zi 0, cW S n C ρ) := by
    unfold s_SeriesBook_isOpen s_SeriesBook_isOpen_13
    rw [x_gSb0 (by decide) hs, Option.bind_some, if_neg (by rw [zi_l1, zi_eq (by omega) (by omega)]; exact ho)]
    rfl
  rw [x_isSb (by decide) hs, Option.bind_some, q, Option.bind_some]
  dsimp only
  rw [if_pos (show zi 0 = 0 from rfl)]
  rfl
theorem Y_isOpen (hs : s < 3) (ho : C.1 (oSb n 0 s) 0 = 1) : s_SeriesBook_isOpen g (S + oSb n 0 s) (cW S n C ρ) = some (zi 1, cW S n C ρ) := by
  unfold s_SeriesBook_isOpen s_SeriesBook_isOpen_13
  rw [x_gSb0 (by decide) hs, Option.bind_some, ho, if_pos (show zi 1 = 1 from rfl)]
  rfl
theorem Y_closeF {N : Nat} (hu : C.1 (oOf n) 6 = 1) (hs : s < 3) (ho : C.1 (oSb n 0 s) 0 = 1) (hg : C.1 (oSb n 0 s) 2 ≤ 300) (hN : N < C.1 (oSb n 0 s) 2) (h1 : C.1 (oFa n 0 s) N = 1) (hno : ∀ k, k < N → ¬ C.1 (oFa n 0 s) k = 1) (hf : ∀ k, k < 300 → C.1 (oFa n 0 s) k < 128) : s_No_close g S (zi s) (cW S n C ρ) = some (.inl (zi (N + 1)), cW S n C ρ) := by
  have q2 : s_SeriesBook_leastOut g (S + oSb n 0 s) (cW S n C ρ) = some (zi (N + 1), cW S n C ρ) := by
    have z := Y_leastF (g := g) (S := S) (ρ := ρ) hs hg hN h1 hno hf N 0 zfuel (by omega) (by unfold zfuel; omega)
    unfold s_SeriesBook_leastOut
    exact z
  unfold s_No_close
  rw [c_gNo1, Option.bind_some, Y_upO hu, Option.bind_some]
  dsimp only
  rw [c_gNo1, Option.bind_some, Option.bind_some, x_isOf, Option.bind_some, Y_bookAtO hs, Option.bind_some]
  dsimp only
  rw [x_isSb (by decide) hs, Option.bind_some, Y_isOpen hs ho, Option.bind_some]
  dsimp only
  rw [if_neg (show ¬ zi 1 = 0 by decide), x_isSb (by decide) hs, Option.bind_some, q2, Option.bind_some]
  dsimp only
  rw [if_neg (by rw [zi_l0, zi_eq (by omega) (by omega)]; omega)]
  rfl
theorem Y_close (hF : S + cF n ≤ F) (hn : n ≤ 6) (hu : C.1 (oOf n) 6 = 1) (hs : s < 3) (ho : C.1 (oSb n 0 s) 0 = 1) (hg : C.1 (oSb n 0 s) 2 ≤ 300) (hno : ∀ k, k < C.1 (oSb n 0 s) 2 → ¬ C.1 (oFa n 0 s) k = 1) (hf : ∀ k, k < 300 → C.1 (oFa n 0 s) k < 128) (hsh : s_SeriesBook_shut g (S + oSb n 0 s) (cW S n C ρ) = some (cW S n C1 ρ1)) (hA : ansR F n C1 ρ1 0) (h2 : ∀ k, k < n → C1.1 (oSt n 0) k < 2) : s_No_close g S (zi s) (cW S n C ρ) = some (.inl (zi 0), cW S n (cCpO C1 n 0 1) ρ1) := by
  have q2 : s_SeriesBook_leastOut g (S + oSb n 0 s) (cW S n C ρ) = some (zi 0, cW S n C ρ) := by
    have z := Y_least0 (g := g) (S := S) (ρ := ρ) hs hg hno hf (C.1 (oSb n 0 s) 2) 0 zfuel (by omega) (by unfold zfuel; omega)
    unfold s_SeriesBook_leastOut
    exact z
  unfold s_No_close
  rw [c_gNo1, Option.bind_some, Y_upO hu, Option.bind_some]
  dsimp only
  rw [c_gNo1, Option.bind_some, Option.bind_some, x_isOf, Option.bind_some, Y_bookAtO hs, Option.bind_some]
  dsimp only
  rw [x_isSb (by decide) hs, Option.bind_some, Y_isOpen hs ho, Option.bind_some]
  dsimp only
  rw [if_neg (show ¬ zi 1 = 0 by decide), x_isSb (by decide) hs, Option.bind_some, q2, Option.bind_some]
  dsimp only
  rw [if_pos (show zi 0 = 0 from rfl), x_isSb (by decide) hs, Option.bind_some, hsh, Option.bind_some, c_gNo1, Option.bind_some, Option.bind_some, x_isOf, Option.bind_some, Y_saveO hF hn hA h2, Option.bind_some]
  rfl
theorem Y_strikeD {x : Int32} (hF : S + cF n ≤ ρ.1) (hd : C.1 (oOf n) 6 = 0) (hg : g 21 = some q) : s_No_strike g S x (cW S n C ρ) = some (.inr ρ.1, cW S n C (exc g q ρ)) := by
  unfold s_No_strike
  rw [c_gNo1, Option.bind_some, Y_dnO hF hd hg, Option.bind_some]
theorem Y_strike0 {x : Int32} (hn : n ≤ 6) (hu : C.1 (oOf n) 6 = 1) (h : x < 0 ∨ ∃ k, k < 2147483648 ∧ n ≤ k ∧ x = zi k) : s_No_strike g S x (cW S n C ρ) = some (.inl (-1), cW S n C ρ) := by
  unfold s_No_strike
  rw [c_gNo1, Option.bind_some, Y_upO hu, Option.bind_some]
  dsimp only
  rw [c_isNo, Option.bind_some, Y_branchAtN hn h, Option.bind_some]
theorem Y_strikeC {x : Int32} {σ : zS} (hn : n ≤ 6) (hi : i < n) (hu : C.1 (oOf n) 6 = 1) (hf : s_Office_strikeOut g (S + oOf n) (zi i) (cW S n C ρ) = some (x, σ)) : s_No_strike g S (zi i) (cW S n C ρ) = some (.inl x, σ) := by
  unfold s_No_strike
  rw [c_gNo1, Option.bind_some, Y_upO hu, Option.bind_some]
  dsimp only
  rw [c_isNo, Option.bind_some, Y_branchAt hi hn, Option.bind_some]
  dsimp only
  rw [c_gNo1, Option.bind_some, Option.bind_some, x_isOf, Option.bind_some, hf, Option.bind_some]
/-! sides -/
theorem Y_sideO (hn : n ≤ 6) : s_No_sideAt g S (zi n) (cW S n C ρ) = some (some (S + oOf n), cW S n C ρ) := by
  unfold s_No_sideAt
  rw [c_gNo0, Option.bind_some, Option.bind_some, c_lNa, Option.bind_some, if_pos rfl, c_gNo1, Option.bind_some]
  rfl
theorem Y_sideB (hn : n ≤ 6) (hi : i < n) : s_No_sideAt g S (zi i) (cW S n C ρ) = some (some (S + oBr i), cW S n C ρ) := by
  unfold s_No_sideAt
  rw [c_gNo0, Option.bind_some, Option.bind_some, c_lNa, Option.bind_some, if_neg (by rw [zi_eq (by omega) (by omega)]; omega), c_isNo, Option.bind_some, Y_branchAt hi hn, Option.bind_some]
  rfl
theorem Y_sideN {x : Int32} (hn : n ≤ 6) (h : x < 0 ∨ ∃ k, k < 2147483648 ∧ n < k ∧ x = zi k) : s_No_sideAt g S x (cW S n C ρ) = some (none, cW S n C ρ) := by
  unfold s_No_sideAt
  have hx : ¬ x = zi n := by
    rcases h with h | ⟨k, h1, h2, rfl⟩
    · intro q
      rw [q, zi_lt0 (by omega)] at h
      exact h
    · rw [zi_eq h1 (by omega)]
      omega
  rw [c_gNo0, Option.bind_some, Option.bind_some, c_lNa, Option.bind_some, if_neg hx, c_isNo, Option.bind_some, Y_branchAtN hn (by rcases h with h | ⟨k, h1, h2, h3⟩; exact Or.inl h; exact Or.inr ⟨k, h1, by omega, h3⟩), Option.bind_some]
  rfl
theorem Y_crashN {x : Int32} (hn : n ≤ 6) (h : x < 0 ∨ ∃ k, k < 2147483648 ∧ n < k ∧ x = zi k) : s_No_crash g S x (cW S n C ρ) = some (zi 0, cW S n C ρ) := by
  unfold s_No_crash
  rw [c_isNo, Option.bind_some, Y_sideN hn h, Option.bind_some]
  rfl
theorem Y_crashXB (hn : n ≤ 6) (hi : i < n) (hd : C.1 (oBr i) 8 = 0) : s_No_crash g S (zi i) (cW S n C ρ) = some (zi 0, cW S n C ρ) := by
  unfold s_No_crash
  rw [c_isNo, Option.bind_some, Y_sideB hn hi, Option.bind_some]
  dsimp only
  rw [Z_gB hi, Option.bind_some, hd, if_pos (show zi 0 = 0 from rfl)]
  rfl
theorem Y_crashXO (hn : n ≤ 6) (hd : C.1 (oOf n) 6 = 0) : s_No_crash g S (zi n) (cW S n C ρ) = some (zi 0, cW S n C ρ) := by
  unfold s_No_crash
  rw [c_isNo, Option.bind_some, Y_sideO hn, Option.bind_some]
  dsimp only
  rw [Z_gO, Option.bind_some, hd, if_pos (show zi 0 = 0 from rfl)]
  rfl
theorem Y_mountN {x : Int32} (hn : n ≤ 6) (h : x < 0 ∨ ∃ k, k < 2147483648 ∧ n < k ∧ x = zi k) : s_No_mount g S x (cW S n C ρ) = some (zi 0, cW S n C ρ) := by
  unfold s_No_mount
  rw [c_isNo, Option.bind_some, Y_sideN hn h, Option.bind_some]
  rfl
theorem Y_mountXB (hn : n ≤ 6) (hi : i < n) (hd : C.1 (oBr i) 8 = 1) : s_No_mount g S (zi i) (cW S n C ρ) = some (zi 0, cW S n C ρ) := by
  unfold s_No_mount
  rw [c_isNo, Option.bind_some, Y_sideB hn hi, Option.bind_some]
  dsimp only
  rw [Z_gB hi, Option.bind_some, hd, if_neg (show ¬ zi 1 = 0 by decide)]
  rfl
theorem Y_mountXO (hn : n ≤ 6) (hd : C.1 (oOf n) 6 = 1) : s_No_mount g S (zi n) (cW S n C ρ) = some (zi 0, cW S n C ρ) := by
  unfold s_No_mount
  rw [c_isNo, Option.bind_some, Y_sideO hn, Option.bind_some]
  dsimp only
  rw [Z_gO, Option.bind_some, hd, if_neg (show ¬ zi 1 = 0 by decide)]
  rfl
theorem Y_flushN {x : Int32} (hn : n ≤ 6) (h : x < 0 ∨ ∃ k, k < 2147483648 ∧ n < k ∧ x = zi k) : s_No_flush g S x (cW S n C ρ) = some (zi 0, cW S n C ρ) := by
  unfold s_No_flush
  rw [c_isNo, Option.bind_some, Y_sideN hn h, Option.bind_some]
  rfl
theorem Y_flushXB (hn : n ≤ 6) (hi : i < n) (hd : C.1 (oBr i) 8 = 0) : s_No_flush g S (zi i) (cW S n C ρ) = some (zi 0, cW S n C ρ) := by
  unfold s_No_flush
  rw [c_isNo, Option.bind_some, Y_sideB hn hi, Option.bind_some]
  dsimp only
  rw [Z_gB hi, Option.bind_some, hd, if_pos (show zi 0 = 0 from rfl)]
  rfl
theorem Y_flushXO (hn : n ≤ 6) (hd : C.1 (oOf n) 6 = 0) : s_No_flush g S (zi n) (cW S n C ρ) = some (zi 0, cW S n C ρ) := by
  unfold s_No_flush
  rw [c_isNo, Option.bind_some, Y_sideO hn, Option.bind_some]
  dsimp only
  rw [Z_gO, Option.bind_some, hd, if_pos (show zi 0 = 0 from rfl)]
  rfl
theorem Y_crashB {σ : zS} (hn : n ≤ 6) (hi : i < n) (hu : C.1 (oBr i) 8 = 1) (hf : s_Branch_forget g (S + oBr i) (cW S n (cSN C (oBr i) 8 0) ρ) = some σ) : s_No_crash g S (zi i) (cW S n C ρ) = some (zi 1, σ) := by
  have q1 : zpF2 (cW S n C ρ) (S + oBr i) 1 8 4 6 (.int 0) = some (cW S n (cSN C (oBr i) 8 0) ρ) := Z_pB (v := 0) hi
  unfold s_No_crash
  rw [c_isNo, Option.bind_some, Y_sideB hn hi, Option.bind_some]
  dsimp only
  rw [Z_gB hi, Option.bind_some, hu, if_neg (show ¬ zi 1 = 0 by decide), q1, Option.bind_some, if_pos (x_clBr hi), x_isBr hi, Option.bind_some, hf, Option.bind_some]
  rfl
theorem Y_crashO {σ : zS} (hn : n ≤ 6) (hu : C.1 (oOf n) 6 = 1) (hf : s_Office_forget g (S + oOf n) (cW S n (cSN C (oOf n) 6 0) ρ) = some σ) : s_No_crash g S (zi n) (cW S n C ρ) = some (zi 1, σ) := by
  have q1 : zpF2 (cW S n C ρ) (S + oOf n) 1 8 4 6 (.int 0) = some (cW S n (cSN C (oOf n) 6 0) ρ) := Z_pO (v := 0)
  unfold s_No_crash
  rw [c_isNo, Option.bind_some, Y_sideO hn, Option.bind_some]
  dsimp only
  rw [Z_gO, Option.bind_some, hu, if_neg (show ¬ zi 1 = 0 by decide), q1, Option.bind_some, if_neg (by rw [x_clOf]; decide), x_isOf, Option.bind_some, hf, Option.bind_some]
  rfl
theorem Y_mountB (hn : n ≤ 6) (hi : i < n) (hd : C.1 (oBr i) 8 = 0) : s_No_mount g S (zi i) (cW S n C ρ) = some (zi 1, cW S n (cSN C (oBr i) 8 1) ρ) := by
  have q1 : zpF2 (cW S n C ρ) (S + oBr i) 1 8 4 6 (.int 1) = some (cW S n (cSN C (oBr i) 8 1) ρ) := Z_pB (v := 1) hi
  unfold s_No_mount
  rw [c_isNo, Option.bind_some, Y_sideB hn hi, Option.bind_some]
  dsimp only
  rw [Z_gB hi, Option.bind_some, hd, if_pos (show zi 0 = 0 from rfl), q1, Option.bind_some]
  rfl
theorem Y_mountO (hn : n ≤ 6) (hd : C.1 (oOf n) 6 = 0) : s_No_mount g S (zi n) (cW S n C ρ) = some (zi 1, cW S n (cSN C (oOf n) 6 1) ρ) := by
  have q1 : zpF2 (cW S n C ρ) (S + oOf n) 1 8 4 6 (.int 1) = some (cW S n (cSN C (oOf n) 6 1) ρ) := Z_pO (v := 1)
  unfold s_No_mount
  rw [c_isNo, Option.bind_some, Y_sideO hn, Option.bind_some]
  dsimp only
  rw [Z_gO, Option.bind_some, hd, if_pos (show zi 0 = 0 from rfl), q1, Option.bind_some]
  rfl
theorem Y_flushB (hn : n ≤ 6) (hi : i < n) (hu : C.1 (oBr i) 8 = 1) (h3 : C.1 (oBr i) 3 < 2) (h4 : C.1 (oBr i) 4 < 2) : s_No_flush g S (zi i) (cW S n C ρ) = some (zi 1, cW S n (cSv C i) ρ) := by
  unfold s_No_flush
  rw [c_isNo, Option.bind_some, Y_sideB hn hi, Option.bind_some]
  dsimp only
  rw [Z_gB hi, Option.bind_some, hu, if_neg (show ¬ zi 1 = 0 by decide), if_pos (x_clBr hi), x_isBr hi, Option.bind_some, Y_saveB hi h3 h4, Option.bind_some]
  rfl
theorem Y_flushO (hF : S + cF n ≤ F) (hn : n ≤ 6) (hu : C.1 (oOf n) 6 = 1) (hA : ansR F n C ρ 0) (h2 : ∀ k, k < n → C.1 (oSt n 0) k < 2) : s_No_flush g S (zi n) (cW S n C ρ) = some (zi 1, cW S n (cCpO C n 0 1) ρ) := by
  unfold s_No_flush
  rw [c_isNo, Option.bind_some, Y_sideO hn, Option.bind_some]
  dsimp only
  rw [Z_gO, Option.bind_some, hu, if_neg (show ¬ zi 1 = 0 by decide), if_neg (by rw [x_clOf]; decide), x_isOf, Option.bind_some, Y_saveO hF hn hA h2, Option.bind_some]
  rfl
/-! the post -/
theorem Y_letters : s_No_letters g S (cW S n C ρ) = some (zi (C.1 (oPo n) 1), cW S n C ρ) := by
  unfold s_No_letters
  rw [c_gNo2, Option.bind_some, Option.bind_some, x_isPo, Option.bind_some, L_size ck_Po lt_Po, Option.bind_some]
theorem Y_letterN {x y : Int32} (hL : C.1 (oPo n) 1 ≤ 64) (h : x < 0 ∨ ∃ k, k < 2147483648 ∧ C.1 (oPo n) 1 ≤ k ∧ x = zi k) : s_No_letter g S x y (cW S n C ρ) = some (-1, cW S n C ρ) := by
  unfold s_No_letter
  rw [c_isNo, Option.bind_some, Y_mailN hL h, Option.bind_some]
/-- the kind, branch and number that a mail's cell shows -/
def mlF (F : Nat) (ρ : zS) (p kd b num : Nat) : Prop := (∃ ser w ev, isLet F ρ p ser w ev kd b num) ∨ (kd = 3 ∧ ∃ st bl, isAns F ρ p st bl b num)
theorem mlF.mail {p kd b num : Nat} (h : mlF F ρ p kd b num) : isMail F ρ p := by
  rcases h with ⟨ser, w, ev, h⟩ | ⟨_, st, bl, h⟩
  · exact Or.inl ⟨_, h⟩
  · exact Or.inr ⟨_, h⟩
theorem mlF.get {p kd b num : Nat} (h : mlF F ρ p kd b num) (hF : S + cF n ≤ F) : zgI2 (cW S n C ρ) p 9 3 6 2 = some (zi kd) ∧ zgI2 (cW S n C ρ) p 9 4 6 3 = some (zi b) ∧ zgI2 (cW S n C ρ) p 9 5 6 4 = some (zi num) := by
  unfold zgI2
  rcases h with ⟨ser, w, ev, h⟩ | ⟨rfl, st, bl, h⟩
  · have hc := dOb.cls (C := C) h hF
    rw [if_pos hc, if_pos hc, if_pos hc]
    exact ⟨dOb.gI h hF rfl, dOb.gI h hF rfl, dOb.gI h hF rfl⟩
  · have hc : ¬ zcls (cW S n C ρ) p = some 9 := by
      rw [dOb.cls h hF]
      decide
    rw [if_neg hc, if_neg hc, if_neg hc]
    exact ⟨dOb.gI h hF rfl, dOb.gI h hF rfl, dOb.gI h hF rfl⟩
theorem Y_letter {k kd b num : Nat} {w : Int32} (h : LLs e S F n C ρ f) (hk : k < C.1 (oPo n) 1) (hm : mlF F ρ (f (oPo n) k) kd b num) : s_No_letter g S (zi k) w (cW S n C ρ) = some (if w = 0 then zi kd else if w = 1 then zi b else if w = 2 then zi num else -1, cW S n C ρ) := by
  obtain ⟨g1, g2, g3⟩ := hm.get (C := C) h.1.2.1
  unfold s_No_letter
  rw [c_isNo, Option.bind_some, Y_mail h hk hm.mail, Option.bind_some]
  dsimp only
  by_cases w0 : w = 0
  · subst w0
    rw [if_neg (show ¬ ((0 : Int32).toInt < 0 ∨ 2 < (0 : Int32).toInt) by decide), if_pos rfl, if_pos rfl, g1, Option.bind_some]
  by_cases w1 : w = 1
  · subst w1
    rw [if_neg (show ¬ ((1 : Int32).toInt < 0 ∨ 2 < (1 : Int32).toInt) by decide), if_neg w0, if_neg w0, if_pos rfl, if_pos rfl, g2, Option.bind_some]
  by_cases w2 : w = 2
  · subst w2
    rw [if_neg (show ¬ ((2 : Int32).toInt < 0 ∨ 2 < (2 : Int32).toInt) by decide), if_neg w0, if_neg w0, if_neg w1, if_neg w1, if_pos rfl, if_pos rfl, g3, Option.bind_some]
  · have hw : w.toInt < 0 ∨ 2 < w.toInt := by
      rcases Int.lt_or_le w.toInt 0 with h | h
      · exact Or.inl h
      · refine Or.inr ?_
        have a0 : ¬ w.toInt = 0 := fun q => w0 (Int32.toInt_inj.mp q)
        have a1 : ¬ w.toInt = 1 := fun q => w1 (Int32.toInt_inj.mp q)
        have a2 : ¬ w.toInt = 2 := fun q => w2 (Int32.toInt_inj.mp q)
        omega
    rw [if_pos hw, if_neg w0, if_neg w1, if_neg w2]
theorem Y_dropN {x : Int32} (hL : C.1 (oPo n) 1 ≤ 64) (h : x < 0 ∨ ∃ k, k < 2147483648 ∧ C.1 (oPo n) 1 ≤ k ∧ x = zi k) : s_No_drop g S x (cW S n C ρ) = some (0, cW S n C ρ) := by
  unfold s_No_drop
  rw [c_isNo, Option.bind_some, Y_mailN hL h, Option.bind_some]
def drp (e S F n k : Nat) (C : cS) (ρ : zS) (f : Nat → Nat → Nat) (C' : cS) (ρ' : zS) : Prop := LLs e S F n C' ρ' (fDel f (oPo n) k) ∧ C'.1 (oPo n) 1 = C.1 (oPo n) 1 - 1 ∧ sameC (oPo n) C C' ∧ dX ρ ρ' ∧ ρ'.1 = ρ.1 ∧ ρ'.2.1 = ρ.2.1
theorem Y_drop {k : Nat} (h : LLs e S F n C ρ f) (hk : k < C.1 (oPo n) 1) (hm : isMail F ρ (f (oPo n) k)) : ∃ C' ρ', s_No_drop g S (zi k) (cW S n C ρ) = some (1, cW S n C' ρ') ∧ drp e S F n k C ρ f C' ρ' := by
  obtain ⟨C', ρ', a1, a2⟩ := L_remove (g := g) h ck_Po lt_Po hk
  refine ⟨C', ρ', ?_, a2⟩
  unfold s_No_drop
  rw [c_isNo, Option.bind_some, Y_mail h hk hm, Option.bind_some]
  dsimp only
  rw [c_gNo2, Option.bind_some, Option.bind_some, x_isPo, Option.bind_some, a1, Option.bind_some]
theorem Y_twinN {x : Int32} (hL : C.1 (oPo n) 1 ≤ 64) (h : x < 0 ∨ ∃ k, k < 2147483648 ∧ C.1 (oPo n) 1 ≤ k ∧ x = zi k) : s_No_twin g S x (cW S n C ρ) = some (zi 0, cW S n C ρ) := by
  unfold s_No_twin
  rw [c_isNo, Option.bind_some, Y_mailN hL h, Option.bind_some]
  rfl
theorem isMail.ok {p : Nat} (h : isMail F ρ p) : okE F ρ p := by
  rcases h with ⟨fs, h⟩ | ⟨fs, h⟩
  · exact dOb.okE h (by decide)
  · exact dOb.okE h (by decide)
theorem Y_twin {k : Nat} (h : LLs e S F n C ρ f) (hg : g 0 = some e) (hg2 : ∃ mi, g 10 = some mi) (hL : C.1 (oPo n) 1 ≤ 64) (hk : k < C.1 (oPo n) 1) (hm : isMail F ρ (f (oPo n) k)) : ∃ C' ρ' f', s_No_twin g S (zi k) (cW S n C ρ) = some (if C.1 (oPo n) 1 < 64 then zi 1 else zi 0, cW S n C' ρ') ∧ snt e S F n (f (oPo n) k) C ρ f C' ρ' f' := by
  obtain ⟨C', ρ', f', a1, a2⟩ := Y_sendQ (g := g) h hg hg2 hm.ok hL
  refine ⟨C', ρ', f', ?_, a2⟩
  unfold s_No_twin
  rw [c_isNo, Option.bind_some, Y_mail h hk hm, Option.bind_some]
  dsimp only
  rw [c_isNo, Option.bind_some, a1, Option.bind_some]
  dsimp only
  by_cases h1 : C.1 (oPo n) 1 < 64
  · rw [if_pos h1, if_neg (show ¬ zi 1 = 0 by decide)]
    rfl
  · rw [if_neg h1, if_pos (show zi 0 = 0 from rfl)]
    rfl
theorem Y_deliverN {x : Int32} (hL : C.1 (oPo n) 1 ≤ 64) (h : x < 0 ∨ ∃ k, k < 2147483648 ∧ C.1 (oPo n) 1 ≤ k ∧ x = zi k) : s_No_deliver g S x (cW S n C ρ) = some (0, cW S n C ρ) := by
  unfold s_No_deliver
  rw [c_isNo, Option.bind_some, Y_mailN hL h, Option.bind_some]
/-- a mail is taken off and brought -/
theorem Y_deliverL {k : Nat} {fs : List Value} (h : LLs e S F n C ρ f) (hk : k < C.1 (oPo n) 1) (hm : dOb F ρ (f (oPo n) k) 9 fs) : ∃ C1 ρ1, drp e S F n k C ρ f C1 ρ1 ∧ ∀ σ, s_No_bringToOffice g S (some (f (oPo n) k)) (cW S n C1 ρ1) = some σ → s_No_deliver g S (zi k) (cW S n C ρ) = some (1, σ) := by
  have hF := h.1.2.1
  obtain ⟨C1, ρ1, a1, a2⟩ := L_remove (g := g) h ck_Po lt_Po hk
  refine ⟨C1, ρ1, a2, fun σ hσ => ?_⟩
  have hm2 := dOb.mono hm a2.2.2.2.1
  unfold s_No_deliver
  rw [c_isNo, Option.bind_some, Y_mail h hk (Or.inl ⟨_, hm⟩), Option.bind_some]
  dsimp only
  rw [c_gNo2, Option.bind_some, Option.bind_some, x_isPo, Option.bind_some, a1, Option.bind_some]
  dsimp only
  rw [if_pos (dOb.cls hm2 hF), dOb.is hm2 hF, Option.bind_some, c_isNo, Option.bind_some, hσ, Option.bind_some]
  rfl
theorem Y_deliverA {k : Nat} {fs : List Value} (h : LLs e S F n C ρ f) (hk : k < C.1 (oPo n) 1) (hm : dOb F ρ (f (oPo n) k) 6 fs) : ∃ C1 ρ1, drp e S F n k C ρ f C1 ρ1 ∧ ∀ σ, s_No_bringToBranch g S (some (f (oPo n) k)) (cW S n C1 ρ1) = some σ → s_No_deliver g S (zi k) (cW S n C ρ) = some (1, σ) := by
  have hF := h.1.2.1
  obtain ⟨C1, ρ1, a1, a2⟩ := L_remove (g := g) h ck_Po lt_Po hk
  refine ⟨C1, ρ1, a2, fun σ hσ => ?_⟩
  have hm2 := dOb.mono hm a2.2.2.2.1
  have hc : ¬ zcls (cW S n C1 ρ1) (f (oPo n) k) = some 9 := by
    rw [dOb.cls hm2 hF]
    decide
  unfold s_No_deliver
  rw [c_isNo, Option.bind_some, Y_mail h hk (Or.inr ⟨_, hm⟩), Option.bind_some]
  dsimp only
  rw [c_gNo2, Option.bind_some, Option.bind_some, x_isPo, Option.bind_some, a1, Option.bind_some]
  dsimp only
  rw [if_neg hc, dOb.is hm2 hF, Option.bind_some, if_pos (dOb.cls hm2 hF), Option.bind_some, c_isNo, Option.bind_some, hσ, Option.bind_some]
  rfl
theorem Y_bringO0 {p : Option Nat} (hd : C.1 (oOf n) 6 = 0) : s_No_bringToOffice g S p (cW S n C ρ) = some (cW S n C ρ) := by
  unfold s_No_bringToOffice
  rw [c_gNo1, Option.bind_some, Option.bind_some, x_gOf6, Option.bind_some, hd, if_pos (show zi 0 = 0 from rfl)]
theorem Y_bringON {p : Nat} (hu : C.1 (oOf n) 6 = 1) (hA : s_Office_answerTo g (S + oOf n) (some p) (cW S n C ρ) = some (none, cW S n C ρ)) : s_No_bringToOffice g S (some p) (cW S n C ρ) = some (cW S n C ρ) := by
  unfold s_No_bringToOffice
  rw [c_gNo1, Option.bind_some, Option.bind_some, x_gOf6, Option.bind_some, hu, if_neg (show ¬ zi 1 = 0 by decide), Option.bind_some, Option.bind_some, x_isOf, Option.bind_some, hA, Option.bind_some]
  rfl
theorem Y_bringO {p a : Nat} (hu : C.1 (oOf n) 6 = 1) (hA : s_Office_answerTo g (S + oOf n) (some p) (cW S n C ρ) = some (some a, cW S n C1 ρ1)) (h : LLs e S F n C1 ρ1 f) (hg : g 0 = some e) (hg2 : ∃ mi, g 10 = some mi) (hL : C1.1 (oPo n) 1 ≤ 64) (hm : okE F ρ1 a) : ∃ C' ρ' f', s_No_bringToOffice g S (some p) (cW S n C ρ) = some (cW S n C' ρ') ∧ snt e S F n a C1 ρ1 f C' ρ' f' := by
  obtain ⟨C', ρ', f', a1, a2⟩ := Y_sendQ (g := g) h hg hg2 hm hL
  refine ⟨C', ρ', f', ?_, a2⟩
  unfold s_No_bringToOffice
  rw [c_gNo1, Option.bind_some, Option.bind_some, x_gOf6, Option.bind_some, hu, if_neg (show ¬ zi 1 = 0 by decide), Option.bind_some, Option.bind_some, x_isOf, Option.bind_some, hA, Option.bind_some]
  dsimp only
  rw [c_isNo, Option.bind_some, a1, Option.bind_some]
  rfl
theorem Y_bringB0 {p st num : Nat} {bl : Option Nat} (hF : S + cF n ≤ F) (hn : n ≤ 6) (hi : i < n) (hp : isAns F ρ p st bl i num) (hd : C.1 (oBr i) 8 = 0) : s_No_bringToBranch g S (some p) (cW S n C ρ) = some (cW S n C ρ) := by
  have q1 : zgI (cW S n C ρ) p 6 3 = some (zi i) := dOb.gI hp hF rfl
  unfold s_No_bringToBranch
  rw [Option.bind_some, q1, Option.bind_some, c_isNo, Option.bind_some, Y_branchAt hi hn, Option.bind_some]
  dsimp only
  rw [x_gBr8 hi, Option.bind_some, hd, if_pos (show zi 0 = 0 from rfl)]
  rfl
theorem Y_bringB {p st num : Nat} {bl : Option Nat} {σ : zS} (hF : S + cF n ≤ F) (hn : n ≤ 6) (hi : i < n) (hp : isAns F ρ p st bl i num) (hu : C.1 (oBr i) 8 = 1) (hr : s_Branch_read g (S + oBr i) (some p) (cW S n C ρ) = some σ) : s_No_bringToBranch g S (some p) (cW S n C ρ) = some σ := by
  have q1 : zgI (cW S n C ρ) p 6 3 = some (zi i) := dOb.gI hp hF rfl
  unfold s_No_bringToBranch
  rw [Option.bind_some, q1, Option.bind_some, c_isNo, Option.bind_some, Y_branchAt hi hn, Option.bind_some]
  dsimp only
  rw [x_gBr8 hi, Option.bind_some, hu, if_neg (show ¬ zi 1 = 0 by decide), x_isBr hi, Option.bind_some, hr, Option.bind_some]
  rfl
end CNO5
