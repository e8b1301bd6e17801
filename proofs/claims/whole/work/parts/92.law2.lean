section LAW2
variable {g : zG} {e S n b L A B T q : Nat} {C C' : cS} {M M' : mS} {ρ ρ' : zS} {f f' : Nat → Nat → Nat} {xs : Nat → Int32} {K : Option Nat → Option Nat → Option Nat → Option Nat → Int32 → zS → Option (Int32 × zS)}
theorem lg_self (x : Int64) : lg_cmp x x = 0 := by
  unfold lg_cmp
  rw [if_neg (fun h => absurd h Int64.lt_irrefl), if_pos rfl]
theorem zi_t1 {k : Nat} : zi (1 + 6 * T) + zi k = zi (1 + 6 * T + k) := zi_add _ _
theorem law_tail {v1 v2 v3 v0 : Option Nat} {σ : zS} : s_Law_law_1387 g K v0 v1 v2 v3 (zi (1 + 6 * T)) σ = K v0 v1 v2 v3 (zi (1 + 6 * (T + 1))) σ := by
  unfold s_Law_law_1387
  have h : zi (1 + 6 * T) + 6 = zi (1 + 6 * (T + 1)) := by
    show zi (1 + 6 * T) + zi 6 = _
    rw [zi_add, show 1 + 6 * T + 6 = 1 + 6 * (T + 1) by omega]
  rw [h]
theorem S_series (hJ : JR g e S n b L A B xs C M ρ f T) (hL : L ≤ 3073) (hT : T < 512) (hi : 1 + 6 * T + 6 ≤ L) (hg : g 21 = some q) : ∃ C' M' ρ' f', JR g e S n b L A B xs C' M' ρ' f' (T + 1) ∧ s_Law_law_156 g K (some b) (some S) (some (S + cF n)) (some (S + cF n + 35)) (zi (1 + 6 * T)) (cW S n C ρ) = K (some b) (some S) (some (S + cF n)) (some (S + cF n + 35)) (zi (1 + 6 * (T + 1))) (cW S n C' ρ') := by
  have a1 : zaI (cW S n C ρ) b 0 (zi (1 + 6 * T) + 1) = some (xs (1 + 6 * T + 1)) := by show zaI (cW S n C ρ) b 0 (zi (1 + 6 * T) + zi 1) = _; rw [zi_t1]; exact hJ.2.2.at hL (by omega)
  have a2 : zaI (cW S n C ρ) b 0 (zi (1 + 6 * T) + 2) = some (xs (1 + 6 * T + 2)) := by show zaI (cW S n C ρ) b 0 (zi (1 + 6 * T) + zi 2) = _; rw [zi_t1]; exact hJ.2.2.at hL (by omega)
  obtain ⟨c, C1, ρ1, C', M', ρ', f', y, ⟨x, C2, ρ2, r1, r2⟩, h2, h3, h4, h5, h6, h7, h8⟩ := hJ.co1 (α := Int32) (fun x => if x = 0 then 0 else 1) hL (K_series (g := g) (x := xs (1 + 6 * T + 1)) (y := xs (1 + 6 * T + 2)) hJ.1 hJ.2.1 hT hg)
  have c1 : zaI (cW S n C1 ρ1) b 0 (zi (1 + 6 * T) + 1) = some (xs (1 + 6 * T + 1)) := by show zaI (cW S n C1 ρ1) b 0 (zi (1 + 6 * T) + zi 1) = _; rw [zi_t1]; exact h2 _ (by omega)
  have c2 : zaI (cW S n C1 ρ1) b 0 (zi (1 + 6 * T) + 2) = some (xs (1 + 6 * T + 2)) := by show zaI (cW S n C1 ρ1) b 0 (zi (1 + 6 * T) + zi 2) = _; rw [zi_t1]; exact h2 _ (by omega)
  have hw : s_Law_series g (some S) (xs (1 + 6 * T + 1)) (xs (1 + 6 * T + 2)) (some (S + cF n + 35)) (cW S n C ρ) = some (zi c, cW S n C1 ρ1) := by
    unfold s_Law_series
    rw [Option.bind_some, c_isNo, Option.bind_some, r1, Option.bind_some]
    rcases r2 with ⟨rfl, rfl, r3⟩ | ⟨a, rfl, rfl, r3, r4⟩
    · dsimp only at r3 ⊢
      by_cases hy : y = 0
      · rw [if_pos hy] at r3 ⊢
        unfold s_Law_series_16
        rw [Option.bind_some, r3, Option.bind_some]; rfl
      · rw [if_neg hy] at r3 ⊢
        unfold s_Law_series_16
        rw [Option.bind_some, r3, Option.bind_some]; rfl
    · dsimp only
      rw [r3, Option.bind_some, r4]; rfl
  refine ⟨C', M', ρ', f', h8, ?_⟩
  unfold s_Law_law_156
  rw [Option.bind_some, a1, Option.bind_some, a2, Option.bind_some, hw, Option.bind_some]
  dsimp only
  rw [c1, Option.bind_some, c2, Option.bind_some, Option.bind_some, h3, Option.bind_some, h4, Option.bind_some]
  dsimp only
  rw [h5, Option.bind_some, h6, Option.bind_some]
  dsimp only
  rw [if_pos rfl]
  rcases h7 with ⟨rfl, h7⟩ | rfl
  · rw [if_pos (show zi 0 = 0 from rfl), Option.bind_some, h7, Option.bind_some]
    by_cases hy : y = 0
    · rw [if_pos hy, if_pos hy]
      unfold s_Law_law_222
      rw [if_pos (lg_self _)]
      exact law_tail
    · rw [if_neg hy, if_neg hy]
      unfold s_Law_law_222
      rw [if_pos (lg_self _)]
      exact law_tail
  · rw [if_neg (show ¬ zi 1 = 0 by decide)]
    exact law_tail
theorem S_request (hJ : JR g e S n b L A B xs C M ρ f T) (hL : L ≤ 3073) (hT : T < 512) (hi : 1 + 6 * T + 6 ≤ L) (hg : g 21 = some q) (hg0 : g 0 = some e) (hg2 : ∃ mi, g 10 = some mi) : ∃ C' M' ρ' f', JR g e S n b L A B xs C' M' ρ' f' (T + 1) ∧ s_Law_law_231 g K (some b) (some S) (some (S + cF n)) (some (S + cF n + 35)) (zi (1 + 6 * T)) (cW S n C ρ) = K (some b) (some S) (some (S + cF n)) (some (S + cF n + 35)) (zi (1 + 6 * (T + 1))) (cW S n C' ρ') := by
  have a1 : zaI (cW S n C ρ) b 0 (zi (1 + 6 * T) + 1) = some (xs (1 + 6 * T + 1)) := by show zaI (cW S n C ρ) b 0 (zi (1 + 6 * T) + zi 1) = _; rw [zi_t1]; exact hJ.2.2.at hL (by omega)
  have a2 : zaI (cW S n C ρ) b 0 (zi (1 + 6 * T) + 2) = some (xs (1 + 6 * T + 2)) := by show zaI (cW S n C ρ) b 0 (zi (1 + 6 * T) + zi 2) = _; rw [zi_t1]; exact hJ.2.2.at hL (by omega)
  have a3 : zaI (cW S n C ρ) b 0 (zi (1 + 6 * T) + 3) = some (xs (1 + 6 * T + 3)) := by show zaI (cW S n C ρ) b 0 (zi (1 + 6 * T) + zi 3) = _; rw [zi_t1]; exact hJ.2.2.at hL (by omega)
  obtain ⟨c, C1, ρ1, C', M', ρ', f', y, ⟨x, C2, ρ2, r1, r2⟩, h2, h3, h4, h5, h6, h7, h8⟩ := hJ.co1 (α := Int32) (fun x => x.toInt64) hL (K_request (g := g) (x := xs (1 + 6 * T + 1)) (y := xs (1 + 6 * T + 2)) (z := xs (1 + 6 * T + 3)) hJ.1 hJ.2.1 hT hg hg0 hg2)
  have c1 : zaI (cW S n C1 ρ1) b 0 (zi (1 + 6 * T) + 1) = some (xs (1 + 6 * T + 1)) := by show zaI (cW S n C1 ρ1) b 0 (zi (1 + 6 * T) + zi 1) = _; rw [zi_t1]; exact h2 _ (by omega)
  have c2 : zaI (cW S n C1 ρ1) b 0 (zi (1 + 6 * T) + 2) = some (xs (1 + 6 * T + 2)) := by show zaI (cW S n C1 ρ1) b 0 (zi (1 + 6 * T) + zi 2) = _; rw [zi_t1]; exact h2 _ (by omega)
  have c3 : zaI (cW S n C1 ρ1) b 0 (zi (1 + 6 * T) + 3) = some (xs (1 + 6 * T + 3)) := by show zaI (cW S n C1 ρ1) b 0 (zi (1 + 6 * T) + zi 3) = _; rw [zi_t1]; exact h2 _ (by omega)
  have hw : s_Law_request g (some S) (xs (1 + 6 * T + 1)) (xs (1 + 6 * T + 2)) (xs (1 + 6 * T + 3)) (some (S + cF n + 35)) (cW S n C ρ) = some (zi c, cW S n C1 ρ1) := by
    unfold s_Law_request
    rw [Option.bind_some, c_isNo, Option.bind_some, r1, Option.bind_some]
    rcases r2 with ⟨rfl, rfl, r3⟩ | ⟨a, rfl, rfl, r3, r4⟩
    · dsimp only at r3 ⊢
      rw [Option.bind_some, r3, Option.bind_some]; rfl
    · dsimp only
      rw [r3, Option.bind_some, r4]; rfl
  refine ⟨C', M', ρ', f', h8, ?_⟩
  unfold s_Law_law_231
  rw [Option.bind_some, a1, Option.bind_some, a2, Option.bind_some, a3, Option.bind_some, hw, Option.bind_some]
  dsimp only
  rw [c1, Option.bind_some, c2, Option.bind_some, c3, Option.bind_some, Option.bind_some, h3, Option.bind_some, h4, Option.bind_some]
  dsimp only
  rw [h5, Option.bind_some, h6, Option.bind_some]
  dsimp only
  rw [if_pos rfl]
  rcases h7 with ⟨rfl, h7⟩ | rfl
  · rw [if_pos (show zi 0 = 0 from rfl), Option.bind_some, h7, Option.bind_some]
    rw [if_pos (lg_self _)]
    exact law_tail
  · rw [if_neg (show ¬ zi 1 = 0 by decide)]
    exact law_tail
theorem S_report (hJ : JR g e S n b L A B xs C M ρ f T) (hL : L ≤ 3073) (hT : T < 512) (hi : 1 + 6 * T + 6 ≤ L) (hg : g 21 = some q) (hg0 : g 0 = some e) (hg2 : ∃ mi, g 10 = some mi) : ∃ C' M' ρ' f', JR g e S n b L A B xs C' M' ρ' f' (T + 1) ∧ s_Law_law_311 g K (some b) (some S) (some (S + cF n)) (some (S + cF n + 35)) (zi (1 + 6 * T)) (cW S n C ρ) = K (some b) (some S) (some (S + cF n)) (some (S + cF n + 35)) (zi (1 + 6 * (T + 1))) (cW S n C' ρ') := by
  have a1 : zaI (cW S n C ρ) b 0 (zi (1 + 6 * T) + 1) = some (xs (1 + 6 * T + 1)) := by show zaI (cW S n C ρ) b 0 (zi (1 + 6 * T) + zi 1) = _; rw [zi_t1]; exact hJ.2.2.at hL (by omega)
  have a2 : zaI (cW S n C ρ) b 0 (zi (1 + 6 * T) + 2) = some (xs (1 + 6 * T + 2)) := by show zaI (cW S n C ρ) b 0 (zi (1 + 6 * T) + zi 2) = _; rw [zi_t1]; exact hJ.2.2.at hL (by omega)
  obtain ⟨c, C1, ρ1, C', M', ρ', f', y, ⟨x, C2, ρ2, r1, r2⟩, h2, h3, h4, h5, h6, h7, h8⟩ := hJ.co1 (α := Int32) (fun x => x.toInt64) hL (K_report (g := g) (x := xs (1 + 6 * T + 1)) (y := xs (1 + 6 * T + 2)) hJ.1 hJ.2.1 hT hg hg0 hg2)
  have c1 : zaI (cW S n C1 ρ1) b 0 (zi (1 + 6 * T) + 1) = some (xs (1 + 6 * T + 1)) := by show zaI (cW S n C1 ρ1) b 0 (zi (1 + 6 * T) + zi 1) = _; rw [zi_t1]; exact h2 _ (by omega)
  have c2 : zaI (cW S n C1 ρ1) b 0 (zi (1 + 6 * T) + 2) = some (xs (1 + 6 * T + 2)) := by show zaI (cW S n C1 ρ1) b 0 (zi (1 + 6 * T) + zi 2) = _; rw [zi_t1]; exact h2 _ (by omega)
  have hw : s_Law_report g (some S) (xs (1 + 6 * T + 1)) (xs (1 + 6 * T + 2)) (some (S + cF n + 35)) (cW S n C ρ) = some (zi c, cW S n C1 ρ1) := by
    unfold s_Law_report
    rw [Option.bind_some, c_isNo, Option.bind_some, r1, Option.bind_some]
    rcases r2 with ⟨rfl, rfl, r3⟩ | ⟨a, rfl, rfl, r3, r4⟩
    · dsimp only at r3 ⊢
      rw [Option.bind_some, r3, Option.bind_some]; rfl
    · dsimp only
      rw [r3, Option.bind_some, r4]; rfl
  refine ⟨C', M', ρ', f', h8, ?_⟩
  unfold s_Law_law_311
  rw [Option.bind_some, a1, Option.bind_some, a2, Option.bind_some, hw, Option.bind_some]
  dsimp only
  rw [c1, Option.bind_some, c2, Option.bind_some, Option.bind_some, h3, Option.bind_some, h4, Option.bind_some]
  dsimp only
  rw [h5, Option.bind_some, h6, Option.bind_some]
  dsimp only
  rw [if_pos rfl]
  rcases h7 with ⟨rfl, h7⟩ | rfl
  · rw [if_pos (show zi 0 = 0 from rfl), Option.bind_some, h7, Option.bind_some]
    rw [if_pos (lg_self _)]
    exact law_tail
  · rw [if_neg (show ¬ zi 1 = 0 by decide)]
    exact law_tail
theorem S_again (hJ : JR g e S n b L A B xs C M ρ f T) (hL : L ≤ 3073) (hT : T < 512) (hi : 1 + 6 * T + 6 ≤ L) (hg0 : g 0 = some e) (hg2 : ∃ mi, g 10 = some mi) : ∃ C' M' ρ' f', JR g e S n b L A B xs C' M' ρ' f' (T + 1) ∧ s_Law_law_379 g K (some b) (some S) (some (S + cF n)) (some (S + cF n + 35)) (zi (1 + 6 * T)) (cW S n C ρ) = K (some b) (some S) (some (S + cF n)) (some (S + cF n + 35)) (zi (1 + 6 * (T + 1))) (cW S n C' ρ') := by
  have a1 : zaI (cW S n C ρ) b 0 (zi (1 + 6 * T) + 1) = some (xs (1 + 6 * T + 1)) := by show zaI (cW S n C ρ) b 0 (zi (1 + 6 * T) + zi 1) = _; rw [zi_t1]; exact hJ.2.2.at hL (by omega)
  obtain ⟨v, C1, ρ1, C', M', ρ', f', h1, h2, h3, h4, h5⟩ := hJ.co0 hL (K_again (g := g) (x := xs (1 + 6 * T + 1)) hJ.1 hJ.2.1 hT hg0 hg2)
  have c1 : zaI (cW S n C1 ρ1) b 0 (zi (1 + 6 * T) + 1) = some (xs (1 + 6 * T + 1)) := by show zaI (cW S n C1 ρ1) b 0 (zi (1 + 6 * T) + zi 1) = _; rw [zi_t1]; exact h2 _ (by omega)
  refine ⟨C', M', ρ', f', h5, ?_⟩
  unfold s_Law_law_379
  rw [Option.bind_some, a1, Option.bind_some, Option.bind_some, c_isNo, Option.bind_some, h1, Option.bind_some]
  dsimp only
  rw [c1, Option.bind_some, Option.bind_some, h3, Option.bind_some, h4, Option.bind_some]
  dsimp only
  rw [if_pos rfl]
  exact law_tail
theorem S_invoice (hJ : JR g e S n b L A B xs C M ρ f T) (hL : L ≤ 3073) (hT : T < 512) (hi : 1 + 6 * T + 6 ≤ L) (hg : g 21 = some q) (hg0 : g 0 = some e) (hg2 : ∃ mi, g 10 = some mi) : ∃ C' M' ρ' f', JR g e S n b L A B xs C' M' ρ' f' (T + 1) ∧ s_Law_law_404 g K (some b) (some S) (some (S + cF n)) (some (S + cF n + 35)) (zi (1 + 6 * T)) (cW S n C ρ) = K (some b) (some S) (some (S + cF n)) (some (S + cF n + 35)) (zi (1 + 6 * (T + 1))) (cW S n C' ρ') := by
  have a1 : zaI (cW S n C ρ) b 0 (zi (1 + 6 * T) + 1) = some (xs (1 + 6 * T + 1)) := by show zaI (cW S n C ρ) b 0 (zi (1 + 6 * T) + zi 1) = _; rw [zi_t1]; exact hJ.2.2.at hL (by omega)
  have a2 : zaI (cW S n C ρ) b 0 (zi (1 + 6 * T) + 2) = some (xs (1 + 6 * T + 2)) := by show zaI (cW S n C ρ) b 0 (zi (1 + 6 * T) + zi 2) = _; rw [zi_t1]; exact hJ.2.2.at hL (by omega)
  have a3 : zaI (cW S n C ρ) b 0 (zi (1 + 6 * T) + 3) = some (xs (1 + 6 * T + 3)) := by show zaI (cW S n C ρ) b 0 (zi (1 + 6 * T) + zi 3) = _; rw [zi_t1]; exact hJ.2.2.at hL (by omega)
  have a4 : zaI (cW S n C ρ) b 0 (zi (1 + 6 * T) + 4) = some (xs (1 + 6 * T + 4)) := by show zaI (cW S n C ρ) b 0 (zi (1 + 6 * T) + zi 4) = _; rw [zi_t1]; exact hJ.2.2.at hL (by omega)
  have a5 : zaI (cW S n C ρ) b 0 (zi (1 + 6 * T) + 5) = some (xs (1 + 6 * T + 5)) := by show zaI (cW S n C ρ) b 0 (zi (1 + 6 * T) + zi 5) = _; rw [zi_t1]; exact hJ.2.2.at hL (by omega)
  obtain ⟨c, C1, ρ1, C', M', ρ', f', y, ⟨x, C2, ρ2, r1, r2⟩, h2, h3, h4, h5, h6, h7, h8⟩ := hJ.co1 (α := Int32) (fun x => x.toInt64) hL (K_invoice (g := g) (x := xs (1 + 6 * T + 1)) (y := xs (1 + 6 * T + 2)) (c := ((xs (1 + 6 * T + 3)).toInt64 <<< ((32 : Int32).toInt64 &&& 63)) ||| ((xs (1 + 6 * T + 4)).toInt64 &&& 4294967295)) (d := xs (1 + 6 * T + 5)) hJ.1 hJ.2.1 hT hg hg0 hg2)
  have c1 : zaI (cW S n C1 ρ1) b 0 (zi (1 + 6 * T) + 1) = some (xs (1 + 6 * T + 1)) := by show zaI (cW S n C1 ρ1) b 0 (zi (1 + 6 * T) + zi 1) = _; rw [zi_t1]; exact h2 _ (by omega)
  have c2 : zaI (cW S n C1 ρ1) b 0 (zi (1 + 6 * T) + 2) = some (xs (1 + 6 * T + 2)) := by show zaI (cW S n C1 ρ1) b 0 (zi (1 + 6 * T) + zi 2) = _; rw [zi_t1]; exact h2 _ (by omega)
  have c3 : zaI (cW S n C1 ρ1) b 0 (zi (1 + 6 * T) + 3) = some (xs (1 + 6 * T + 3)) := by show zaI (cW S n C1 ρ1) b 0 (zi (1 + 6 * T) + zi 3) = _; rw [zi_t1]; exact h2 _ (by omega)
  have c4 : zaI (cW S n C1 ρ1) b 0 (zi (1 + 6 * T) + 4) = some (xs (1 + 6 * T + 4)) := by show zaI (cW S n C1 ρ1) b 0 (zi (1 + 6 * T) + zi 4) = _; rw [zi_t1]; exact h2 _ (by omega)
  have c5 : zaI (cW S n C1 ρ1) b 0 (zi (1 + 6 * T) + 5) = some (xs (1 + 6 * T + 5)) := by show zaI (cW S n C1 ρ1) b 0 (zi (1 + 6 * T) + zi 5) = _; rw [zi_t1]; exact h2 _ (by omega)
  have hw : s_Law_invoice g (some S) (xs (1 + 6 * T + 1)) (xs (1 + 6 * T + 2)) (((xs (1 + 6 * T + 3)).toInt64 <<< ((32 : Int32).toInt64 &&& 63)) ||| ((xs (1 + 6 * T + 4)).toInt64 &&& 4294967295)) (xs (1 + 6 * T + 5)) (some (S + cF n + 35)) (cW S n C ρ) = some (zi c, cW S n C1 ρ1) := by
    unfold s_Law_invoice
    rw [Option.bind_some, c_isNo, Option.bind_some, r1, Option.bind_some]
    rcases r2 with ⟨rfl, rfl, r3⟩ | ⟨a, rfl, rfl, r3, r4⟩
    · dsimp only at r3 ⊢
      rw [Option.bind_some, r3, Option.bind_some]; rfl
    · dsimp only
      rw [r3, Option.bind_some, r4]; rfl
  refine ⟨C', M', ρ', f', h8, ?_⟩
  unfold s_Law_law_404
  rw [Option.bind_some, a1, Option.bind_some, a2, Option.bind_some, a3, Option.bind_some, a4, Option.bind_some, a5, Option.bind_some, hw, Option.bind_some]
  dsimp only
  rw [c1, Option.bind_some, c2, Option.bind_some, c3, Option.bind_some, c4, Option.bind_some, c5, Option.bind_some, Option.bind_some, h3, Option.bind_some, h4, Option.bind_some]
  dsimp only
  rw [h5, Option.bind_some, h6, Option.bind_some]
  dsimp only
  rw [if_pos rfl]
  rcases h7 with ⟨rfl, h7⟩ | rfl
  · rw [if_pos (show zi 0 = 0 from rfl), Option.bind_some, h7, Option.bind_some]
    rw [if_pos (lg_self _)]
    exact law_tail
  · rw [if_neg (show ¬ zi 1 = 0 by decide)]
    exact law_tail
theorem S_voidNext (hJ : JR g e S n b L A B xs C M ρ f T) (hL : L ≤ 3073) (hT : T < 512) (hi : 1 + 6 * T + 6 ≤ L) (hg : g 21 = some q) (hg0 : g 0 = some e) (hg2 : ∃ mi, g 10 = some mi) : ∃ C' M' ρ' f', JR g e S n b L A B xs C' M' ρ' f' (T + 1) ∧ s_Law_law_528 g K (some b) (some S) (some (S + cF n)) (some (S + cF n + 35)) (zi (1 + 6 * T)) (cW S n C ρ) = K (some b) (some S) (some (S + cF n)) (some (S + cF n + 35)) (zi (1 + 6 * (T + 1))) (cW S n C' ρ') := by
  have a1 : zaI (cW S n C ρ) b 0 (zi (1 + 6 * T) + 1) = some (xs (1 + 6 * T + 1)) := by show zaI (cW S n C ρ) b 0 (zi (1 + 6 * T) + zi 1) = _; rw [zi_t1]; exact hJ.2.2.at hL (by omega)
  have a2 : zaI (cW S n C ρ) b 0 (zi (1 + 6 * T) + 2) = some (xs (1 + 6 * T + 2)) := by show zaI (cW S n C ρ) b 0 (zi (1 + 6 * T) + zi 2) = _; rw [zi_t1]; exact hJ.2.2.at hL (by omega)
  have a3 : zaI (cW S n C ρ) b 0 (zi (1 + 6 * T) + 3) = some (xs (1 + 6 * T + 3)) := by show zaI (cW S n C ρ) b 0 (zi (1 + 6 * T) + zi 3) = _; rw [zi_t1]; exact hJ.2.2.at hL (by omega)
  obtain ⟨c, C1, ρ1, C', M', ρ', f', y, ⟨x, C2, ρ2, r1, r2⟩, h2, h3, h4, h5, h6, h7, h8⟩ := hJ.co1 (α := Int32) (fun x => x.toInt64) hL (K_voidNext (g := g) (x := xs (1 + 6 * T + 1)) (y := xs (1 + 6 * T + 2)) (r := xs (1 + 6 * T + 3)) hJ.1 hJ.2.1 hT hg hg0 hg2)
  have c1 : zaI (cW S n C1 ρ1) b 0 (zi (1 + 6 * T) + 1) = some (xs (1 + 6 * T + 1)) := by show zaI (cW S n C1 ρ1) b 0 (zi (1 + 6 * T) + zi 1) = _; rw [zi_t1]; exact h2 _ (by omega)
  have c2 : zaI (cW S n C1 ρ1) b 0 (zi (1 + 6 * T) + 2) = some (xs (1 + 6 * T + 2)) := by show zaI (cW S n C1 ρ1) b 0 (zi (1 + 6 * T) + zi 2) = _; rw [zi_t1]; exact h2 _ (by omega)
  have c3 : zaI (cW S n C1 ρ1) b 0 (zi (1 + 6 * T) + 3) = some (xs (1 + 6 * T + 3)) := by show zaI (cW S n C1 ρ1) b 0 (zi (1 + 6 * T) + zi 3) = _; rw [zi_t1]; exact h2 _ (by omega)
  have hw : s_Law_voidNext g (some S) (xs (1 + 6 * T + 1)) (xs (1 + 6 * T + 2)) (xs (1 + 6 * T + 3)) (some (S + cF n + 35)) (cW S n C ρ) = some (zi c, cW S n C1 ρ1) := by
    unfold s_Law_voidNext
    rw [Option.bind_some, c_isNo, Option.bind_some, r1, Option.bind_some]
    rcases r2 with ⟨rfl, rfl, r3⟩ | ⟨a, rfl, rfl, r3, r4⟩
    · dsimp only at r3 ⊢
      rw [Option.bind_some, r3, Option.bind_some]; rfl
    · dsimp only
      rw [r3, Option.bind_some, r4]; rfl
  refine ⟨C', M', ρ', f', h8, ?_⟩
  unfold s_Law_law_528
  rw [Option.bind_some, a1, Option.bind_some, a2, Option.bind_some, a3, Option.bind_some, hw, Option.bind_some]
  dsimp only
  rw [c1, Option.bind_some, c2, Option.bind_some, c3, Option.bind_some, Option.bind_some, h3, Option.bind_some, h4, Option.bind_some]
  dsimp only
  rw [h5, Option.bind_some, h6, Option.bind_some]
  dsimp only
  rw [if_pos rfl]
  rcases h7 with ⟨rfl, h7⟩ | rfl
  · rw [if_pos (show zi 0 = 0 from rfl), Option.bind_some, h7, Option.bind_some]
    rw [if_pos (lg_self _)]
    exact law_tail
  · rw [if_neg (show ¬ zi 1 = 0 by decide)]
    exact law_tail
theorem S_voidUsed (hJ : JR g e S n b L A B xs C M ρ f T) (hL : L ≤ 3073) (hT : T < 512) (hi : 1 + 6 * T + 6 ≤ L) (hg : g 21 = some q) (hg0 : g 0 = some e) (hg2 : ∃ mi, g 10 = some mi) : ∃ C' M' ρ' f', JR g e S n b L A B xs C' M' ρ' f' (T + 1) ∧ s_Law_law_608 g K (some b) (some S) (some (S + cF n)) (some (S + cF n + 35)) (zi (1 + 6 * T)) (cW S n C ρ) = K (some b) (some S) (some (S + cF n)) (some (S + cF n + 35)) (zi (1 + 6 * (T + 1))) (cW S n C' ρ') := by
  have a1 : zaI (cW S n C ρ) b 0 (zi (1 + 6 * T) + 1) = some (xs (1 + 6 * T + 1)) := by show zaI (cW S n C ρ) b 0 (zi (1 + 6 * T) + zi 1) = _; rw [zi_t1]; exact hJ.2.2.at hL (by omega)
  have a2 : zaI (cW S n C ρ) b 0 (zi (1 + 6 * T) + 2) = some (xs (1 + 6 * T + 2)) := by show zaI (cW S n C ρ) b 0 (zi (1 + 6 * T) + zi 2) = _; rw [zi_t1]; exact hJ.2.2.at hL (by omega)
  have a3 : zaI (cW S n C ρ) b 0 (zi (1 + 6 * T) + 3) = some (xs (1 + 6 * T + 3)) := by show zaI (cW S n C ρ) b 0 (zi (1 + 6 * T) + zi 3) = _; rw [zi_t1]; exact hJ.2.2.at hL (by omega)
  have a4 : zaI (cW S n C ρ) b 0 (zi (1 + 6 * T) + 4) = some (xs (1 + 6 * T + 4)) := by show zaI (cW S n C ρ) b 0 (zi (1 + 6 * T) + zi 4) = _; rw [zi_t1]; exact hJ.2.2.at hL (by omega)
  obtain ⟨c, C1, ρ1, C', M', ρ', f', y, ⟨x, C2, ρ2, r1, r2⟩, h2, h3, h4, h5, h6, h7, h8⟩ := hJ.co1 (α := Int32) (fun x => if x = 0 then 0 else 1) hL (K_voidUsed (g := g) (x := xs (1 + 6 * T + 1)) (y := xs (1 + 6 * T + 2)) (v := xs (1 + 6 * T + 3)) (r := xs (1 + 6 * T + 4)) hJ.1 hJ.2.1 hT hg hg0 hg2)
  have c1 : zaI (cW S n C1 ρ1) b 0 (zi (1 + 6 * T) + 1) = some (xs (1 + 6 * T + 1)) := by show zaI (cW S n C1 ρ1) b 0 (zi (1 + 6 * T) + zi 1) = _; rw [zi_t1]; exact h2 _ (by omega)
  have c2 : zaI (cW S n C1 ρ1) b 0 (zi (1 + 6 * T) + 2) = some (xs (1 + 6 * T + 2)) := by show zaI (cW S n C1 ρ1) b 0 (zi (1 + 6 * T) + zi 2) = _; rw [zi_t1]; exact h2 _ (by omega)
  have c3 : zaI (cW S n C1 ρ1) b 0 (zi (1 + 6 * T) + 3) = some (xs (1 + 6 * T + 3)) := by show zaI (cW S n C1 ρ1) b 0 (zi (1 + 6 * T) + zi 3) = _; rw [zi_t1]; exact h2 _ (by omega)
  have c4 : zaI (cW S n C1 ρ1) b 0 (zi (1 + 6 * T) + 4) = some (xs (1 + 6 * T + 4)) := by show zaI (cW S n C1 ρ1) b 0 (zi (1 + 6 * T) + zi 4) = _; rw [zi_t1]; exact h2 _ (by omega)
  have hw : s_Law_voidUsed g (some S) (xs (1 + 6 * T + 1)) (xs (1 + 6 * T + 2)) (xs (1 + 6 * T + 3)) (xs (1 + 6 * T + 4)) (some (S + cF n + 35)) (cW S n C ρ) = some (zi c, cW S n C1 ρ1) := by
    unfold s_Law_voidUsed
    rw [Option.bind_some, c_isNo, Option.bind_some, r1, Option.bind_some]
    rcases r2 with ⟨rfl, rfl, r3⟩ | ⟨a, rfl, rfl, r3, r4⟩
    · dsimp only at r3 ⊢
      by_cases hy : y = 0
      · rw [if_pos hy] at r3 ⊢
        unfold s_Law_voidUsed_20
        rw [Option.bind_some, r3, Option.bind_some]; rfl
      · rw [if_neg hy] at r3 ⊢
        unfold s_Law_voidUsed_20
        rw [Option.bind_some, r3, Option.bind_some]; rfl
    · dsimp only
      rw [r3, Option.bind_some, r4]; rfl
  refine ⟨C', M', ρ', f', h8, ?_⟩
  unfold s_Law_law_608
  rw [Option.bind_some, a1, Option.bind_some, a2, Option.bind_some, a3, Option.bind_some, a4, Option.bind_some, hw, Option.bind_some]
  dsimp only
  rw [c1, Option.bind_some, c2, Option.bind_some, c3, Option.bind_some, c4, Option.bind_some, Option.bind_some, h3, Option.bind_some, h4, Option.bind_some]
  dsimp only
  rw [h5, Option.bind_some, h6, Option.bind_some]
  dsimp only
  rw [if_pos rfl]
  rcases h7 with ⟨rfl, h7⟩ | rfl
  · rw [if_pos (show zi 0 = 0 from rfl), Option.bind_some, h7, Option.bind_some]
    by_cases hy : y = 0
    · rw [if_pos hy, if_pos hy]
      unfold s_Law_law_698
      rw [if_pos (lg_self _)]
      exact law_tail
    · rw [if_neg hy, if_neg hy]
      unfold s_Law_law_698
      rw [if_pos (lg_self _)]
      exact law_tail
  · rw [if_neg (show ¬ zi 1 = 0 by decide)]
    exact law_tail
theorem S_strike (hJ : JR g e S n b L A B xs C M ρ f T) (hL : L ≤ 3073) (hT : T < 512) (hi : 1 + 6 * T + 6 ≤ L) (hg : g 21 = some q) : ∃ C' M' ρ' f', JR g e S n b L A B xs C' M' ρ' f' (T + 1) ∧ s_Law_law_707 g K (some b) (some S) (some (S + cF n)) (some (S + cF n + 35)) (zi (1 + 6 * T)) (cW S n C ρ) = K (some b) (some S) (some (S + cF n)) (some (S + cF n + 35)) (zi (1 + 6 * (T + 1))) (cW S n C' ρ') := by
  have a1 : zaI (cW S n C ρ) b 0 (zi (1 + 6 * T) + 1) = some (xs (1 + 6 * T + 1)) := by show zaI (cW S n C ρ) b 0 (zi (1 + 6 * T) + zi 1) = _; rw [zi_t1]; exact hJ.2.2.at hL (by omega)
  obtain ⟨c, C1, ρ1, C', M', ρ', f', y, ⟨x, C2, ρ2, r1, r2⟩, h2, h3, h4, h5, h6, h7, h8⟩ := hJ.co1 (α := Int32) (fun x => x.toInt64) hL (K_strike (g := g) (x := xs (1 + 6 * T + 1)) hJ.1 hJ.2.1 hT hg)
  have c1 : zaI (cW S n C1 ρ1) b 0 (zi (1 + 6 * T) + 1) = some (xs (1 + 6 * T + 1)) := by show zaI (cW S n C1 ρ1) b 0 (zi (1 + 6 * T) + zi 1) = _; rw [zi_t1]; exact h2 _ (by omega)
  have hw : s_Law_strike g (some S) (xs (1 + 6 * T + 1)) (some (S + cF n + 35)) (cW S n C ρ) = some (zi c, cW S n C1 ρ1) := by
    unfold s_Law_strike
    rw [Option.bind_some, c_isNo, Option.bind_some, r1, Option.bind_some]
    rcases r2 with ⟨rfl, rfl, r3⟩ | ⟨a, rfl, rfl, r3, r4⟩
    · dsimp only at r3 ⊢
      rw [Option.bind_some, r3, Option.bind_some]; rfl
    · dsimp only
      rw [r3, Option.bind_some, r4]; rfl
  refine ⟨C', M', ρ', f', h8, ?_⟩
  unfold s_Law_law_707
  rw [Option.bind_some, a1, Option.bind_some, hw, Option.bind_some]
  dsimp only
  rw [c1, Option.bind_some, Option.bind_some, h3, Option.bind_some, h4, Option.bind_some]
  dsimp only
  rw [h5, Option.bind_some, h6, Option.bind_some]
  dsimp only
  rw [if_pos rfl]
  rcases h7 with ⟨rfl, h7⟩ | rfl
  · rw [if_pos (show zi 0 = 0 from rfl), Option.bind_some, h7, Option.bind_some]
    rw [if_pos (lg_self _)]
    exact law_tail
  · rw [if_neg (show ¬ zi 1 = 0 by decide)]
    exact law_tail
theorem S_close (hJ : JR g e S n b L A B xs C M ρ f T) (hL : L ≤ 3073) (hT : T < 512) (hi : 1 + 6 * T + 6 ≤ L) (hg : g 21 = some q) : ∃ C' M' ρ' f', JR g e S n b L A B xs C' M' ρ' f' (T + 1) ∧ s_Law_law_763 g K (some b) (some S) (some (S + cF n)) (some (S + cF n + 35)) (zi (1 + 6 * T)) (cW S n C ρ) = K (some b) (some S) (some (S + cF n)) (some (S + cF n + 35)) (zi (1 + 6 * (T + 1))) (cW S n C' ρ') := by
  have a1 : zaI (cW S n C ρ) b 0 (zi (1 + 6 * T) + 1) = some (xs (1 + 6 * T + 1)) := by show zaI (cW S n C ρ) b 0 (zi (1 + 6 * T) + zi 1) = _; rw [zi_t1]; exact hJ.2.2.at hL (by omega)
  obtain ⟨c, C1, ρ1, C', M', ρ', f', y, ⟨x, C2, ρ2, r1, r2⟩, h2, h3, h4, h5, h6, h7, h8⟩ := hJ.co1 (α := Int32) (fun x => x.toInt64) hL (K_close (g := g) (x := xs (1 + 6 * T + 1)) hJ.1 hJ.2.1 hT hg hJ.2.2.2.2.2.2)
  have c1 : zaI (cW S n C1 ρ1) b 0 (zi (1 + 6 * T) + 1) = some (xs (1 + 6 * T + 1)) := by show zaI (cW S n C1 ρ1) b 0 (zi (1 + 6 * T) + zi 1) = _; rw [zi_t1]; exact h2 _ (by omega)
  have hw : s_Law_close g (some S) (xs (1 + 6 * T + 1)) (some (S + cF n + 35)) (cW S n C ρ) = some (zi c, cW S n C1 ρ1) := by
    unfold s_Law_close
    rw [Option.bind_some, c_isNo, Option.bind_some, r1, Option.bind_some]
    rcases r2 with ⟨rfl, rfl, r3⟩ | ⟨a, rfl, rfl, r3, r4⟩
    · dsimp only at r3 ⊢
      rw [Option.bind_some, r3, Option.bind_some]; rfl
    · dsimp only
      rw [r3, Option.bind_some, r4]; rfl
  refine ⟨C', M', ρ', f', h8, ?_⟩
  unfold s_Law_law_763
  rw [Option.bind_some, a1, Option.bind_some, hw, Option.bind_some]
  dsimp only
  rw [c1, Option.bind_some, Option.bind_some, h3, Option.bind_some, h4, Option.bind_some]
  dsimp only
  rw [h5, Option.bind_some, h6, Option.bind_some]
  dsimp only
  rw [if_pos rfl]
  rcases h7 with ⟨rfl, h7⟩ | rfl
  · rw [if_pos (show zi 0 = 0 from rfl), Option.bind_some, h7, Option.bind_some]
    rw [if_pos (lg_self _)]
    exact law_tail
  · rw [if_neg (show ¬ zi 1 = 0 by decide)]
    exact law_tail
theorem S_crash (hJ : JR g e S n b L A B xs C M ρ f T) (hL : L ≤ 3073) (hT : T < 512) (hi : 1 + 6 * T + 6 ≤ L) : ∃ C' M' ρ' f', JR g e S n b L A B xs C' M' ρ' f' (T + 1) ∧ s_Law_law_819 g K (some b) (some S) (some (S + cF n)) (some (S + cF n + 35)) (zi (1 + 6 * T)) (cW S n C ρ) = K (some b) (some S) (some (S + cF n)) (some (S + cF n + 35)) (zi (1 + 6 * (T + 1))) (cW S n C' ρ') := by
  have a1 : zaI (cW S n C ρ) b 0 (zi (1 + 6 * T) + 1) = some (xs (1 + 6 * T + 1)) := by show zaI (cW S n C ρ) b 0 (zi (1 + 6 * T) + zi 1) = _; rw [zi_t1]; exact hJ.2.2.at hL (by omega)
  obtain ⟨v, C1, ρ1, C', M', ρ', f', h1, h2, h3, h4, h5⟩ := hJ.co0 hL (K_crash (g := g) (x := xs (1 + 6 * T + 1)) hJ.1 hJ.2.1 hT)
  have c1 : zaI (cW S n C1 ρ1) b 0 (zi (1 + 6 * T) + 1) = some (xs (1 + 6 * T + 1)) := by show zaI (cW S n C1 ρ1) b 0 (zi (1 + 6 * T) + zi 1) = _; rw [zi_t1]; exact h2 _ (by omega)
  refine ⟨C', M', ρ', f', h5, ?_⟩
  unfold s_Law_law_819
  rw [Option.bind_some, a1, Option.bind_some, Option.bind_some, c_isNo, Option.bind_some, h1, Option.bind_some]
  dsimp only
  rw [c1, Option.bind_some, Option.bind_some, h3, Option.bind_some, h4, Option.bind_some]
  dsimp only
  rw [if_pos rfl]
  exact law_tail
theorem S_mount (hJ : JR g e S n b L A B xs C M ρ f T) (hL : L ≤ 3073) (hT : T < 512) (hi : 1 + 6 * T + 6 ≤ L) : ∃ C' M' ρ' f', JR g e S n b L A B xs C' M' ρ' f' (T + 1) ∧ s_Law_law_844 g K (some b) (some S) (some (S + cF n)) (some (S + cF n + 35)) (zi (1 + 6 * T)) (cW S n C ρ) = K (some b) (some S) (some (S + cF n)) (some (S + cF n + 35)) (zi (1 + 6 * (T + 1))) (cW S n C' ρ') := by
  have a1 : zaI (cW S n C ρ) b 0 (zi (1 + 6 * T) + 1) = some (xs (1 + 6 * T + 1)) := by show zaI (cW S n C ρ) b 0 (zi (1 + 6 * T) + zi 1) = _; rw [zi_t1]; exact hJ.2.2.at hL (by omega)
  obtain ⟨v, C1, ρ1, C', M', ρ', f', h1, h2, h3, h4, h5⟩ := hJ.co0 hL (K_mount (g := g) (x := xs (1 + 6 * T + 1)) hJ.1 hJ.2.1 hT)
  have c1 : zaI (cW S n C1 ρ1) b 0 (zi (1 + 6 * T) + 1) = some (xs (1 + 6 * T + 1)) := by show zaI (cW S n C1 ρ1) b 0 (zi (1 + 6 * T) + zi 1) = _; rw [zi_t1]; exact h2 _ (by omega)
  refine ⟨C', M', ρ', f', h5, ?_⟩
  unfold s_Law_law_844
  rw [Option.bind_some, a1, Option.bind_some, Option.bind_some, c_isNo, Option.bind_some, h1, Option.bind_some]
  dsimp only
  rw [c1, Option.bind_some, Option.bind_some, h3, Option.bind_some, h4, Option.bind_some]
  dsimp only
  rw [if_pos rfl]
  exact law_tail
theorem S_flush (hJ : JR g e S n b L A B xs C M ρ f T) (hL : L ≤ 3073) (hT : T < 512) (hi : 1 + 6 * T + 6 ≤ L) : ∃ C' M' ρ' f', JR g e S n b L A B xs C' M' ρ' f' (T + 1) ∧ s_Law_law_869 g K (some b) (some S) (some (S + cF n)) (some (S + cF n + 35)) (zi (1 + 6 * T)) (cW S n C ρ) = K (some b) (some S) (some (S + cF n)) (some (S + cF n + 35)) (zi (1 + 6 * (T + 1))) (cW S n C' ρ') := by
  have a1 : zaI (cW S n C ρ) b 0 (zi (1 + 6 * T) + 1) = some (xs (1 + 6 * T + 1)) := by show zaI (cW S n C ρ) b 0 (zi (1 + 6 * T) + zi 1) = _; rw [zi_t1]; exact hJ.2.2.at hL (by omega)
  obtain ⟨v, C1, ρ1, C', M', ρ', f', h1, h2, h3, h4, h5⟩ := hJ.co0 hL (K_flush (g := g) (x := xs (1 + 6 * T + 1)) hJ.1 hJ.2.1 hT)
  have c1 : zaI (cW S n C1 ρ1) b 0 (zi (1 + 6 * T) + 1) = some (xs (1 + 6 * T + 1)) := by show zaI (cW S n C1 ρ1) b 0 (zi (1 + 6 * T) + zi 1) = _; rw [zi_t1]; exact h2 _ (by omega)
  refine ⟨C', M', ρ', f', h5, ?_⟩
  unfold s_Law_law_869
  rw [Option.bind_some, a1, Option.bind_some, Option.bind_some, c_isNo, Option.bind_some, h1, Option.bind_some]
  dsimp only
  rw [c1, Option.bind_some, Option.bind_some, h3, Option.bind_some, h4, Option.bind_some]
  dsimp only
  rw [if_pos rfl]
  exact law_tail
theorem S_letters (hJ : JR g e S n b L A B xs C M ρ f T) (hL : L ≤ 3073) (hT : T < 512) (hi : 1 + 6 * T + 6 ≤ L) : ∃ C' M' ρ' f', JR g e S n b L A B xs C' M' ρ' f' (T + 1) ∧ s_Law_law_894 g K (some b) (some S) (some (S + cF n)) (some (S + cF n + 35)) (zi (1 + 6 * T)) (cW S n C ρ) = K (some b) (some S) (some (S + cF n)) (some (S + cF n + 35)) (zi (1 + 6 * (T + 1))) (cW S n C' ρ') := by
  obtain ⟨v, C1, ρ1, C', M', ρ', f', h1, h2, h3, h4, h5⟩ := hJ.co0 hL (K_letters (g := g)  hJ.1 hJ.2.1 hT)
  refine ⟨C', M', ρ', f', h5, ?_⟩
  unfold s_Law_law_894
  rw [Option.bind_some, c_isNo, Option.bind_some, h1, Option.bind_some]
  dsimp only
  rw [Option.bind_some, h3, Option.bind_some, h4, Option.bind_some]
  dsimp only
  rw [if_pos rfl]
  exact law_tail
theorem S_letter (hJ : JR g e S n b L A B xs C M ρ f T) (hL : L ≤ 3073) (hT : T < 512) (hi : 1 + 6 * T + 6 ≤ L) : ∃ C' M' ρ' f', JR g e S n b L A B xs C' M' ρ' f' (T + 1) ∧ s_Law_law_907 g K (some b) (some S) (some (S + cF n)) (some (S + cF n + 35)) (zi (1 + 6 * T)) (cW S n C ρ) = K (some b) (some S) (some (S + cF n)) (some (S + cF n + 35)) (zi (1 + 6 * (T + 1))) (cW S n C' ρ') := by
  have a1 : zaI (cW S n C ρ) b 0 (zi (1 + 6 * T) + 1) = some (xs (1 + 6 * T + 1)) := by show zaI (cW S n C ρ) b 0 (zi (1 + 6 * T) + zi 1) = _; rw [zi_t1]; exact hJ.2.2.at hL (by omega)
  have a2 : zaI (cW S n C ρ) b 0 (zi (1 + 6 * T) + 2) = some (xs (1 + 6 * T + 2)) := by show zaI (cW S n C ρ) b 0 (zi (1 + 6 * T) + zi 2) = _; rw [zi_t1]; exact hJ.2.2.at hL (by omega)
  obtain ⟨v, C1, ρ1, C', M', ρ', f', h1, h2, h3, h4, h5⟩ := hJ.co0 hL (K_letter (g := g) (x := xs (1 + 6 * T + 1)) (y := xs (1 + 6 * T + 2)) hJ.1 hJ.2.1 hT)
  have c1 : zaI (cW S n C1 ρ1) b 0 (zi (1 + 6 * T) + 1) = some (xs (1 + 6 * T + 1)) := by show zaI (cW S n C1 ρ1) b 0 (zi (1 + 6 * T) + zi 1) = _; rw [zi_t1]; exact h2 _ (by omega)
  have c2 : zaI (cW S n C1 ρ1) b 0 (zi (1 + 6 * T) + 2) = some (xs (1 + 6 * T + 2)) := by show zaI (cW S n C1 ρ1) b 0 (zi (1 + 6 * T) + zi 2) = _; rw [zi_t1]; exact h2 _ (by omega)
  refine ⟨C', M', ρ', f', h5, ?_⟩
  unfold s_Law_law_907
  rw [Option.bind_some, a1, Option.bind_some, a2, Option.bind_some, Option.bind_some, c_isNo, Option.bind_some, h1, Option.bind_some]
  dsimp only
  rw [c1, Option.bind_some, c2, Option.bind_some, Option.bind_some, h3, Option.bind_some, h4, Option.bind_some]
  dsimp only
  rw [if_pos rfl]
  exact law_tail
theorem S_deliver (hJ : JR g e S n b L A B xs C M ρ f T) (hL : L ≤ 3073) (hT : T < 512) (hi : 1 + 6 * T + 6 ≤ L) (hg0 : g 0 = some e) (hg2 : ∃ mi, g 10 = some mi) : ∃ C' M' ρ' f', JR g e S n b L A B xs C' M' ρ' f' (T + 1) ∧ s_Law_law_944 g K (some b) (some S) (some (S + cF n)) (some (S + cF n + 35)) (zi (1 + 6 * T)) (cW S n C ρ) = K (some b) (some S) (some (S + cF n)) (some (S + cF n + 35)) (zi (1 + 6 * (T + 1))) (cW S n C' ρ') := by
  have a1 : zaI (cW S n C ρ) b 0 (zi (1 + 6 * T) + 1) = some (xs (1 + 6 * T + 1)) := by show zaI (cW S n C ρ) b 0 (zi (1 + 6 * T) + zi 1) = _; rw [zi_t1]; exact hJ.2.2.at hL (by omega)
  obtain ⟨v, C1, ρ1, C', M', ρ', f', h1, h2, h3, h4, h5⟩ := hJ.co0 hL (K_deliver (g := g) (x := xs (1 + 6 * T + 1)) hJ.1 hJ.2.1 hT hg0 hg2)
  have c1 : zaI (cW S n C1 ρ1) b 0 (zi (1 + 6 * T) + 1) = some (xs (1 + 6 * T + 1)) := by show zaI (cW S n C1 ρ1) b 0 (zi (1 + 6 * T) + zi 1) = _; rw [zi_t1]; exact h2 _ (by omega)
  refine ⟨C', M', ρ', f', h5, ?_⟩
  unfold s_Law_law_944
  rw [Option.bind_some, a1, Option.bind_some, Option.bind_some, c_isNo, Option.bind_some, h1, Option.bind_some]
  dsimp only
  rw [c1, Option.bind_some, Option.bind_some, h3, Option.bind_some, h4, Option.bind_some]
  dsimp only
  rw [if_pos rfl]
  exact law_tail
theorem S_drop (hJ : JR g e S n b L A B xs C M ρ f T) (hL : L ≤ 3073) (hT : T < 512) (hi : 1 + 6 * T + 6 ≤ L) : ∃ C' M' ρ' f', JR g e S n b L A B xs C' M' ρ' f' (T + 1) ∧ s_Law_law_969 g K (some b) (some S) (some (S + cF n)) (some (S + cF n + 35)) (zi (1 + 6 * T)) (cW S n C ρ) = K (some b) (some S) (some (S + cF n)) (some (S + cF n + 35)) (zi (1 + 6 * (T + 1))) (cW S n C' ρ') := by
  have a1 : zaI (cW S n C ρ) b 0 (zi (1 + 6 * T) + 1) = some (xs (1 + 6 * T + 1)) := by show zaI (cW S n C ρ) b 0 (zi (1 + 6 * T) + zi 1) = _; rw [zi_t1]; exact hJ.2.2.at hL (by omega)
  obtain ⟨v, C1, ρ1, C', M', ρ', f', h1, h2, h3, h4, h5⟩ := hJ.co0 hL (K_drop (g := g) (x := xs (1 + 6 * T + 1)) hJ.1 hJ.2.1 hT)
  have c1 : zaI (cW S n C1 ρ1) b 0 (zi (1 + 6 * T) + 1) = some (xs (1 + 6 * T + 1)) := by show zaI (cW S n C1 ρ1) b 0 (zi (1 + 6 * T) + zi 1) = _; rw [zi_t1]; exact h2 _ (by omega)
  refine ⟨C', M', ρ', f', h5, ?_⟩
  unfold s_Law_law_969
  rw [Option.bind_some, a1, Option.bind_some, Option.bind_some, c_isNo, Option.bind_some, h1, Option.bind_some]
  dsimp only
  rw [c1, Option.bind_some, Option.bind_some, h3, Option.bind_some, h4, Option.bind_some]
  dsimp only
  rw [if_pos rfl]
  exact law_tail
theorem S_twin (hJ : JR g e S n b L A B xs C M ρ f T) (hL : L ≤ 3073) (hT : T < 512) (hi : 1 + 6 * T + 6 ≤ L) (hg0 : g 0 = some e) (hg2 : ∃ mi, g 10 = some mi) : ∃ C' M' ρ' f', JR g e S n b L A B xs C' M' ρ' f' (T + 1) ∧ s_Law_law_994 g K (some b) (some S) (some (S + cF n)) (some (S + cF n + 35)) (zi (1 + 6 * T)) (cW S n C ρ) = K (some b) (some S) (some (S + cF n)) (some (S + cF n + 35)) (zi (1 + 6 * (T + 1))) (cW S n C' ρ') := by
  have a1 : zaI (cW S n C ρ) b 0 (zi (1 + 6 * T) + 1) = some (xs (1 + 6 * T + 1)) := by show zaI (cW S n C ρ) b 0 (zi (1 + 6 * T) + zi 1) = _; rw [zi_t1]; exact hJ.2.2.at hL (by omega)
  obtain ⟨v, C1, ρ1, C', M', ρ', f', h1, h2, h3, h4, h5⟩ := hJ.co0 hL (K_twin (g := g) (x := xs (1 + 6 * T + 1)) hJ.1 hJ.2.1 hT hg0 hg2)
  have c1 : zaI (cW S n C1 ρ1) b 0 (zi (1 + 6 * T) + 1) = some (xs (1 + 6 * T + 1)) := by show zaI (cW S n C1 ρ1) b 0 (zi (1 + 6 * T) + zi 1) = _; rw [zi_t1]; exact h2 _ (by omega)
  refine ⟨C', M', ρ', f', h5, ?_⟩
  unfold s_Law_law_994
  rw [Option.bind_some, a1, Option.bind_some, Option.bind_some, c_isNo, Option.bind_some, h1, Option.bind_some]
  dsimp only
  rw [c1, Option.bind_some, Option.bind_some, h3, Option.bind_some, h4, Option.bind_some]
  dsimp only
  rw [if_pos rfl]
  exact law_tail
theorem S_fate (hJ : JR g e S n b L A B xs C M ρ f T) (hL : L ≤ 3073) (hT : T < 512) (hi : 1 + 6 * T + 6 ≤ L) (hg : g 21 = some q) : ∃ C' M' ρ' f', JR g e S n b L A B xs C' M' ρ' f' (T + 1) ∧ s_Law_law_1019 g K (some b) (some S) (some (S + cF n)) (some (S + cF n + 35)) (zi (1 + 6 * T)) (cW S n C ρ) = K (some b) (some S) (some (S + cF n)) (some (S + cF n + 35)) (zi (1 + 6 * (T + 1))) (cW S n C' ρ') := by
  have a1 : zaI (cW S n C ρ) b 0 (zi (1 + 6 * T) + 1) = some (xs (1 + 6 * T + 1)) := by show zaI (cW S n C ρ) b 0 (zi (1 + 6 * T) + zi 1) = _; rw [zi_t1]; exact hJ.2.2.at hL (by omega)
  have a2 : zaI (cW S n C ρ) b 0 (zi (1 + 6 * T) + 2) = some (xs (1 + 6 * T + 2)) := by show zaI (cW S n C ρ) b 0 (zi (1 + 6 * T) + zi 2) = _; rw [zi_t1]; exact hJ.2.2.at hL (by omega)
  obtain ⟨c, C1, ρ1, C', M', ρ', f', y, ⟨x, C2, ρ2, r1, r2⟩, h2, h3, h4, h5, h6, h7, h8⟩ := hJ.co1 (α := Int32) (fun x => x.toInt64) hL (K_fate (g := g) (x := xs (1 + 6 * T + 1)) (y := xs (1 + 6 * T + 2)) hJ.1 hJ.2.1 hT hg)
  have c1 : zaI (cW S n C1 ρ1) b 0 (zi (1 + 6 * T) + 1) = some (xs (1 + 6 * T + 1)) := by show zaI (cW S n C1 ρ1) b 0 (zi (1 + 6 * T) + zi 1) = _; rw [zi_t1]; exact h2 _ (by omega)
  have c2 : zaI (cW S n C1 ρ1) b 0 (zi (1 + 6 * T) + 2) = some (xs (1 + 6 * T + 2)) := by show zaI (cW S n C1 ρ1) b 0 (zi (1 + 6 * T) + zi 2) = _; rw [zi_t1]; exact h2 _ (by omega)
  have hw : s_Law_fate g (some S) (xs (1 + 6 * T + 1)) (xs (1 + 6 * T + 2)) (some (S + cF n + 35)) (cW S n C ρ) = some (zi c, cW S n C1 ρ1) := by
    unfold s_Law_fate
    rw [Option.bind_some, c_isNo, Option.bind_some, r1, Option.bind_some]
    rcases r2 with ⟨rfl, rfl, r3⟩ | ⟨a, rfl, rfl, r3, r4⟩
    · dsimp only at r3 ⊢
      rw [Option.bind_some, r3, Option.bind_some]; rfl
    · dsimp only
      rw [r3, Option.bind_some, r4]; rfl
  refine ⟨C', M', ρ', f', h8, ?_⟩
  unfold s_Law_law_1019
  rw [Option.bind_some, a1, Option.bind_some, a2, Option.bind_some, hw, Option.bind_some]
  dsimp only
  rw [c1, Option.bind_some, c2, Option.bind_some, Option.bind_some, h3, Option.bind_some, h4, Option.bind_some]
  dsimp only
  rw [h5, Option.bind_some, h6, Option.bind_some]
  dsimp only
  rw [if_pos rfl]
  rcases h7 with ⟨rfl, h7⟩ | rfl
  · rw [if_pos (show zi 0 = 0 from rfl), Option.bind_some, h7, Option.bind_some]
    rw [if_pos (lg_self _)]
    exact law_tail
  · rw [if_neg (show ¬ zi 1 = 0 by decide)]
    exact law_tail
theorem S_invoiceOf (hJ : JR g e S n b L A B xs C M ρ f T) (hL : L ≤ 3073) (hT : T < 512) (hi : 1 + 6 * T + 6 ≤ L) (hg : g 21 = some q) : ∃ C' M' ρ' f', JR g e S n b L A B xs C' M' ρ' f' (T + 1) ∧ s_Law_law_1087 g K (some b) (some S) (some (S + cF n)) (some (S + cF n + 35)) (zi (1 + 6 * T)) (cW S n C ρ) = K (some b) (some S) (some (S + cF n)) (some (S + cF n + 35)) (zi (1 + 6 * (T + 1))) (cW S n C' ρ') := by
  have a1 : zaI (cW S n C ρ) b 0 (zi (1 + 6 * T) + 1) = some (xs (1 + 6 * T + 1)) := by show zaI (cW S n C ρ) b 0 (zi (1 + 6 * T) + zi 1) = _; rw [zi_t1]; exact hJ.2.2.at hL (by omega)
  have a2 : zaI (cW S n C ρ) b 0 (zi (1 + 6 * T) + 2) = some (xs (1 + 6 * T + 2)) := by show zaI (cW S n C ρ) b 0 (zi (1 + 6 * T) + zi 2) = _; rw [zi_t1]; exact hJ.2.2.at hL (by omega)
  have a3 : zaI (cW S n C ρ) b 0 (zi (1 + 6 * T) + 3) = some (xs (1 + 6 * T + 3)) := by show zaI (cW S n C ρ) b 0 (zi (1 + 6 * T) + zi 3) = _; rw [zi_t1]; exact hJ.2.2.at hL (by omega)
  obtain ⟨c, C1, ρ1, C', M', ρ', f', y, ⟨x, C2, ρ2, r1, r2⟩, h2, h3, h4, h5, h6, h7, h8⟩ := hJ.co1 (α := Int64) (fun x => x) hL (K_invoiceOf (g := g) (x := xs (1 + 6 * T + 1)) (y := xs (1 + 6 * T + 2)) (z := xs (1 + 6 * T + 3)) hJ.1 hJ.2.1 hT hg)
  have c1 : zaI (cW S n C1 ρ1) b 0 (zi (1 + 6 * T) + 1) = some (xs (1 + 6 * T + 1)) := by show zaI (cW S n C1 ρ1) b 0 (zi (1 + 6 * T) + zi 1) = _; rw [zi_t1]; exact h2 _ (by omega)
  have c2 : zaI (cW S n C1 ρ1) b 0 (zi (1 + 6 * T) + 2) = some (xs (1 + 6 * T + 2)) := by show zaI (cW S n C1 ρ1) b 0 (zi (1 + 6 * T) + zi 2) = _; rw [zi_t1]; exact h2 _ (by omega)
  have c3 : zaI (cW S n C1 ρ1) b 0 (zi (1 + 6 * T) + 3) = some (xs (1 + 6 * T + 3)) := by show zaI (cW S n C1 ρ1) b 0 (zi (1 + 6 * T) + zi 3) = _; rw [zi_t1]; exact h2 _ (by omega)
  have hw : s_Law_invoiceOf g (some S) (xs (1 + 6 * T + 1)) (xs (1 + 6 * T + 2)) (xs (1 + 6 * T + 3)) (some (S + cF n + 35)) (cW S n C ρ) = some (zi c, cW S n C1 ρ1) := by
    unfold s_Law_invoiceOf
    rw [Option.bind_some, c_isNo, Option.bind_some, r1, Option.bind_some]
    rcases r2 with ⟨rfl, rfl, r3⟩ | ⟨a, rfl, rfl, r3, r4⟩
    · dsimp only at r3 ⊢
      rw [Option.bind_some, r3, Option.bind_some]; rfl
    · dsimp only
      rw [r3, Option.bind_some, r4]; rfl
  refine ⟨C', M', ρ', f', h8, ?_⟩
  unfold s_Law_law_1087
  rw [Option.bind_some, a1, Option.bind_some, a2, Option.bind_some, a3, Option.bind_some, hw, Option.bind_some]
  dsimp only
  rw [c1, Option.bind_some, c2, Option.bind_some, c3, Option.bind_some, Option.bind_some, h3, Option.bind_some, h4, Option.bind_some]
  dsimp only
  rw [h5, Option.bind_some, h6, Option.bind_some]
  dsimp only
  rw [if_pos rfl]
  rcases h7 with ⟨rfl, h7⟩ | rfl
  · rw [if_pos (show zi 0 = 0 from rfl), Option.bind_some, h7, Option.bind_some]
    rw [if_pos (lg_self _)]
    exact law_tail
  · rw [if_neg (show ¬ zi 1 = 0 by decide)]
    exact law_tail
theorem S_total (hJ : JR g e S n b L A B xs C M ρ f T) (hL : L ≤ 3073) (hT : T < 512) (hi : 1 + 6 * T + 6 ≤ L) (hg : g 21 = some q) : ∃ C' M' ρ' f', JR g e S n b L A B xs C' M' ρ' f' (T + 1) ∧ s_Law_law_1166 g K (some b) (some S) (some (S + cF n)) (some (S + cF n + 35)) (zi (1 + 6 * T)) (cW S n C ρ) = K (some b) (some S) (some (S + cF n)) (some (S + cF n + 35)) (zi (1 + 6 * (T + 1))) (cW S n C' ρ') := by
  have a1 : zaI (cW S n C ρ) b 0 (zi (1 + 6 * T) + 1) = some (xs (1 + 6 * T + 1)) := by show zaI (cW S n C ρ) b 0 (zi (1 + 6 * T) + zi 1) = _; rw [zi_t1]; exact hJ.2.2.at hL (by omega)
  have a2 : zaI (cW S n C ρ) b 0 (zi (1 + 6 * T) + 2) = some (xs (1 + 6 * T + 2)) := by show zaI (cW S n C ρ) b 0 (zi (1 + 6 * T) + zi 2) = _; rw [zi_t1]; exact hJ.2.2.at hL (by omega)
  obtain ⟨c, C1, ρ1, C', M', ρ', f', y, ⟨x, C2, ρ2, r1, r2⟩, h2, h3, h4, h5, h6, h7, h8⟩ := hJ.co1 (α := Int64) (fun x => x) hL (K_total (g := g) (x := xs (1 + 6 * T + 1)) (y := xs (1 + 6 * T + 2)) hJ.1 hJ.2.1 hT hg)
  have c1 : zaI (cW S n C1 ρ1) b 0 (zi (1 + 6 * T) + 1) = some (xs (1 + 6 * T + 1)) := by show zaI (cW S n C1 ρ1) b 0 (zi (1 + 6 * T) + zi 1) = _; rw [zi_t1]; exact h2 _ (by omega)
  have c2 : zaI (cW S n C1 ρ1) b 0 (zi (1 + 6 * T) + 2) = some (xs (1 + 6 * T + 2)) := by show zaI (cW S n C1 ρ1) b 0 (zi (1 + 6 * T) + zi 2) = _; rw [zi_t1]; exact h2 _ (by omega)
  have hw : s_Law_total g (some S) (xs (1 + 6 * T + 1)) (xs (1 + 6 * T + 2)) (some (S + cF n + 35)) (cW S n C ρ) = some (zi c, cW S n C1 ρ1) := by
    unfold s_Law_total
    rw [Option.bind_some, c_isNo, Option.bind_some, r1, Option.bind_some]
    rcases r2 with ⟨rfl, rfl, r3⟩ | ⟨a, rfl, rfl, r3, r4⟩
    · dsimp only at r3 ⊢
      rw [Option.bind_some, r3, Option.bind_some]; rfl
    · dsimp only
      rw [r3, Option.bind_some, r4]; rfl
  refine ⟨C', M', ρ', f', h8, ?_⟩
  unfold s_Law_law_1166
  rw [Option.bind_some, a1, Option.bind_some, a2, Option.bind_some, hw, Option.bind_some]
  dsimp only
  rw [c1, Option.bind_some, c2, Option.bind_some, Option.bind_some, h3, Option.bind_some, h4, Option.bind_some]
  dsimp only
  rw [h5, Option.bind_some, h6, Option.bind_some]
  dsimp only
  rw [if_pos rfl]
  rcases h7 with ⟨rfl, h7⟩ | rfl
  · rw [if_pos (show zi 0 = 0 from rfl), Option.bind_some, h7, Option.bind_some]
    rw [if_pos (lg_self _)]
    exact law_tail
  · rw [if_neg (show ¬ zi 1 = 0 by decide)]
    exact law_tail
theorem S_branchFate (hJ : JR g e S n b L A B xs C M ρ f T) (hL : L ≤ 3073) (hT : T < 512) (hi : 1 + 6 * T + 6 ≤ L) : ∃ C' M' ρ' f', JR g e S n b L A B xs C' M' ρ' f' (T + 1) ∧ s_Law_law_1233 g K (some b) (some S) (some (S + cF n)) (some (S + cF n + 35)) (zi (1 + 6 * T)) (cW S n C ρ) = K (some b) (some S) (some (S + cF n)) (some (S + cF n + 35)) (zi (1 + 6 * (T + 1))) (cW S n C' ρ') := by
  have a1 : zaI (cW S n C ρ) b 0 (zi (1 + 6 * T) + 1) = some (xs (1 + 6 * T + 1)) := by show zaI (cW S n C ρ) b 0 (zi (1 + 6 * T) + zi 1) = _; rw [zi_t1]; exact hJ.2.2.at hL (by omega)
  have a2 : zaI (cW S n C ρ) b 0 (zi (1 + 6 * T) + 2) = some (xs (1 + 6 * T + 2)) := by show zaI (cW S n C ρ) b 0 (zi (1 + 6 * T) + zi 2) = _; rw [zi_t1]; exact hJ.2.2.at hL (by omega)
  have a3 : zaI (cW S n C ρ) b 0 (zi (1 + 6 * T) + 3) = some (xs (1 + 6 * T + 3)) := by show zaI (cW S n C ρ) b 0 (zi (1 + 6 * T) + zi 3) = _; rw [zi_t1]; exact hJ.2.2.at hL (by omega)
  obtain ⟨v, C1, ρ1, C', M', ρ', f', h1, h2, h3, h4, h5⟩ := hJ.co0 hL (K_branchFate (g := g) (x := xs (1 + 6 * T + 1)) (y := xs (1 + 6 * T + 2)) (z := xs (1 + 6 * T + 3)) hJ.1 hJ.2.1 hT)
  have c1 : zaI (cW S n C1 ρ1) b 0 (zi (1 + 6 * T) + 1) = some (xs (1 + 6 * T + 1)) := by show zaI (cW S n C1 ρ1) b 0 (zi (1 + 6 * T) + zi 1) = _; rw [zi_t1]; exact h2 _ (by omega)
  have c2 : zaI (cW S n C1 ρ1) b 0 (zi (1 + 6 * T) + 2) = some (xs (1 + 6 * T + 2)) := by show zaI (cW S n C1 ρ1) b 0 (zi (1 + 6 * T) + zi 2) = _; rw [zi_t1]; exact h2 _ (by omega)
  have c3 : zaI (cW S n C1 ρ1) b 0 (zi (1 + 6 * T) + 3) = some (xs (1 + 6 * T + 3)) := by show zaI (cW S n C1 ρ1) b 0 (zi (1 + 6 * T) + zi 3) = _; rw [zi_t1]; exact h2 _ (by omega)
  refine ⟨C', M', ρ', f', h5, ?_⟩
  unfold s_Law_law_1233
  rw [Option.bind_some, a1, Option.bind_some, a2, Option.bind_some, a3, Option.bind_some, Option.bind_some, c_isNo, Option.bind_some, h1, Option.bind_some]
  dsimp only
  rw [c1, Option.bind_some, c2, Option.bind_some, c3, Option.bind_some, Option.bind_some, h3, Option.bind_some, h4, Option.bind_some]
  dsimp only
  rw [if_pos rfl]
  exact law_tail
theorem S_branch (hJ : JR g e S n b L A B xs C M ρ f T) (hL : L ≤ 3073) (hT : T < 512) (hi : 1 + 6 * T + 6 ≤ L) : ∃ C' M' ρ' f', JR g e S n b L A B xs C' M' ρ' f' (T + 1) ∧ s_Law_law_1282 g K (some b) (some S) (some (S + cF n)) (some (S + cF n + 35)) (zi (1 + 6 * T)) (cW S n C ρ) = K (some b) (some S) (some (S + cF n)) (some (S + cF n + 35)) (zi (1 + 6 * (T + 1))) (cW S n C' ρ') := by
  have a1 : zaI (cW S n C ρ) b 0 (zi (1 + 6 * T) + 1) = some (xs (1 + 6 * T + 1)) := by show zaI (cW S n C ρ) b 0 (zi (1 + 6 * T) + zi 1) = _; rw [zi_t1]; exact hJ.2.2.at hL (by omega)
  have a2 : zaI (cW S n C ρ) b 0 (zi (1 + 6 * T) + 2) = some (xs (1 + 6 * T + 2)) := by show zaI (cW S n C ρ) b 0 (zi (1 + 6 * T) + zi 2) = _; rw [zi_t1]; exact hJ.2.2.at hL (by omega)
  obtain ⟨v, C1, ρ1, C', M', ρ', f', h1, h2, h3, h4, h5⟩ := hJ.co0 hL (K_branch (g := g) (x := xs (1 + 6 * T + 1)) (y := xs (1 + 6 * T + 2)) hJ.1 hJ.2.1 hT)
  have c1 : zaI (cW S n C1 ρ1) b 0 (zi (1 + 6 * T) + 1) = some (xs (1 + 6 * T + 1)) := by show zaI (cW S n C1 ρ1) b 0 (zi (1 + 6 * T) + zi 1) = _; rw [zi_t1]; exact h2 _ (by omega)
  have c2 : zaI (cW S n C1 ρ1) b 0 (zi (1 + 6 * T) + 2) = some (xs (1 + 6 * T + 2)) := by show zaI (cW S n C1 ρ1) b 0 (zi (1 + 6 * T) + zi 2) = _; rw [zi_t1]; exact h2 _ (by omega)
  refine ⟨C', M', ρ', f', h5, ?_⟩
  unfold s_Law_law_1282
  rw [Option.bind_some, a1, Option.bind_some, a2, Option.bind_some, Option.bind_some, c_isNo, Option.bind_some, h1, Option.bind_some]
  dsimp only
  rw [c1, Option.bind_some, c2, Option.bind_some, Option.bind_some, h3, Option.bind_some, h4, Option.bind_some]
  dsimp only
  rw [if_pos rfl]
  exact law_tail
theorem S_listByte (hJ : JR g e S n b L A B xs C M ρ f T) (hL : L ≤ 3073) (hT : T < 512) (hi : 1 + 6 * T + 6 ≤ L) (hg : g 21 = some q) : ∃ C' M' ρ' f', JR g e S n b L A B xs C' M' ρ' f' (T + 1) ∧ s_Law_law_1319 g K (some b) (some S) (some (S + cF n)) (some (S + cF n + 35)) (zi (1 + 6 * T)) (cW S n C ρ) = K (some b) (some S) (some (S + cF n)) (some (S + cF n + 35)) (zi (1 + 6 * (T + 1))) (cW S n C' ρ') := by
  have a1 : zaI (cW S n C ρ) b 0 (zi (1 + 6 * T) + 1) = some (xs (1 + 6 * T + 1)) := by show zaI (cW S n C ρ) b 0 (zi (1 + 6 * T) + zi 1) = _; rw [zi_t1]; exact hJ.2.2.at hL (by omega)
  have a2 : zaI (cW S n C ρ) b 0 (zi (1 + 6 * T) + 2) = some (xs (1 + 6 * T + 2)) := by show zaI (cW S n C ρ) b 0 (zi (1 + 6 * T) + zi 2) = _; rw [zi_t1]; exact hJ.2.2.at hL (by omega)
  obtain ⟨c, C1, ρ1, C', M', ρ', f', y, ⟨x, C2, ρ2, r1, r2⟩, h2, h3, h4, h5, h6, h7, h8⟩ := hJ.co1 (α := Int32) (fun x => x.toInt64) hL (K_listByte (g := g) (x := xs (1 + 6 * T + 1)) (y := xs (1 + 6 * T + 2)) hJ.1 hJ.2.1 hT hg)
  have c1 : zaI (cW S n C1 ρ1) b 0 (zi (1 + 6 * T) + 1) = some (xs (1 + 6 * T + 1)) := by show zaI (cW S n C1 ρ1) b 0 (zi (1 + 6 * T) + zi 1) = _; rw [zi_t1]; exact h2 _ (by omega)
  have c2 : zaI (cW S n C1 ρ1) b 0 (zi (1 + 6 * T) + 2) = some (xs (1 + 6 * T + 2)) := by show zaI (cW S n C1 ρ1) b 0 (zi (1 + 6 * T) + zi 2) = _; rw [zi_t1]; exact h2 _ (by omega)
  have hw : s_Law_listByte g (some S) (xs (1 + 6 * T + 1)) (xs (1 + 6 * T + 2)) (some (S + cF n + 35)) (cW S n C ρ) = some (zi c, cW S n C1 ρ1) := by
    unfold s_Law_listByte
    rw [Option.bind_some, c_isNo, Option.bind_some, r1, Option.bind_some]
    rcases r2 with ⟨rfl, rfl, r3⟩ | ⟨a, rfl, rfl, r3, r4⟩
    · dsimp only at r3 ⊢
      rw [Option.bind_some, r3, Option.bind_some]; rfl
    · dsimp only
      rw [r3, Option.bind_some, r4]; rfl
  refine ⟨C', M', ρ', f', h8, ?_⟩
  unfold s_Law_law_1319
  rw [Option.bind_some, a1, Option.bind_some, a2, Option.bind_some, hw, Option.bind_some]
  dsimp only
  rw [c1, Option.bind_some, c2, Option.bind_some, Option.bind_some, h3, Option.bind_some, h4, Option.bind_some]
  dsimp only
  rw [h5, Option.bind_some, h6, Option.bind_some]
  dsimp only
  rw [if_pos rfl]
  rcases h7 with ⟨rfl, h7⟩ | rfl
  · rw [if_pos (show zi 0 = 0 from rfl), Option.bind_some, h7, Option.bind_some]
    rw [if_pos (lg_self _)]
    exact law_tail
  · rw [if_neg (show ¬ zi 1 = 0 by decide)]
    exact law_tail
theorem w22 (w : Int32) (h : ¬ (w.toInt < 0 ∨ 22 < w.toInt)) : ∃ k, k < 23 ∧ w = zi k := by
  rcases zi_cases w with h0 | ⟨k, hk, rfl⟩
  · rw [Int32.lt_iff_toInt_lt] at h0
    have e : (0 : Int32).toInt = 0 := by decide
    omega
  · rw [zi_int hk] at h
    exact ⟨k, by omega, rfl⟩
theorem law_step {N : Nat} (hJ : JR g e S n b L A B xs C M ρ f T) (hL : L ≤ 3073) (hT : T < 512) (hi : 1 + 6 * T + 6 ≤ L) (hg : g 21 = some q) (hg0 : g 0 = some e) (hg2 : ∃ mi, g 10 = some mi) : ∃ C' M' ρ' f', JR g e S n b L A B xs C' M' ρ' f' (T + 1) ∧ s_Law_law_33 g (N + 1) (some b) (some S) (some (S + cF n)) (some (S + cF n + 35)) (zi (1 + 6 * T)) (cW S n C ρ) = s_Law_law_33 g N (some b) (some S) (some (S + cF n)) (some (S + cF n + 35)) (zi (1 + 6 * (T + 1))) (cW S n C' ρ') := by
  have h0 : zaI (cW S n C ρ) b 0 (zi (1 + 6 * T)) = some (xs (1 + 6 * T)) := hJ.2.2.at hL (by omega)
  have h6 : ¬ (zi L - 6 < zi (1 + 6 * T)) := by
    show ¬ (zi L - zi 6 < _)
    rw [zi_sub (by omega), zi_lt (by omega) (by omega)]
    omega
  rw [s_Law_law_33, Option.bind_some, hJ.2.2.len, Option.bind_some, if_neg h6, h0, Option.bind_some]
  by_cases hw : (xs (1 + 6 * T) &&& 31 : Int32).toInt < 0 ∨ 22 < (xs (1 + 6 * T) &&& 31 : Int32).toInt
  · rw [if_pos hw]
    exact ⟨C, M, ρ, f, ⟨hJ.1.T1, hJ.2.1.T1 hT rfl (by omega) (by omega), hJ.2.2⟩, law_tail⟩
  · rw [if_neg hw]
    obtain ⟨k, hk, hx⟩ := w22 _ hw
    rw [hx]
    by_cases h100 : k = 0
    · subst h100
      rw [if_pos (show zi 0 = 0 from rfl)]
      exact S_series hJ hL hT hi hg
    by_cases h101 : k = 1
    · subst h101
      rw [if_neg (show ¬ zi 1 = 0 by decide), if_pos (show zi 1 = 1 from rfl)]
      exact S_request hJ hL hT hi hg hg0 hg2
    by_cases h102 : k = 2
    · subst h102
      rw [if_neg (show ¬ zi 2 = 0 by decide), if_neg (show ¬ zi 2 = 1 by decide), if_pos (show zi 2 = 2 from rfl)]
      exact S_report hJ hL hT hi hg hg0 hg2
    by_cases h103 : k = 3
    · subst h103
      rw [if_neg (show ¬ zi 3 = 0 by decide), if_neg (show ¬ zi 3 = 1 by decide), if_neg (show ¬ zi 3 = 2 by decide), if_pos (show zi 3 = 3 from rfl)]
      exact S_again hJ hL hT hi hg0 hg2
    by_cases h104 : k = 4
    · subst h104
      rw [if_neg (show ¬ zi 4 = 0 by decide), if_neg (show ¬ zi 4 = 1 by decide), if_neg (show ¬ zi 4 = 2 by decide), if_neg (show ¬ zi 4 = 3 by decide), if_pos (show zi 4 = 4 from rfl)]
      exact S_invoice hJ hL hT hi hg hg0 hg2
    by_cases h105 : k = 5
    · subst h105
      rw [if_neg (show ¬ zi 5 = 0 by decide), if_neg (show ¬ zi 5 = 1 by decide), if_neg (show ¬ zi 5 = 2 by decide), if_neg (show ¬ zi 5 = 3 by decide), if_neg (show ¬ zi 5 = 4 by decide), if_pos (show zi 5 = 5 from rfl)]
      exact S_voidNext hJ hL hT hi hg hg0 hg2
    by_cases h106 : k = 6
    · subst h106
      rw [if_neg (show ¬ zi 6 = 0 by decide), if_neg (show ¬ zi 6 = 1 by decide), if_neg (show ¬ zi 6 = 2 by decide), if_neg (show ¬ zi 6 = 3 by decide), if_neg (show ¬ zi 6 = 4 by decide), if_neg (show ¬ zi 6 = 5 by decide), if_pos (show zi 6 = 6 from rfl)]
      exact S_voidUsed hJ hL hT hi hg hg0 hg2
    by_cases h107 : k = 7
    · subst h107
      rw [if_neg (show ¬ zi 7 = 0 by decide), if_neg (show ¬ zi 7 = 1 by decide), if_neg (show ¬ zi 7 = 2 by decide), if_neg (show ¬ zi 7 = 3 by decide), if_neg (show ¬ zi 7 = 4 by decide), if_neg (show ¬ zi 7 = 5 by decide), if_neg (show ¬ zi 7 = 6 by decide), if_pos (show zi 7 = 7 from rfl)]
      exact S_strike hJ hL hT hi hg
    by_cases h108 : k = 8
    · subst h108
      rw [if_neg (show ¬ zi 8 = 0 by decide), if_neg (show ¬ zi 8 = 1 by decide), if_neg (show ¬ zi 8 = 2 by decide), if_neg (show ¬ zi 8 = 3 by decide), if_neg (show ¬ zi 8 = 4 by decide), if_neg (show ¬ zi 8 = 5 by decide), if_neg (show ¬ zi 8 = 6 by decide), if_neg (show ¬ zi 8 = 7 by decide), if_pos (show zi 8 = 8 from rfl)]
      exact S_close hJ hL hT hi hg
    by_cases h109 : k = 9
    · subst h109
      rw [if_neg (show ¬ zi 9 = 0 by decide), if_neg (show ¬ zi 9 = 1 by decide), if_neg (show ¬ zi 9 = 2 by decide), if_neg (show ¬ zi 9 = 3 by decide), if_neg (show ¬ zi 9 = 4 by decide), if_neg (show ¬ zi 9 = 5 by decide), if_neg (show ¬ zi 9 = 6 by decide), if_neg (show ¬ zi 9 = 7 by decide), if_neg (show ¬ zi 9 = 8 by decide), if_pos (show zi 9 = 9 from rfl)]
      exact S_crash hJ hL hT hi
    by_cases h110 : k = 10
    · subst h110
      rw [if_neg (show ¬ zi 10 = 0 by decide), if_neg (show ¬ zi 10 = 1 by decide), if_neg (show ¬ zi 10 = 2 by decide), if_neg (show ¬ zi 10 = 3 by decide), if_neg (show ¬ zi 10 = 4 by decide), if_neg (show ¬ zi 10 = 5 by decide), if_neg (show ¬ zi 10 = 6 by decide), if_neg (show ¬ zi 10 = 7 by decide), if_neg (show ¬ zi 10 = 8 by decide), if_neg (show ¬ zi 10 = 9 by decide), if_pos (show zi 10 = 10 from rfl)]
      exact S_mount hJ hL hT hi
    by_cases h111 : k = 11
    · subst h111
      rw [if_neg (show ¬ zi 11 = 0 by decide), if_neg (show ¬ zi 11 = 1 by decide), if_neg (show ¬ zi 11 = 2 by decide), if_neg (show ¬ zi 11 = 3 by decide), if_neg (show ¬ zi 11 = 4 by decide), if_neg (show ¬ zi 11 = 5 by decide), if_neg (show ¬ zi 11 = 6 by decide), if_neg (show ¬ zi 11 = 7 by decide), if_neg (show ¬ zi 11 = 8 by decide), if_neg (show ¬ zi 11 = 9 by decide), if_neg (show ¬ zi 11 = 10 by decide), if_pos (show zi 11 = 11 from rfl)]
      exact S_flush hJ hL hT hi
    by_cases h112 : k = 12
    · subst h112
      rw [if_neg (show ¬ zi 12 = 0 by decide), if_neg (show ¬ zi 12 = 1 by decide), if_neg (show ¬ zi 12 = 2 by decide), if_neg (show ¬ zi 12 = 3 by decide), if_neg (show ¬ zi 12 = 4 by decide), if_neg (show ¬ zi 12 = 5 by decide), if_neg (show ¬ zi 12 = 6 by decide), if_neg (show ¬ zi 12 = 7 by decide), if_neg (show ¬ zi 12 = 8 by decide), if_neg (show ¬ zi 12 = 9 by decide), if_neg (show ¬ zi 12 = 10 by decide), if_neg (show ¬ zi 12 = 11 by decide), if_pos (show zi 12 = 12 from rfl)]
      exact S_letters hJ hL hT hi
    by_cases h113 : k = 13
    · subst h113
      rw [if_neg (show ¬ zi 13 = 0 by decide), if_neg (show ¬ zi 13 = 1 by decide), if_neg (show ¬ zi 13 = 2 by decide), if_neg (show ¬ zi 13 = 3 by decide), if_neg (show ¬ zi 13 = 4 by decide), if_neg (show ¬ zi 13 = 5 by decide), if_neg (show ¬ zi 13 = 6 by decide), if_neg (show ¬ zi 13 = 7 by decide), if_neg (show ¬ zi 13 = 8 by decide), if_neg (show ¬ zi 13 = 9 by decide), if_neg (show ¬ zi 13 = 10 by decide), if_neg (show ¬ zi 13 = 11 by decide), if_neg (show ¬ zi 13 = 12 by decide), if_pos (show zi 13 = 13 from rfl)]
      exact S_letter hJ hL hT hi
    by_cases h114 : k = 14
    · subst h114
      rw [if_neg (show ¬ zi 14 = 0 by decide), if_neg (show ¬ zi 14 = 1 by decide), if_neg (show ¬ zi 14 = 2 by decide), if_neg (show ¬ zi 14 = 3 by decide), if_neg (show ¬ zi 14 = 4 by decide), if_neg (show ¬ zi 14 = 5 by decide), if_neg (show ¬ zi 14 = 6 by decide), if_neg (show ¬ zi 14 = 7 by decide), if_neg (show ¬ zi 14 = 8 by decide), if_neg (show ¬ zi 14 = 9 by decide), if_neg (show ¬ zi 14 = 10 by decide), if_neg (show ¬ zi 14 = 11 by decide), if_neg (show ¬ zi 14 = 12 by decide), if_neg (show ¬ zi 14 = 13 by decide), if_pos (show zi 14 = 14 from rfl)]
      exact S_deliver hJ hL hT hi hg0 hg2
    by_cases h115 : k = 15
    · subst h115
      rw [if_neg (show ¬ zi 15 = 0 by decide), if_neg (show ¬ zi 15 = 1 by decide), if_neg (show ¬ zi 15 = 2 by decide), if_neg (show ¬ zi 15 = 3 by decide), if_neg (show ¬ zi 15 = 4 by decide), if_neg (show ¬ zi 15 = 5 by decide), if_neg (show ¬ zi 15 = 6 by decide), if_neg (show ¬ zi 15 = 7 by decide), if_neg (show ¬ zi 15 = 8 by decide), if_neg (show ¬ zi 15 = 9 by decide), if_neg (show ¬ zi 15 = 10 by decide), if_neg (show ¬ zi 15 = 11 by decide), if_neg (show ¬ zi 15 = 12 by decide), if_neg (show ¬ zi 15 = 13 by decide), if_neg (show ¬ zi 15 = 14 by decide), if_pos (show zi 15 = 15 from rfl)]
      exact S_drop hJ hL hT hi
    by_cases h116 : k = 16
    · subst h116
      rw [if_neg (show ¬ zi 16 = 0 by decide), if_neg (show ¬ zi 16 = 1 by decide), if_neg (show ¬ zi 16 = 2 by decide), if_neg (show ¬ zi 16 = 3 by decide), if_neg (show ¬ zi 16 = 4 by decide), if_neg (show ¬ zi 16 = 5 by decide), if_neg (show ¬ zi 16 = 6 by decide), if_neg (show ¬ zi 16 = 7 by decide), if_neg (show ¬ zi 16 = 8 by decide), if_neg (show ¬ zi 16 = 9 by decide), if_neg (show ¬ zi 16 = 10 by decide), if_neg (show ¬ zi 16 = 11 by decide), if_neg (show ¬ zi 16 = 12 by decide), if_neg (show ¬ zi 16 = 13 by decide), if_neg (show ¬ zi 16 = 14 by decide), if_neg (show ¬ zi 16 = 15 by decide), if_pos (show zi 16 = 16 from rfl)]
      exact S_twin hJ hL hT hi hg0 hg2
    by_cases h117 : k = 17
    · subst h117
      rw [if_neg (show ¬ zi 17 = 0 by decide), if_neg (show ¬ zi 17 = 1 by decide), if_neg (show ¬ zi 17 = 2 by decide), if_neg (show ¬ zi 17 = 3 by decide), if_neg (show ¬ zi 17 = 4 by decide), if_neg (show ¬ zi 17 = 5 by decide), if_neg (show ¬ zi 17 = 6 by decide), if_neg (show ¬ zi 17 = 7 by decide), if_neg (show ¬ zi 17 = 8 by decide), if_neg (show ¬ zi 17 = 9 by decide), if_neg (show ¬ zi 17 = 10 by decide), if_neg (show ¬ zi 17 = 11 by decide), if_neg (show ¬ zi 17 = 12 by decide), if_neg (show ¬ zi 17 = 13 by decide), if_neg (show ¬ zi 17 = 14 by decide), if_neg (show ¬ zi 17 = 15 by decide), if_neg (show ¬ zi 17 = 16 by decide), if_pos (show zi 17 = 17 from rfl)]
      exact S_fate hJ hL hT hi hg
    by_cases h118 : k = 18
    · subst h118
      rw [if_neg (show ¬ zi 18 = 0 by decide), if_neg (show ¬ zi 18 = 1 by decide), if_neg (show ¬ zi 18 = 2 by decide), if_neg (show ¬ zi 18 = 3 by decide), if_neg (show ¬ zi 18 = 4 by decide), if_neg (show ¬ zi 18 = 5 by decide), if_neg (show ¬ zi 18 = 6 by decide), if_neg (show ¬ zi 18 = 7 by decide), if_neg (show ¬ zi 18 = 8 by decide), if_neg (show ¬ zi 18 = 9 by decide), if_neg (show ¬ zi 18 = 10 by decide), if_neg (show ¬ zi 18 = 11 by decide), if_neg (show ¬ zi 18 = 12 by decide), if_neg (show ¬ zi 18 = 13 by decide), if_neg (show ¬ zi 18 = 14 by decide), if_neg (show ¬ zi 18 = 15 by decide), if_neg (show ¬ zi 18 = 16 by decide), if_neg (show ¬ zi 18 = 17 by decide), if_pos (show zi 18 = 18 from rfl)]
      exact S_invoiceOf hJ hL hT hi hg
    by_cases h119 : k = 19
    · subst h119
      rw [if_neg (show ¬ zi 19 = 0 by decide), if_neg (show ¬ zi 19 = 1 by decide), if_neg (show ¬ zi 19 = 2 by decide), if_neg (show ¬ zi 19 = 3 by decide), if_neg (show ¬ zi 19 = 4 by decide), if_neg (show ¬ zi 19 = 5 by decide), if_neg (show ¬ zi 19 = 6 by decide), if_neg (show ¬ zi 19 = 7 by decide), if_neg (show ¬ zi 19 = 8 by decide), if_neg (show ¬ zi 19 = 9 by decide), if_neg (show ¬ zi 19 = 10 by decide), if_neg (show ¬ zi 19 = 11 by decide), if_neg (show ¬ zi 19 = 12 by decide), if_neg (show ¬ zi 19 = 13 by decide), if_neg (show ¬ zi 19 = 14 by decide), if_neg (show ¬ zi 19 = 15 by decide), if_neg (show ¬ zi 19 = 16 by decide), if_neg (show ¬ zi 19 = 17 by decide), if_neg (show ¬ zi 19 = 18 by decide), if_pos (show zi 19 = 19 from rfl)]
      exact S_total hJ hL hT hi hg
    by_cases h120 : k = 20
    · subst h120
      rw [if_neg (show ¬ zi 20 = 0 by decide), if_neg (show ¬ zi 20 = 1 by decide), if_neg (show ¬ zi 20 = 2 by decide), if_neg (show ¬ zi 20 = 3 by decide), if_neg (show ¬ zi 20 = 4 by decide), if_neg (show ¬ zi 20 = 5 by decide), if_neg (show ¬ zi 20 = 6 by decide), if_neg (show ¬ zi 20 = 7 by decide), if_neg (show ¬ zi 20 = 8 by decide), if_neg (show ¬ zi 20 = 9 by decide), if_neg (show ¬ zi 20 = 10 by decide), if_neg (show ¬ zi 20 = 11 by decide), if_neg (show ¬ zi 20 = 12 by decide), if_neg (show ¬ zi 20 = 13 by decide), if_neg (show ¬ zi 20 = 14 by decide), if_neg (show ¬ zi 20 = 15 by decide), if_neg (show ¬ zi 20 = 16 by decide), if_neg (show ¬ zi 20 = 17 by decide), if_neg (show ¬ zi 20 = 18 by decide), if_neg (show ¬ zi 20 = 19 by decide), if_pos (show zi 20 = 20 from rfl)]
      exact S_branchFate hJ hL hT hi
    by_cases h121 : k = 21
    · subst h121
      rw [if_neg (show ¬ zi 21 = 0 by decide), if_neg (show ¬ zi 21 = 1 by decide), if_neg (show ¬ zi 21 = 2 by decide), if_neg (show ¬ zi 21 = 3 by decide), if_neg (show ¬ zi 21 = 4 by decide), if_neg (show ¬ zi 21 = 5 by decide), if_neg (show ¬ zi 21 = 6 by decide), if_neg (show ¬ zi 21 = 7 by decide), if_neg (show ¬ zi 21 = 8 by decide), if_neg (show ¬ zi 21 = 9 by decide), if_neg (show ¬ zi 21 = 10 by decide), if_neg (show ¬ zi 21 = 11 by decide), if_neg (show ¬ zi 21 = 12 by decide), if_neg (show ¬ zi 21 = 13 by decide), if_neg (show ¬ zi 21 = 14 by decide), if_neg (show ¬ zi 21 = 15 by decide), if_neg (show ¬ zi 21 = 16 by decide), if_neg (show ¬ zi 21 = 17 by decide), if_neg (show ¬ zi 21 = 18 by decide), if_neg (show ¬ zi 21 = 19 by decide), if_neg (show ¬ zi 21 = 20 by decide), if_pos (show zi 21 = 21 from rfl)]
      exact S_branch hJ hL hT hi
    by_cases h122 : k = 22
    · subst h122
      rw [if_neg (show ¬ zi 22 = 0 by decide), if_neg (show ¬ zi 22 = 1 by decide), if_neg (show ¬ zi 22 = 2 by decide), if_neg (show ¬ zi 22 = 3 by decide), if_neg (show ¬ zi 22 = 4 by decide), if_neg (show ¬ zi 22 = 5 by decide), if_neg (show ¬ zi 22 = 6 by decide), if_neg (show ¬ zi 22 = 7 by decide), if_neg (show ¬ zi 22 = 8 by decide), if_neg (show ¬ zi 22 = 9 by decide), if_neg (show ¬ zi 22 = 10 by decide), if_neg (show ¬ zi 22 = 11 by decide), if_neg (show ¬ zi 22 = 12 by decide), if_neg (show ¬ zi 22 = 13 by decide), if_neg (show ¬ zi 22 = 14 by decide), if_neg (show ¬ zi 22 = 15 by decide), if_neg (show ¬ zi 22 = 16 by decide), if_neg (show ¬ zi 22 = 17 by decide), if_neg (show ¬ zi 22 = 18 by decide), if_neg (show ¬ zi 22 = 19 by decide), if_neg (show ¬ zi 22 = 20 by decide), if_neg (show ¬ zi 22 = 21 by decide), if_pos (show zi 22 = 22 from rfl)]
      exact S_listByte hJ hL hT hi hg
    omega
end LAW2
