def cLo (C : cS) (n s b K : Nat) : cS := (fun x k => if x = oFa n 0 s ∧ k < K ∧ C.1 (oFa n 0 s) k = 1 ∧ C.1 (oHo n 0 s) k = b then 4 else C.1 x k, C.2)
def cLc (C : cS) (n s b : Nat) : Nat → Nat
  | 0 => 0
  | k + 1 => cLc C n s b k + (if C.1 (oFa n 0 s) k = 1 ∧ C.1 (oHo n 0 s) k = b then 1 else 0)
section COFF4
variable {g : zG} {e S F n i s b a o c d k : Nat} {C C' : cS} {ρ ρ' : zS} {f f' : Nat → Nat → Nat}
theorem cLc_le (K : Nat) : cLc C n s b K ≤ K := by
  induction K with
  | zero => exact Nat.le_refl _
  | succ K ih =>
    rw [cLc]
    split <;> omega
theorem cLo_at {x K : Nat} : (cLo C n s b K).1 x k = if x = oFa n 0 s ∧ k < K ∧ C.1 (oFa n 0 s) k = 1 ∧ C.1 (oHo n 0 s) k = b then 4 else C.1 x k := rfl
theorem cLo_0 : cLo C n s b 0 = C := by
  unfold cLo
  refine Prod.ext ?_ rfl
  funext x k
  exact if_neg (fun q => Nat.not_lt_zero _ q.2.1)
theorem cLo_T {K : Nat} (h : C.1 (oFa n 0 s) K = 1 ∧ C.1 (oHo n 0 s) K = b) : cSN (cLo C n s b K) (oFa n 0 s) K 4 = cLo C n s b (K + 1) := by
  unfold cSN cLo
  refine Prod.ext ?_ rfl
  funext x k
  dsimp only
  by_cases h1 : x = oFa n 0 s
  · by_cases h2 : k = K
    · rw [if_pos ⟨h1, h2⟩, if_pos ⟨h1, by omega, by rw [h2]; exact h⟩]
    · rw [if_neg (fun q => h2 q.2)]
      by_cases h3 : k < K
      · by_cases h4 : C.1 (oFa n 0 s) k = 1 ∧ C.1 (oHo n 0 s) k = b
        · rw [if_pos ⟨h1, h3, h4⟩, if_pos ⟨h1, by omega, h4⟩]
        · rw [if_neg (fun q => h4 q.2.2), if_neg (fun q => h4 q.2.2)]
      · rw [if_neg (fun q => h3 q.2.1), if_neg (fun q => by omega)]
  · rw [if_neg (fun q => h1 q.1), if_neg (fun q => h1 q.1), if_neg (fun q => h1 q.1)]
theorem cLo_F {K : Nat} (h : ¬ (C.1 (oFa n 0 s) K = 1 ∧ C.1 (oHo n 0 s) K = b)) : cLo C n s b K = cLo C n s b (K + 1) := by
  unfold cLo
  refine Prod.ext ?_ rfl
  funext x k
  dsimp only
  by_cases h1 : x = oFa n 0 s
  · by_cases h2 : k = K
    · rw [h2, if_neg (fun q => by omega), if_neg (fun q => h q.2.2)]
    · by_cases h3 : k < K
      · by_cases h4 : C.1 (oFa n 0 s) k = 1 ∧ C.1 (oHo n 0 s) k = b
        · rw [if_pos ⟨h1, h3, h4⟩, if_pos ⟨h1, by omega, h4⟩]
        · rw [if_neg (fun q => h4 q.2.2), if_neg (fun q => h4 q.2.2)]
      · rw [if_neg (fun q => h3 q.2.1), if_neg (fun q => by omega)]
  · rw [if_neg (fun q => h1 q.1), if_neg (fun q => h1 q.1)]
theorem Y_lose (hs : s < 3) (hg : C.1 (oSb n 0 s) 2 ≤ 300) (hb : b < 6) (hf : ∀ k, k < 300 → C.1 (oFa n 0 s) k < 128) (hh : ∀ k, k < 300 → C.1 (oHo n 0 s) k < 128) : s_SeriesBook_loseNumbersOf g (S + oSb n 0 s) (zi b) (cW S n C ρ) = some (zi (cLc C n s b (C.1 (oSb n 0 s) 2)), cW S n (cLo C n s b (C.1 (oSb n 0 s) 2)) ρ) := by
  have m1 : ¬ oSb n 0 s = oFa n 0 s := by unfold oSb oFa; omega
  have m2 : ¬ oHo n 0 s = oFa n 0 s := by unfold oHo oFa; omega
  have eg : ∀ K, (cLo C n s b K).1 (oSb n 0 s) 2 = C.1 (oSb n 0 s) 2 := fun K => if_neg (fun q => m1 q.1)
  have eh : ∀ K k, (cLo C n s b K).1 (oHo n 0 s) k = C.1 (oHo n 0 s) k := fun K k => if_neg (fun q => m2 q.1)
  have ef : ∀ K, (cLo C n s b K).1 (oFa n 0 s) K = C.1 (oFa n 0 s) K := fun K => if_neg (fun q => by omega)
  have key : ∀ (m k fuel : Nat), k + m = C.1 (oSb n 0 s) 2 → m < fuel → s_SeriesBook_loseNumbersOf_4 g fuel (S + oSb n 0 s) (zi b) (zi (cLc C n s b k)) (zi k) (cW S n (cLo C n s b k) ρ) = some (zi (cLc C n s b (C.1 (oSb n 0 s) 2)), cW S n (cLo C n s b (C.1 (oSb n 0 s) 2)) ρ) := by
    intro m
    induction m with
    | zero =>
      intro k fuel h1 h2
      obtain ⟨fuel, rfl⟩ : ∃ k, fuel = k + 1 := ⟨fuel - 1, by omega⟩
      have e1 : k = C.1 (oSb n 0 s) 2 := by omega
      rw [s_SeriesBook_loseNumbersOf_4]
      rw [x_gSb2 (by decide) hs, Option.bind_some, eg, if_pos (by rw [e1]; exact Int32.le_refl _), e1]
    | succ m ih =>
      intro k fuel h1 h2
      obtain ⟨fuel, rfl⟩ : ∃ k, fuel = k + 1 := ⟨fuel - 1, by omega⟩
      have q := ih (k + 1) fuel (by omega) (by omega)
      have g1 := hf k (by omega)
      have g2 := hh k (by omega)
      have cl := cLc_le (C := C) (n := n) (s := s) (b := b) k
      have w1 : zsI (cW S n (cLo C n s b k) ρ) (S + oFa n 0 s) 0 (zi k) 4 = some (cW S n (cSN (cLo C n s b k) (oFa n 0 s) k 4) ρ) := x_wFa (v := 4) (by decide) hs (by omega)
      rw [cLc] at q
      rw [s_SeriesBook_loseNumbersOf_4]
      rw [x_gSb2 (by decide) hs, Option.bind_some, eg, if_neg (by rw [zi_le (by omega) (by omega)]; omega), x_gSb3 (by decide) hs, Option.bind_some, Option.bind_some, x_rHo (by decide) hs (by omega), Option.bind_some, eh]
      unfold s_SeriesBook_loseNumbersOf_42
      simp only [zi_l1, zi_add]
      by_cases h3 : C.1 (oHo n 0 s) k = b
      · rw [if_pos (by rw [h3]), x_gSb4 (by decide) hs, Option.bind_some, Option.bind_some, x_rFa (by decide) hs (by omega), Option.bind_some, ef]
        by_cases h4 : C.1 (oFa n 0 s) k = 1
        · rw [if_pos (by rw [h4]), Option.bind_some, Option.bind_some, w1, Option.bind_some, cLo_T ⟨h4, h3⟩]
          rw [if_pos ⟨h4, h3⟩] at q
          exact q
        · rw [if_neg (by rw [zi_eq (by omega) (by omega)]; exact h4), cLo_F (fun w => h4 w.1)]
          rw [if_neg (fun w => h4 w.1), Nat.add_zero] at q
          exact q
      · rw [if_neg (by rw [zi_eq (by omega) (by omega)]; exact h3), cLo_F (fun w => h3 w.2)]
        rw [if_neg (fun w => h3 w.2), Nat.add_zero] at q
        exact q
  have z := key (C.1 (oSb n 0 s) 2) 0 zfuel (by omega) (by unfold zfuel; omega)
  rw [cLo_0] at z
  unfold s_SeriesBook_loseNumbersOf
  exact z
/-! striking out -/
theorem cLo_fr {x K : Nat} (h : ¬ x = oFa n 0 s) : (cLo C n s b K).1 x = C.1 x := by
  funext k
  exact if_neg (fun q => h q.1)
def cStr (C : cS) (n i : Nat) : cS := cLo (cLo (cLo (cSN C (oSt n 0) i 1) n 0 i (C.1 (oSb n 0 0) 2)) n 1 i (C.1 (oSb n 0 1) 2)) n 2 i (C.1 (oSb n 0 2) 2)
def cStc (C : cS) (n i : Nat) : Nat := cLc C n 0 i (C.1 (oSb n 0 0) 2) + cLc C n 1 i (C.1 (oSb n 0 1) 2) + cLc C n 2 i (C.1 (oSb n 0 2) 2)
theorem cLc_ext {C C' : cS} (h1 : C'.1 (oFa n 0 s) = C.1 (oFa n 0 s)) (h2 : C'.1 (oHo n 0 s) = C.1 (oHo n 0 s)) : ∀ K, cLc C' n s b K = cLc C n s b K
  | 0 => rfl
  | K + 1 => by
    rw [cLc, cLc, cLc_ext h1 h2 K, h1, h2]
theorem Y_strike_s {N v X : Nat} {Y : cS} (hs : s < 3) (hg : C.1 (oSb n 0 s) 2 ≤ 300) (hb : b < 6) (hv : v ≤ 1000) (hf : ∀ k, k < 300 → C.1 (oFa n 0 s) k < 128) (hh : ∀ k, k < 300 → C.1 (oHo n 0 s) k < 128) (hX : cLc C n s b (C.1 (oSb n 0 s) 2) = X) (hY : cLo C n s b (C.1 (oSb n 0 s) 2) = Y) : s_Office_strikeOut_30 g (N + 1) (S + oOf n) (zi b) (zi v) (zi s) (cW S n C ρ) = s_Office_strikeOut_30 g N (S + oOf n) (zi b) (zi (v + X)) (zi (s + 1)) (cW S n Y ρ) := by
  have e1 : ¬ (3 : Int32) ≤ zi s := by
    rw [zi_l3, zi_le (by omega) (by omega)]
    omega
  rw [s_Office_strikeOut_30]
  rw [if_neg e1, x_gOf0, Option.bind_some, Option.bind_some, c_aSa0 hs, Option.bind_some, Option.bind_some, x_isSb (by decide) hs, Option.bind_some, Y_lose hs hg hb hf hh, Option.bind_some]
  dsimp only
  rw [zi_add, zi_l1, zi_add, hX, hY]
theorem Y_strikeOut1 (hi : i < n) (hn : n ≤ 6) (h : C.1 (oSt n 0) i = 1) : s_Office_strikeOut g (S + oOf n) (zi i) (cW S n C ρ) = some (-1, cW S n C ρ) := by
  unfold s_Office_strikeOut
  rw [x_isOf, Option.bind_some, Y_knows hi hn, Option.bind_some]
  dsimp only
  rw [if_neg (show ¬ zi 1 = 0 by decide), x_gOf2, Option.bind_some, Option.bind_some, x_rSt (by decide) hi hn, Option.bind_some, h, if_neg (show ¬ zi 1 = 0 by decide)]
  rfl
theorem Y_strikeOut (hi : i < n) (hn : n ≤ 6) (h : C.1 (oSt n 0) i = 0) (hg : ∀ s, s < 3 → C.1 (oSb n 0 s) 2 ≤ 300) (hf : ∀ s, s < 3 → ∀ k, k < 300 → C.1 (oFa n 0 s) k < 128) (hh : ∀ s, s < 3 → ∀ k, k < 300 → C.1 (oHo n 0 s) k < 128) : s_Office_strikeOut g (S + oOf n) (zi i) (cW S n C ρ) = some (zi (cStc C n i), cW S n (cStr C n i) ρ) := by
  obtain ⟨N, hN⟩ : ∃ N, zfuel = N + 1 + 1 + 1 + 1 := ⟨1048572, rfl⟩
  have n1 : ∀ s, ¬ oFa n 0 s = oSt n 0 ∨ ¬ s < 3 := by intro s; unfold oFa oSt; omega
  have fS : ∀ x, ¬ x = oSt n 0 → (cSN C (oSt n 0) i 1).1 x = C.1 x := fun x hx => (sameC.N x hx).1
  have p0 : ∀ s, s < 3 → ¬ oSb n 0 s = oSt n 0 ∧ ¬ oFa n 0 s = oSt n 0 ∧ ¬ oHo n 0 s = oSt n 0 := by
    intro s hs
    unfold oSb oFa oHo oSt
    omega
  have p1 : ∀ s s', s < 3 → s' < 3 → ¬ oSb n 0 s = oFa n 0 s' ∧ ¬ oHo n 0 s = oFa n 0 s' ∧ (¬ s = s' → ¬ oFa n 0 s = oFa n 0 s') := by
    intro s s' hs hs'
    unfold oSb oFa oHo
    omega
  have w1 : zsI (cW S n C ρ) (S + oSt n 0) 3 (zi i) (vp_nar .boolean 1) = some (cW S n (cSN C (oSt n 0) i 1) ρ) := x_wSt (v := 1) (by decide) hi hn
  have a0 := (p0 0 (by decide))
  have a1 := (p0 1 (by decide))
  have a2 := (p0 2 (by decide))
  have c0 := cLc_le (C := C) (n := n) (s := 0) (b := i) (C.1 (oSb n 0 0) 2)
  have c1 := cLc_le (C := C) (n := n) (s := 1) (b := i) (C.1 (oSb n 0 1) 2)
  have g0 := hg 0 (by decide)
  have g1 := hg 1 (by decide)
  have s0 := Y_strike_s (g := g) (N := N + 1 + 1 + 1) (S := S) (C := cSN C (oSt n 0) i 1) (ρ := ρ) (v := 0) (X := cLc C n 0 i (C.1 (oSb n 0 0) 2)) (Y := cLo (cSN C (oSt n 0) i 1) n 0 i (C.1 (oSb n 0 0) 2)) (s := 0) (b := i) (by decide) (by rw [fS _ a0.1]; exact g0) (by omega) (by omega) (by rw [fS _ a0.2.1]; exact hf 0 (by decide)) (by rw [fS _ a0.2.2]; exact hh 0 (by decide)) (by rw [fS _ a0.1]; exact cLc_ext (fS _ a0.2.1) (fS _ a0.2.2) _) (by rw [fS _ a0.1])
  have fL : ∀ x, ¬ x = oSt n 0 → ¬ x = oFa n 0 0 → (cLo (cSN C (oSt n 0) i 1) n 0 i (C.1 (oSb n 0 0) 2)).1 x = C.1 x := fun x hx hx2 => by rw [cLo_fr hx2, fS x hx]
  have b1 := p1 1 0 (by decide) (by decide)
  have b2 := p1 2 0 (by decide) (by decide)
  have b3 := p1 2 1 (by decide) (by decide)
  have s1 := Y_strike_s (g := g) (N := N + 1 + 1) (S := S) (C := cLo (cSN C (oSt n 0) i 1) n 0 i (C.1 (oSb n 0 0) 2)) (ρ := ρ) (v := 0 + cLc C n 0 i (C.1 (oSb n 0 0) 2)) (X := cLc C n 1 i (C.1 (oSb n 0 1) 2)) (Y := cLo (cLo (cSN C (oSt n 0) i 1) n 0 i (C.1 (oSb n 0 0) 2)) n 1 i (C.1 (oSb n 0 1) 2)) (s := 1) (b := i) (by decide) (by rw [fL _ a1.1 b1.1]; exact g1) (by omega) (by omega) (by rw [fL _ a1.2.1 (b1.2.2 (by decide))]; exact hf 1 (by decide)) (by rw [fL _ a1.2.2 b1.2.1]; exact hh 1 (by decide)) (by rw [fL _ a1.1 b1.1]; exact cLc_ext (fL _ a1.2.1 (b1.2.2 (by decide))) (fL _ a1.2.2 b1.2.1) _) (by rw [fL _ a1.1 b1.1])
  have fM : ∀ x, ¬ x = oSt n 0 → ¬ x = oFa n 0 0 → ¬ x = oFa n 0 1 → (cLo (cLo (cSN C (oSt n 0) i 1) n 0 i (C.1 (oSb n 0 0) 2)) n 1 i (C.1 (oSb n 0 1) 2)).1 x = C.1 x := fun x hx hx2 hx3 => by rw [cLo_fr hx3, fL x hx hx2]
  have s2 := Y_strike_s (g := g) (N := N + 1) (S := S) (C := cLo (cLo (cSN C (oSt n 0) i 1) n 0 i (C.1 (oSb n 0 0) 2)) n 1 i (C.1 (oSb n 0 1) 2)) (ρ := ρ) (v := 0 + cLc C n 0 i (C.1 (oSb n 0 0) 2) + cLc C n 1 i (C.1 (oSb n 0 1) 2)) (X := cLc C n 2 i (C.1 (oSb n 0 2) 2)) (Y := cStr C n i) (s := 2) (b := i) (by decide) (by rw [fM _ a2.1 b2.1 b3.1]; exact hg 2 (by decide)) (by omega) (by omega) (by rw [fM _ a2.2.1 (b2.2.2 (by decide)) (b3.2.2 (by decide))]; exact hf 2 (by decide)) (by rw [fM _ a2.2.2 b2.2.1 b3.2.1]; exact hh 2 (by decide)) (by rw [fM _ a2.1 b2.1 b3.1]; exact cLc_ext (fM _ a2.2.1 (b2.2.2 (by decide)) (b3.2.2 (by decide))) (fM _ a2.2.2 b2.2.1 b3.2.1) _) (by rw [fM _ a2.1 b2.1 b3.1]; rfl)
  unfold s_Office_strikeOut
  rw [x_isOf, Option.bind_some, Y_knows hi hn, Option.bind_some]
  dsimp only
  rw [if_neg (show ¬ zi 1 = 0 by decide), x_gOf2, Option.bind_some, Option.bind_some, x_rSt (by decide) hi hn, Option.bind_some, h, if_pos (show zi 0 = 0 from rfl), Option.bind_some, Option.bind_some, w1, Option.bind_some, hN, zi_l0, s0, s1, s2, s_Office_strikeOut_30]
  rw [if_pos (show (3 : Int32) ≤ zi (2 + 1) by decide)]
  unfold cStc
  rw [Nat.zero_add]
/-! answers -/
theorem Y_ansInit {p q ser w ev kd num st : Nat} {bl : Option Nat} {x0 x1 x2 x3 x4 : Value} (hF : S + cF n ≤ F) (h : dOb F ρ p 6 [x0, x1, x2, x3, x4]) (hq : isLet F ρ q ser w ev kd b num) (hst : st < 2) : s_Answer_init g p (some q) (zi st) bl (cW S n C ρ) = some (cW S n C (zupd ρ p (.inr (6, [.int (zi st), va_rf bl, .int (zi 3), .int (zi b), .int (zi num)])))) := by
  have q1 : zgI (cW S n C ρ) q 9 4 = some (zi b) := dOb.gI hq hF rfl
  have q2 : zgI (cW S n C ρ) q 9 5 = some (zi num) := dOb.gI hq hF rfl
  have a1 : ∀ (m : Nat) (v : Value) (fs : List Value) (X : zS), dOb F X p 6 fs → m < fs.length → zpF (cW S n C X) p 6 m v = some (cW S n C (zupd X p (.inr (6, fs.set m v)))) := fun m v fs X hX hm => dOb.put hX hF hm
  have a2 : ∀ (m2 m : Nat) (v : Value) (fs : List Value) (X : zS), dOb F X p 6 fs → m < fs.length → zpF2 (cW S n C X) p 9 m2 6 m v = some (cW S n C (zupd X p (.inr (6, fs.set m v)))) := fun m2 m v fs X hX hm => by
    unfold zpF2
    rw [if_neg (by rw [dOb.cls hX hF]; decide)]
    exact a1 m v fs X hX hm
  have s1 : zpF2 (cW S n C ρ) p 9 3 6 2 (.int (zi 3)) = some (cW S n C (zupd ρ p (.inr (6, [x0, x1, .int (zi 3), x3, x4])))) := a2 3 2 (.int (zi 3)) _ _ h (by decide : 2 < 5)
  have s2 : zpF2 (cW S n C (zupd ρ p (.inr (6, [x0, x1, .int (zi 3), x3, x4])))) p 9 4 6 3 (.int (zi b)) = some (cW S n C (zupd ρ p (.inr (6, [x0, x1, .int (zi 3), .int (zi b), x4])))) := by
    have z := a2 4 3 (.int (zi b)) _ _ (dOb.upd (fs' := [x0, x1, .int (zi 3), x3, x4]) h) (by decide : 3 < 5)
    rw [zupd2] at z
    exact z
  have s3 : zpF2 (cW S n C (zupd ρ p (.inr (6, [x0, x1, .int (zi 3), .int (zi b), x4])))) p 9 5 6 4 (.int (zi num)) = some (cW S n C (zupd ρ p (.inr (6, [x0, x1, .int (zi 3), .int (zi b), .int (zi num)])))) := by
    have z := a2 5 4 (.int (zi num)) _ _ (dOb.upd (fs' := [x0, x1, .int (zi 3), .int (zi b), x4]) h) (by decide : 4 < 5)
    rw [zupd2] at z
    exact z
  have s4 : zpF (cW S n C (zupd ρ p (.inr (6, [x0, x1, .int (zi 3), .int (zi b), .int (zi num)])))) p 6 0 (.int (zi st)) = some (cW S n C (zupd ρ p (.inr (6, [.int (zi st), x1, .int (zi 3), .int (zi b), .int (zi num)])))) := by
    have z := a1 0 (.int (zi st)) _ _ (dOb.upd (fs' := [x0, x1, .int (zi 3), .int (zi b), .int (zi num)]) h) (by decide : 0 < 5)
    rw [zupd2] at z
    exact z
  have s5 : zpF (cW S n C (zupd ρ p (.inr (6, [.int (zi st), x1, .int (zi 3), .int (zi b), .int (zi num)])))) p 6 1 (va_rf bl) = some (cW S n C (zupd ρ p (.inr (6, [.int (zi st), va_rf bl, .int (zi 3), .int (zi b), .int (zi num)])))) := by
    have z := a1 1 (va_rf bl) _ _ (dOb.upd (fs' := [.int (zi st), x1, .int (zi 3), .int (zi b), .int (zi num)]) h) (by decide : 1 < 5)
    rw [zupd2] at z
    exact z
  unfold s_Answer_init s_Mail_init
  rw [Option.bind_some, q1, Option.bind_some, q2, Option.bind_some]
  have s1' : zpF2 (cW S n C ρ) p 9 3 6 2 (.int 3) = some (cW S n C (zupd ρ p (.inr (6, [x0, x1, .int (zi 3), x3, x4])))) := s1
  rw [s1', Option.bind_some, s2, Option.bind_some, s3, Option.bind_some, Option.bind_some, if_pos (by have : st = 0 ∨ st = 1 := (by omega); rcases this with rfl | rfl <;> decide), s4, Option.bind_some, s5, Option.bind_some]
end COFF4
