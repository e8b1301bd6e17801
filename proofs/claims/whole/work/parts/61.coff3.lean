def cFl (C : cS) (o d m v : Nat) : cS := (fun x k => if x = o ∧ d ≤ k ∧ k < d + m then v else C.1 x k, C.2)
def cGv (C : cS) (n s b m : Nat) : cS := cFl (cFl C (oHo n 0 s) (C.1 (oSb n 0 s) 2) m b) (oFa n 0 s) (C.1 (oSb n 0 s) 2) m 1
section COFF3
variable {g : zG} {e S F n i s b a o c d k : Nat} {C C' : cS} {ρ ρ' : zS} {f f' : Nat → Nat → Nat}
theorem cFl_at {x m v : Nat} : (cFl C o d m v).1 x k = if x = o ∧ d ≤ k ∧ k < d + m then v else C.1 x k := rfl
theorem cFl_2 {m v : Nat} : (cFl C o d m v).2 = C.2 := rfl
theorem cFl_s {m v : Nat} : cSN (cFl C o d m v) o (d + m) v = cFl C o d (m + 1) v := by
  unfold cSN cFl
  refine Prod.ext ?_ rfl
  funext x k
  dsimp only
  by_cases h1 : x = o
  · by_cases h2 : k = d + m
    · rw [if_pos ⟨h1, h2⟩, if_pos ⟨h1, by omega, by omega⟩]
    · rw [if_neg (fun q => h2 q.2)]
      by_cases h3 : d ≤ k ∧ k < d + m
      · rw [if_pos ⟨h1, h3⟩, if_pos ⟨h1, by omega, by omega⟩]
      · rw [if_neg (fun q => h3 q.2), if_neg (fun q => by omega)]
  · rw [if_neg (fun q => h1 q.1), if_neg (fun q => h1 q.1), if_neg (fun q => h1 q.1)]
theorem cFl_0 {v : Nat} : cFl C o d 0 v = C := by
  unfold cFl
  refine Prod.ext ?_ rfl
  funext x k
  exact if_neg (fun q => by omega)
theorem cGv_s {m : Nat} : cSN (cSN (cGv C n s b m) (oHo n 0 s) (C.1 (oSb n 0 s) 2 + m) b) (oFa n 0 s) (C.1 (oSb n 0 s) 2 + m) 1 = cGv C n s b (m + 1) := by
  unfold cGv
  rw [← cFl_s, ← cFl_s]
  congr 1
  have h : ¬ oHo n 0 s = oFa n 0 s := by unfold oHo oFa; omega
  unfold cSN cFl
  refine Prod.ext ?_ rfl
  funext x k
  dsimp only
  by_cases h1 : x = oHo n 0 s
  · have h2 : ¬ x = oFa n 0 s := by rw [h1]; exact h
    simp only [h2, false_and, if_false]
  · simp only [h1, false_and, if_false]
theorem Y_give54 {w p N : Nat} (hs : s < 3) (hN : C.1 (oSb n 0 s) 2 + N ≤ 300) : ∀ (m k fuel : Nat), k + m = N → m < fuel → s_SeriesBook_give_54 g fuel (S + oSb n 0 s) (zi b) (zi w) (zi N) (some p) (zi (C.1 (oSb n 0 s) 2 + k)) (cW S n (cGv C n s b k) ρ) = some (some p, cW S n (cSN (cGv C n s b N) (oSb n 0 s) 2 (C.1 (oSb n 0 s) 2 + N)) ρ) := by
  have eg : ∀ k, (cGv C n s b k).1 (oSb n 0 s) 2 = C.1 (oSb n 0 s) 2 := by
    intro k
    have h1 : ¬ oSb n 0 s = oHo n 0 s := by unfold oHo oSb; omega
    have h2 : ¬ oSb n 0 s = oFa n 0 s := by unfold oFa oSb; omega
    simp only [cGv, cFl_at, h1, h2, false_and, if_false]
  intro m
  induction m with
  | zero =>
    intro k fuel h1 h2
    obtain ⟨fuel, rfl⟩ : ∃ k, fuel = k + 1 := ⟨fuel - 1, by omega⟩
    have e1 : k = N := by omega
    subst e1
    rw [s_SeriesBook_give_54]
    rw [x_gSb2 (by decide) hs, Option.bind_some, eg, zi_add, if_pos (Int32.le_refl _), Option.bind_some, zi_add, x_pSb2 (by decide) hs, Option.bind_some]
  | succ m ih =>
    intro k fuel h1 h2
    obtain ⟨fuel, rfl⟩ : ∃ k, fuel = k + 1 := ⟨fuel - 1, by omega⟩
    have q := ih (k + 1) fuel (by omega) (by omega)
    have w1 : ∀ X : cS, zsI (cW S n X ρ) (S + oFa n 0 s) 0 (zi (C.1 (oSb n 0 s) 2 + k)) 1 = some (cW S n (cSN X (oFa n 0 s) (C.1 (oSb n 0 s) 2 + k) 1) ρ) := fun X => x_wFa (v := 1) (by decide) hs (by omega)
    rw [s_SeriesBook_give_54]
    rw [x_gSb2 (by decide) hs, Option.bind_some, eg, zi_add, if_neg (by rw [zi_le (by omega) (by omega)]; omega), x_gSb3 (by decide) hs, Option.bind_some, Option.bind_some, x_wHo (by decide) hs (by omega), Option.bind_some, x_gSb4 (by decide) hs, Option.bind_some, Option.bind_some, w1, Option.bind_some, cGv_s, zi_l1, zi_add, Nat.add_assoc]
    exact q
theorem cGv_0 : cGv C n s b 0 = C := by
  unfold cGv
  rw [cFl_0, cFl_0]
theorem Y_blkInit {x m : Nat} (hF : S + cF n ≤ ρ.1) : s_Block_init g ρ.1 (zi x) (zi m) (cW S n C (znew ρ 2 (.inr (7, [.int 0, .int 0])))) = some (cW S n C (znew ρ 2 (.inr (7, [.int (zi x), .int (zi m)])))) := by
  unfold s_Block_init
  rw [d_pnew hF (by decide), Option.bind_some, d_pnew hF (by simp only [List.length_set]; decide)]
  rfl
theorem Y_give0 {w : Nat} (hs : s < 3) (h0 : C.1 (oSb n 0 s) 0 < 128) (hg : C.1 (oSb n 0 s) 2 ≤ 300) (hw : 1 ≤ w ∧ w ≤ 100) (h : ¬ (C.1 (oSb n 0 s) 0 = 1 ∧ C.1 (oSb n 0 s) 2 < 300)) : s_SeriesBook_give g (S + oSb n 0 s) (zi b) (zi w) (cW S n C ρ) = some (none, cW S n C ρ) := by
  unfold s_SeriesBook_give s_SeriesBook_give_24
  rw [x_gSb0 (by decide) hs, Option.bind_some]
  by_cases h1 : C.1 (oSb n 0 s) 0 = 1
  · have h2 : C.1 (oSb n 0 s) 2 = 300 := by
      have : ¬ C.1 (oSb n 0 s) 2 < 300 := fun q => h ⟨h1, q⟩
      omega
    have e1 : (if zi 300 - zi 300 < zi w then zi 300 - zi 300 else zi w) = zi 0 := by
      rw [zi_sub (Nat.le_refl _), Nat.sub_self, if_pos (by rw [zi_lt (by omega) (by omega)]; omega)]
    rw [h1, if_pos (show zi 1 = 1 from rfl), x_gSb2 (by decide) hs, Option.bind_some, h2, zi_l300, e1, Option.bind_some, if_neg (show ¬ 1 ≤ zi 0 by decide)]
  · rw [if_neg (by rw [zi_l1, zi_eq (by omega) (by omega)]; exact h1), if_neg (by decide)]
theorem Y_give {w m : Nat} (hF : S + cF n ≤ ρ.1) (hs : s < 3) (h0 : C.1 (oSb n 0 s) 0 = 1) (hg : C.1 (oSb n 0 s) 2 < 300) (hw : 1 ≤ w ∧ w ≤ 100) (hm : m = min w (300 - C.1 (oSb n 0 s) 2)) : s_SeriesBook_give g (S + oSb n 0 s) (zi b) (zi w) (cW S n C ρ) = some (some ρ.1, cW S n (cSN (cGv C n s b m) (oSb n 0 s) 2 (C.1 (oSb n 0 s) 2 + m)) (znew ρ 2 (.inr (7, [.int (zi (C.1 (oSb n 0 s) 2 + 1)), .int (zi m)])))) := by
  have q := Y_give54 (g := g) (S := S) (n := n) (C := C) (ρ := znew ρ 2 (.inr (7, [.int (zi (C.1 (oSb n 0 s) 2 + 1)), .int (zi m)]))) (b := b) (w := w) (p := ρ.1) (N := m) hs (by omega) m 0 zfuel (by omega) (by unfold zfuel; omega)
  rw [cGv_0, Nat.add_zero] at q
  have e1 : (if zi 300 - zi (C.1 (oSb n 0 s) 2) < zi w then zi 300 - zi (C.1 (oSb n 0 s) 2) else zi w) = zi m := by
    rw [zi_sub (by omega)]
    by_cases hh : 300 - C.1 (oSb n 0 s) 2 < w
    · rw [if_pos (by rw [zi_lt (by omega) (by omega)]; exact hh), hm, Nat.min_eq_right (by omega)]
    · rw [if_neg (by rw [zi_lt (by omega) (by omega)]; exact hh), hm, Nat.min_eq_left (by omega)]
  unfold s_SeriesBook_give s_SeriesBook_give_24
  rw [x_gSb0 (by decide) hs, Option.bind_some, h0, if_pos (show zi 1 = 1 from rfl), x_gSb2 (by decide) hs, Option.bind_some, zi_l300, e1, Option.bind_some, if_pos (by rw [zi_l1, zi_le (by omega) (by omega)]; omega), Option.bind_some, cW_znew hF, x_gSb2 (by decide) hs, Option.bind_some, zi_l1, zi_add]
  have q2 : s_Block_init g (cW S n C ρ).1 (zi (C.1 (oSb n 0 s) 2 + 1)) (zi m) (cW S n C (znew ρ 2 (.inr (7, [.int 0, .int 0])))) = some (cW S n C (znew ρ 2 (.inr (7, [.int (zi (C.1 (oSb n 0 s) 2 + 1)), .int (zi m)])))) := Y_blkInit hF
  rw [q2, Option.bind_some, x_gSb2 (by decide) hs, Option.bind_some]
  exact q
/-- what entering an event does -/
def cEn (C : cS) (n s k u : Nat) (ct : Int64) (d : Int32) : cS := if (u = 1 ∧ C.1 (oFa n 0 s) k = 1) ∨ (u = 0 ∧ (C.1 (oFa n 0 s) k = 1 ∨ C.1 (oFa n 0 s) k = 2) ∧ ¬ C.1 (oSb n 0 s) 0 = 2) then cSI (cSL (cSN C (oFa n 0 s) k (3 - u)) (oCe n 0 s) k ct) (oDe n 0 s) k d else C
theorem Y_enter {p u : Nat} {ct : Int64} {dt : Int32} (hF : S + cF n ≤ F) (hs : s < 3) (hg : C.1 (oSb n 0 s) 2 ≤ 300) (hk : k < C.1 (oSb n 0 s) 2) (hp : isEv F ρ p (k + 1) u ct dt) (hu : u < 2) (h0 : C.1 (oSb n 0 s) 0 < 128) (hf : C.1 (oFa n 0 s) k < 128) : s_SeriesBook_enter g (S + oSb n 0 s) (some p) (cW S n C ρ) = some (cW S n (cEn C n s k u ct dt) ρ) := by
  have q1 : ∀ X : cS, zgI (cW S n X ρ) p 10 0 = some (zi (k + 1)) := fun X => dOb.gI hp hF rfl
  have q2 : ∀ X : cS, zgI (cW S n X ρ) p 10 1 = some (zi u) := fun X => dOb.gI hp hF rfl
  have q3 : ∀ X : cS, zgL (cW S n X ρ) p 10 2 = some ct := fun X => dOb.gL hp hF rfl
  have q4 : ∀ X : cS, zgI (cW S n X ρ) p 10 3 = some dt := fun X => dOb.gI hp hF rfl
  have e0 : zi (k + 1) - 1 = zi k := zi_s1
  have f1 : (zi (C.1 (oFa n 0 s) k) = 1) = (C.1 (oFa n 0 s) k = 1) := by rw [zi_l1, zi_eq (by omega) (by omega)]
  have f2 : (zi (C.1 (oFa n 0 s) k) = 2) = (C.1 (oFa n 0 s) k = 2) := by rw [zi_l2, zi_eq (by omega) (by omega)]
  have f0 : (zi (C.1 (oSb n 0 s) 0) = 2) = (C.1 (oSb n 0 s) 0 = 2) := by rw [zi_l2, zi_eq (by omega) (by omega)]
  have fin : ∀ v w4 w5 : Nat, s_SeriesBook_enter_84 g (S + oSb n 0 s) (some p) (zi w4) (zi w5) (zi k) (zi v) (zi k) (some (S + oFa n 0 s)) (cW S n C ρ) = some (cW S n (cSI (cSL (cSN C (oFa n 0 s) k v) (oCe n 0 s) k ct) (oDe n 0 s) k dt) ρ) := by
    intro v w4 w5
    unfold s_SeriesBook_enter_84
    rw [Option.bind_some, x_wFa (by decide) hs (by omega), Option.bind_some, x_gSb5 (by decide) hs, Option.bind_some, Option.bind_some, q3, Option.bind_some, Option.bind_some, x_wCe (by decide) hs (by omega), Option.bind_some, x_gSb6 (by decide) hs, Option.bind_some, q4, Option.bind_some, Option.bind_some, x_wDe (by decide) hs (by omega), Option.bind_some]
  have u52 : ∀ w4 : Nat, s_SeriesBook_enter_52 g (S + oSb n 0 s) (some p) (zi w4) 1 (cW S n C ρ) = some (cW S n (cSI (cSL (cSN C (oFa n 0 s) k (3 - u)) (oCe n 0 s) k ct) (oDe n 0 s) k dt) ρ) := by
    intro w4
    have hu2 : u = 0 ∨ u = 1 := by omega
    unfold s_SeriesBook_enter_52
    rw [if_neg (show ¬ (1 : Int32) = 0 by decide), Option.bind_some, q1, Option.bind_some, x_gSb4 (by decide) hs, Option.bind_some, q2, Option.bind_some, e0]
    rcases hu2 with rfl | rfl
    · rw [if_pos (show zi 0 = 0 from rfl)]
      exact fin 3 w4 1
    · rw [if_neg (show ¬ zi 1 = 0 by decide)]
      exact fin 2 w4 1
  have n52 : ∀ w4 : Int32, s_SeriesBook_enter_52 g (S + oSb n 0 s) (some p) w4 0 (cW S n C ρ) = some (cW S n C ρ) := by
    intro w4
    unfold s_SeriesBook_enter_52
    rw [if_pos rfl]
  have u39 : ∀ w4 : Nat, s_SeriesBook_enter_39 g (S + oSb n 0 s) (some p) (zi w4) (cW S n C ρ) = if C.1 (oSb n 0 s) 0 = 2 then some (cW S n C ρ) else some (cW S n (cSI (cSL (cSN C (oFa n 0 s) k (3 - u)) (oCe n 0 s) k ct) (oDe n 0 s) k dt) ρ) := by
    intro w4
    unfold s_SeriesBook_enter_39 s_SeriesBook_enter_51
    rw [x_gSb0 (by decide) hs, Option.bind_some, n52, u52]
    by_cases h : C.1 (oSb n 0 s) 0 = 2
    · rw [if_pos (by rw [f0]; exact h), if_pos h]
    · rw [if_neg (by rw [f0]; exact h), if_neg h]
  have hu2 : u = 0 ∨ u = 1 := by omega
  unfold s_SeriesBook_enter cEn
  rw [Option.bind_some, q1, Option.bind_some, x_isSb (by decide) hs, Option.bind_some, Y_fateO hs hg hk, Option.bind_some]
  dsimp only
  rw [q2, Option.bind_some]
  rcases hu2 with rfl | rfl
  · rw [if_pos (show zi 0 = 0 from rfl)]
    by_cases h1 : C.1 (oFa n 0 s) k = 1
    · rw [if_pos (by rw [f1]; exact h1), u39]
      by_cases h2 : C.1 (oSb n 0 s) 0 = 2
      · rw [if_pos h2, if_neg (fun q => by omega)]
      · rw [if_neg h2, if_pos (Or.inr ⟨rfl, Or.inl h1, h2⟩)]
    · rw [if_neg (by rw [f1]; exact h1)]
      by_cases h3 : C.1 (oFa n 0 s) k = 2
      · rw [if_pos (by rw [f2]; exact h3), u39]
        by_cases h2 : C.1 (oSb n 0 s) 0 = 2
        · rw [if_pos h2, if_neg (fun q => by omega)]
        · rw [if_neg h2, if_pos (Or.inr ⟨rfl, Or.inr h3, h2⟩)]
      · rw [if_neg (by rw [f2]; exact h3), if_neg (fun q => by omega)]
        unfold s_SeriesBook_enter_51
        rw [n52]
  · rw [if_neg (show ¬ zi 1 = 0 by decide)]
    by_cases h1 : C.1 (oFa n 0 s) k = 1
    · rw [if_pos (by rw [f1]; exact h1), u52, if_pos (Or.inl ⟨rfl, h1⟩)]
    · rw [if_neg (by rw [f1]; exact h1), n52, if_neg (fun q => by omega)]
end COFF3
