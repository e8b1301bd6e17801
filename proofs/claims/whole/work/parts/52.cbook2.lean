section CBOOK2
variable {g : zG} {e S F n i s b : Nat} {C C' : cS} {ρ ρ' : zS} {f f' : Nat → Nat → Nat} {en eu : Nat → Nat} {ec : Nat → Int64} {ed : Nat → Int32}
theorem zi_s1 {a : Nat} : zi (a + 1) - 1 = zi a := by
  rw [zi_l1, zi_sub (by omega), Nat.add_sub_cancel]
theorem zi_0m : zi 0 - 1 < 0 := by decide
theorem zi_0n : zi 0 + -1 < 0 := by decide
/-- does the date fit: by the latest use of a number in lo .. hi - 1, among the first t events -/
def dFt (en eu : Nat → Nat) (ed : Nat → Int32) (lo hi : Nat) (d : Int32) : Nat → Nat
  | 0 => 1
  | t + 1 => if eu t = 1 ∧ lo ≤ en t ∧ en t < hi then (if d < ed t then 0 else 1) else dFt en eu ed lo hi d t
theorem Y_fits15 {p x c : Nat} {d : Int32} (h : LLs e S F n C ρ f) (hi : i < n) (hs : s < 3) (hB : isBlk F ρ p x c) (hx : x + c ≤ 1000) (hE : ∀ t, t < C.1 (oLs i s 1) 1 → isEv F ρ (f (oLs i s 1) t) (en t) (eu t) (ec t) (ed t) ∧ eu t < 2 ∧ en t ≤ 1000) : ∀ (t fuel : Nat), t ≤ C.1 (oLs i s 1) 1 → t < fuel → s_BranchSeries_dateFits_15 g fuel (S + oBs i s) d (some p) (zi t - 1) (cW S n C ρ) = some (zi (dFt en eu ed x (x + c) d t), cW S n C ρ) := by
  have hF := h.1.2.1
  have q0 := (h.2.1 _ (ck_Ls hi hs (show 1 < 2 by decide)) (lt_Ls hi hs (by decide))).1
  intro t
  induction t with
  | zero =>
    intro fuel h1 h2
    obtain ⟨fuel, rfl⟩ : ∃ k, fuel = k + 1 := ⟨fuel - 1, by omega⟩
    unfold s_BranchSeries_dateFits_15
    rw [if_pos zi_0m]
    rfl
  | succ t ih =>
    intro fuel h1 h2
    obtain ⟨fuel, rfl⟩ : ∃ k, fuel = k + 1 := ⟨fuel - 1, by omega⟩
    obtain ⟨hev, hu, hn⟩ := hE t (by omega)
    have q1 := L_get (g := g) h (ck_Ls hi hs (show 1 < 2 by decide)) (lt_Ls hi hs (by decide)) (show t < C.1 (oLs i s 1) 1 by omega)
    have q2 := dOb.is (C := C) hev hF
    have q3 : zgI (cW S n C ρ) (f (oLs i s 1) t) 10 0 = some (zi (en t)) := dOb.gI hev hF rfl
    have q4 : zgI (cW S n C ρ) (f (oLs i s 1) t) 10 1 = some (zi (eu t)) := dOb.gI hev hF rfl
    have q5 : zgI (cW S n C ρ) (f (oLs i s 1) t) 10 3 = some (ed t) := dOb.gI hev hF rfl
    have q6 := dOb.is (C := C) hB hF
    have q7 := Y_holds (g := g) (C := C) (y := zi (en t)) hF hB (by omega)
    have q8 : (zi x ≤ zi (en t) ∧ zi (en t) < zi (x + c)) = (x ≤ en t ∧ en t < x + c) := by
      rw [zi_le (by omega) (by omega), zi_lt (by omega) (by omega)]
    have ih2 := ih fuel (by omega) (by omega)
    have e1 : zi t + -1 = zi t - 1 := (Int32.sub_eq_add_neg (zi t) 1).symm
    unfold s_BranchSeries_dateFits_15
    rw [zi_s1, if_neg (fun q => by rw [zi_lt0 (by omega)] at q; exact q)]
    simp only [x_gBs1 hi hs, x_isLs hi hs (show 1 < 2 by decide), Option.bind_some, q1, q2, q3, q4, q5, q6, q7, s_BranchSeries_dateFits_71, e1, ih2]
    rw [dFt]
    by_cases h3 : eu t = 1
    · rw [h3, if_neg (show ¬ zi 1 = 0 by decide)]
      by_cases h4 : x ≤ en t ∧ en t < x + c
      · have h4' : zi x ≤ zi (en t) ∧ zi (en t) < zi (x + c) := by rw [q8]; exact h4
        rw [if_pos h4', if_neg (show ¬ zi 1 = 0 by decide), if_pos (show 1 = 1 ∧ x ≤ en t ∧ en t < x + c from ⟨rfl, h4⟩)]
        unfold s_BranchSeries_dateFits_70
        by_cases h5 : d < ed t
        · rw [if_pos h5, if_pos h5]
          rfl
        · rw [if_neg h5, if_neg h5]
          rfl
      · have h4' : ¬ (zi x ≤ zi (en t) ∧ zi (en t) < zi (x + c)) := by rw [q8]; exact h4
        rw [if_neg h4', if_pos (show zi 0 = 0 from rfl), if_neg (fun q => h4 q.2)]
    · have h3' : eu t = 0 := by omega
      rw [h3', if_pos (show zi 0 = 0 from rfl), if_neg (fun q => by omega)]
theorem Y_fits {x c : Nat} {d : Int32} (h : LLs e S F n C ρ f) (hi : i < n) (hs : s < 3) (hb : C.1 (oBs i s) 2 < C.1 (oLs i s 0) 1) (hB : isBlk F ρ (f (oLs i s 0) (C.1 (oBs i s) 2)) x c) (hx : x + c ≤ 1000) (hE : ∀ t, t < C.1 (oLs i s 1) 1 → isEv F ρ (f (oLs i s 1) t) (en t) (eu t) (ec t) (ed t) ∧ eu t < 2 ∧ en t ≤ 1000) : s_BranchSeries_dateFits g (S + oBs i s) d (cW S n C ρ) = some (zi (dFt en eu ed x (x + c) d (C.1 (oLs i s 1) 1)), cW S n C ρ) := by
  have q0 := (h.2.1 _ (ck_Ls hi hs (show 0 < 2 by decide)) (lt_Ls hi hs (by decide))).1
  have q02 := (h.2.1 _ (ck_Ls hi hs (show 1 < 2 by decide)) (lt_Ls hi hs (by decide))).1
  have q := Y_next (g := g) h hi hs (by omega) hb hB
  have q2 := Y_fits15 (g := g) (d := d) h hi hs hB hx hE (C.1 (oLs i s 1) 1) zfuel (Nat.le_refl _) (by unfold zfuel; omega)
  unfold s_BranchSeries_dateFits
  simp only [x_isBs hi hs, x_gBs1 hi hs, x_isLs hi hs (show 1 < 2 by decide), s_ArrayList_size, x_gLs1 hi hs (show 1 < 2 by decide), Option.bind_some, q, q2]
theorem Y_fits0 {d : Int32} (h : LLs e S F n C ρ f) (hi : i < n) (hs : s < 3) (h6 : C.1 (oBs i s) 2 < 2147483648) (hb : C.1 (oLs i s 0) 1 ≤ C.1 (oBs i s) 2) : s_BranchSeries_dateFits g (S + oBs i s) d (cW S n C ρ) = some (zi 1, cW S n C ρ) := by
  have q := Y_next0 (g := g) h hi hs h6 hb
  have q3 : ∀ x : Int32, s_BranchSeries_dateFits_15 g zfuel (S + oBs i s) d none x (cW S n C ρ) = some (zi 1, cW S n C ρ) := by
    intro x
    have : zfuel = 1048575 + 1 := rfl
    rw [this]
    unfold s_BranchSeries_dateFits_15
    split <;> rfl
  unfold s_BranchSeries_dateFits
  simp only [x_isBs hi hs, x_gBs1 hi hs, x_isLs hi hs (show 1 < 2 by decide), s_ArrayList_size, x_gLs1 hi hs (show 1 < 2 by decide), Option.bind_some, q, q3]
/-- the fate of a number by the latest of the first t events; w if none speaks of it -/
def fEv (en eu : Nat → Nat) (v : Int32) (w : Nat) : Nat → Nat
  | 0 => w
  | t + 1 => if zi (en t) = v then (if eu t = 0 then 3 else 2) else fEv en eu v w t
def fBk (bf bc : Nat → Nat) (v : Int32) : Nat → Nat
  | 0 => 0
  | b + 1 => if zi (bf b) ≤ v ∧ v < zi (bf b + bc b) then 1 else fBk bf bc v b
theorem fBk_1 {bf bc : Nat → Nat} {v : Int32} {N b : Nat} (hb : b < N) (h : zi (bf b) ≤ v ∧ v < zi (bf b + bc b)) : fBk bf bc v N = 1 := by
  induction N with
  | zero => omega
  | succ N ih =>
    rw [fBk]
    by_cases h1 : zi (bf N) ≤ v ∧ v < zi (bf N + bc N)
    · rw [if_pos h1]
    · rw [if_neg h1]
      refine ih ?_
      have : ¬ b = N := by
        intro q
        subst q
        exact h1 h
      omega
theorem fBk_0 {bf bc : Nat → Nat} {v : Int32} {N : Nat} (h : ∀ b, b < N → ¬ (zi (bf b) ≤ v ∧ v < zi (bf b + bc b))) : fBk bf bc v N = 0 := by
  induction N with
  | zero => rfl
  | succ N ih =>
    rw [fBk, if_neg (h N (by omega))]
    exact ih (fun b hb => h b (by omega))
theorem Y_fate55 {v : Int32} {bf bc : Nat → Nat} (h : LLs e S F n C ρ f) (hi : i < n) (hs : s < 3) (hB : ∀ b, b < C.1 (oLs i s 0) 1 → isBlk F ρ (f (oLs i s 0) b) (bf b) (bc b) ∧ bf b + bc b ≤ 1000) : ∀ (m k fuel : Nat), k + m = C.1 (oLs i s 0) 1 → m < fuel → (∀ b, b < k → ¬ (zi (bf b) ≤ v ∧ v < zi (bf b + bc b))) → s_BranchSeries_fateOf_55 g fuel (S + oBs i s) v (zi k) (cW S n C ρ) = some (zi (fBk bf bc v (C.1 (oLs i s 0) 1)), cW S n C ρ) := by
  have hF := h.1.2.1
  have q0 := (h.2.1 _ (ck_Ls hi hs (show 0 < 2 by decide)) (lt_Ls hi hs (by decide))).1
  intro m
  induction m with
  | zero =>
    intro k fuel h1 h2 h3
    obtain ⟨fuel, rfl⟩ : ∃ k, fuel = k + 1 := ⟨fuel - 1, by omega⟩
    have e1 : k = C.1 (oLs i s 0) 1 := by omega
    have e2 : zi (C.1 (oLs i s 0) 1) ≤ zi k := by rw [e1]; exact Int32.le_refl _
    unfold s_BranchSeries_fateOf_55
    simp only [x_gBs0 hi hs, x_isLs hi hs (show 0 < 2 by decide), s_ArrayList_size, x_gLs1 hi hs (show 0 < 2 by decide), Option.bind_some, if_pos e2]
    rw [fBk_0 (fun b hb => h3 b (by omega))]
    rfl
  | succ m ih =>
    intro k fuel h1 h2 h3
    obtain ⟨fuel, rfl⟩ : ∃ k, fuel = k + 1 := ⟨fuel - 1, by omega⟩
    obtain ⟨hb, hx⟩ := hB k (by omega)
    have q1 := L_get (g := g) h (ck_Ls hi hs (show 0 < 2 by decide)) (lt_Ls hi hs (by decide)) (show k < C.1 (oLs i s 0) 1 by omega)
    have q2 := dOb.is (C := C) hb hF
    have q7 := Y_holds (g := g) (C := C) (y := v) hF hb (by omega)
    have e2 : ¬ zi (C.1 (oLs i s 0) 1) ≤ zi k := by
      rw [zi_le (by omega) (by omega)]
      omega
    unfold s_BranchSeries_fateOf_55
    simp only [x_gBs0 hi hs, x_isLs hi hs (show 0 < 2 by decide), s_ArrayList_size, x_gLs1 hi hs (show 0 < 2 by decide), Option.bind_some, if_neg e2, q1, q2, q7]
    by_cases h4 : zi (bf k) ≤ v ∧ v < zi (bf k + bc k)
    · rw [if_pos h4, if_neg (show ¬ zi 1 = 0 by decide), fBk_1 (show k < C.1 (oLs i s 0) 1 by omega) h4]
      rfl
    · rw [if_neg h4, if_pos (show zi 0 = 0 from rfl), zi_l1, zi_add]
      refine ih (k + 1) fuel (by omega) (by omega) (fun b hb => ?_)
      by_cases hbk : b = k
      · subst hbk
        exact h4
      · exact h3 b (by omega)
theorem Y_fate10 {v : Int32} {bf bc : Nat → Nat} (h : LLs e S F n C ρ f) (hi : i < n) (hs : s < 3) (hB : ∀ b, b < C.1 (oLs i s 0) 1 → isBlk F ρ (f (oLs i s 0) b) (bf b) (bc b) ∧ bf b + bc b ≤ 1000) (hE : ∀ t, t < C.1 (oLs i s 1) 1 → isEv F ρ (f (oLs i s 1) t) (en t) (eu t) (ec t) (ed t) ∧ eu t < 2) : ∀ (t fuel : Nat), t ≤ C.1 (oLs i s 1) 1 → t < fuel → s_BranchSeries_fateOf_10 g fuel (S + oBs i s) v (zi t - 1) (cW S n C ρ) = some (zi (fEv en eu v (fBk bf bc v (C.1 (oLs i s 0) 1)) t), cW S n C ρ) := by
  have hF := h.1.2.1
  have q0 := (h.2.1 _ (ck_Ls hi hs (show 1 < 2 by decide)) (lt_Ls hi hs (by decide))).1
  have q00 := (h.2.1 _ (ck_Ls hi hs (show 0 < 2 by decide)) (lt_Ls hi hs (by decide))).1
  intro t
  induction t with
  | zero =>
    intro fuel h1 h2
    obtain ⟨fuel, rfl⟩ : ∃ k, fuel = k + 1 := ⟨fuel - 1, by omega⟩
    unfold s_BranchSeries_fateOf_10
    rw [if_pos zi_0m]
    have z := Y_fate55 (g := g) (v := v) h hi hs hB (C.1 (oLs i s 0) 1) 0 zfuel (by omega) (by unfold zfuel; omega) (fun b hb => by omega)
    rw [← zi_l0] at z
    rw [z]
    rfl
  | succ t ih =>
    intro fuel h1 h2
    obtain ⟨fuel, rfl⟩ : ∃ k, fuel = k + 1 := ⟨fuel - 1, by omega⟩
    obtain ⟨hev, hu⟩ := hE t (by omega)
    have q1 := L_get (g := g) h (ck_Ls hi hs (show 1 < 2 by decide)) (lt_Ls hi hs (by decide)) (show t < C.1 (oLs i s 1) 1 by omega)
    have q2 := dOb.is (C := C) hev hF
    have q3 : zgI (cW S n C ρ) (f (oLs i s 1) t) 10 0 = some (zi (en t)) := dOb.gI hev hF rfl
    have q4 : zgI (cW S n C ρ) (f (oLs i s 1) t) 10 1 = some (zi (eu t)) := dOb.gI hev hF rfl
    have ih2 := ih fuel (by omega) (by omega)
    have e1 : zi t + -1 = zi t - 1 := (Int32.sub_eq_add_neg (zi t) 1).symm
    unfold s_BranchSeries_fateOf_10
    rw [zi_s1, if_neg (fun q => by rw [zi_lt0 (by omega)] at q; exact q)]
    simp only [x_gBs1 hi hs, x_isLs hi hs (show 1 < 2 by decide), Option.bind_some, q1, q2, q3, q4, e1, ih2]
    rw [fEv]
    by_cases h3 : zi (en t) = v
    · rw [if_pos h3, if_pos h3]
      by_cases h4 : eu t = 0
      · rw [h4, if_pos (show zi 0 = 0 from rfl), if_pos rfl]
        rfl
      · have h5 : eu t = 1 := by omega
        rw [h5, if_neg (show ¬ zi 1 = 0 by decide), if_neg (by decide)]
        rfl
    · rw [if_neg h3, if_neg h3]
theorem Y_fate {v : Int32} {bf bc : Nat → Nat} (h : LLs e S F n C ρ f) (hi : i < n) (hs : s < 3) (hB : ∀ b, b < C.1 (oLs i s 0) 1 → isBlk F ρ (f (oLs i s 0) b) (bf b) (bc b) ∧ bf b + bc b ≤ 1000) (hE : ∀ t, t < C.1 (oLs i s 1) 1 → isEv F ρ (f (oLs i s 1) t) (en t) (eu t) (ec t) (ed t) ∧ eu t < 2) : s_BranchSeries_fateOf g (S + oBs i s) v (cW S n C ρ) = some (zi (fEv en eu v (fBk bf bc v (C.1 (oLs i s 0) 1)) (C.1 (oLs i s 1) 1)), cW S n C ρ) := by
  have hF := h.1.2.1
  have q0 := (h.2.1 _ (ck_Ls hi hs (show 1 < 2 by decide)) (lt_Ls hi hs (by decide))).1
  have q00 := (h.2.1 _ (ck_Ls hi hs (show 0 < 2 by decide)) (lt_Ls hi hs (by decide))).1
  have hz : C.1 (oLs i s 1) 1 < zfuel := by unfold zfuel; omega
  have kk := Y_fate10 (g := g) (v := v) h hi hs hB hE (C.1 (oLs i s 1) 1) zfuel (Nat.le_refl _) hz
  have q1 := x_gBs1 (S := S) (C := C) (ρ := ρ) hi hs
  have q2 := L_size (g := g) (S := S) (C := C) (ρ := ρ) (ck_Ls hi hs (show 1 < 2 by decide)) (lt_Ls hi hs (by decide))
  have q3 := x_isLs (S := S) (C := C) (ρ := ρ) hi hs (show 1 < 2 by decide)
  unfold s_BranchSeries_fateOf
  rw [q1, Option.bind_some, Option.bind_some, q3, Option.bind_some, q2, Option.bind_some]
  exact kk
end CBOOK2
