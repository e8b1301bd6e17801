/-! rows of the office's books copied whole -/
def cCpN (C : cS) (a b : Nat) : cS := (fun x k => if x = b ∧ k < 300 then C.1 a k else C.1 x k, C.2)
def cCpI (C : cS) (a b : Nat) : cS := (C.1, fun x k => if x = b ∧ k < 300 then C.2.1 a k else C.2.1 x k, C.2.2)
def cCpL (C : cS) (a b : Nat) : cS := (C.1, C.2.1, fun x k => if x = b ∧ k < 300 then C.2.2.1 a k else C.2.2.1 x k, C.2.2.2)
section COFF
variable {g : zG} {e S F n i s b a o c d k : Nat} {C C' : cS} {ρ ρ' : zS} {f f' : Nat → Nat → Nat}
theorem cCpN_at {x : Nat} : (cCpN C a b).1 x k = if x = b ∧ k < 300 then C.1 a k else C.1 x k := rfl
theorem cCpN_2 : (cCpN C a b).2 = C.2 := rfl
theorem cCpI_1 : (cCpI C a b).1 = C.1 := rfl
theorem cCpI_at {x : Nat} : (cCpI C a b).2.1 x k = if x = b ∧ k < 300 then C.2.1 a k else C.2.1 x k := rfl
theorem cCpI_22 : (cCpI C a b).2.2 = C.2.2 := rfl
theorem cCpL_1 : (cCpL C a b).1 = C.1 := rfl
theorem cCpL_21 : (cCpL C a b).2.1 = C.2.1 := rfl
theorem cCpL_at {x : Nat} : (cCpL C a b).2.2.1 x k = if x = b ∧ k < 300 then C.2.2.1 a k else C.2.2.1 x k := rfl
theorem cCpL_222 : (cCpL C a b).2.2.2 = C.2.2.2 := rfl
theorem cc_ext {X Y : cS} {o : Nat} (h1 : X.1 o = Y.1 o) (h2 : X.2.1 o = Y.2.1 o) (h3 : X.2.2.1 o = Y.2.2.1 o) (h4 : X.2.2.2 o = Y.2.2.2 o) : ccell S n X o = ccell S n Y o := by
  unfold ccell
  rw [h1, h2, h3, h4]
theorem w300 : ((¬ (0 : Int32) < 0 ∧ ¬ (0 : Int32) < 0 ∧ ¬ (300 : Int32) < 0) ∧ (0 : Int32).toNatClampNeg + (300 : Int32).toNatClampNeg ≤ 300 ∧ (0 : Int32).toNatClampNeg + (300 : Int32).toNatClampNeg ≤ 300) := by decide
theorem cpy300 {α : Type} {u v : Nat → α} : va_cpy u v (0 : Int32).toNatClampNeg (0 : Int32).toNatClampNeg (300 : Int32).toNatClampNeg = fun k => if k < 300 then u k else v k := by
  funext k
  show (if 0 ≤ k ∧ k < 0 + 300 then u (0 + (k - 0)) else v k) = _
  by_cases h : k < 300
  · rw [if_pos (by omega), if_pos h, Nat.zero_add, Nat.sub_zero]
  · rw [if_neg (by omega), if_neg h]
theorem c_cpN (ha : ck n a = 10) (ha2 : a < cF n) (hb : ck n b = 10) (hb2 : b < cF n) : zcpI (cW S n C ρ) .int (S + a) (S + b) 0 0 0 300 = some (cW S n (cCpN C a b) ρ) := by
  unfold zcpI
  rw [c_zar ha2 (cc_N ha), c_zar hb2 (cc_N hb)]
  refine (if_pos ⟨w300, cW_own hb2, fun i _ => rfl⟩).trans ?_
  rw [cpy300]
  refine congrArg some (c_arr hb2 ?_ (fun j hj => ?_))
  · rw [cc_N hb]
    refine congrArg (fun q => Sum.inl (0, 300, Sum.inl q)) ?_
    funext k
    simp only [cCpN_at, true_and]
    split <;> rfl
  · refine cc_ext ?_ rfl rfl rfl
    funext k
    simp only [cCpN_at, hj, false_and, if_false]
theorem c_cpI (ha : ck n a = 12) (ha2 : a < cF n) (hb : ck n b = 12) (hb2 : b < cF n) : zcpI (cW S n C ρ) .int (S + a) (S + b) 0 0 0 300 = some (cW S n (cCpI C a b) ρ) := by
  unfold zcpI
  rw [c_zar ha2 (cc_I ha), c_zar hb2 (cc_I hb)]
  refine (if_pos ⟨w300, cW_own hb2, fun i _ => rfl⟩).trans ?_
  rw [cpy300]
  refine congrArg some (c_arr hb2 ?_ (fun j hj => ?_))
  · rw [cc_I hb]
    refine congrArg (fun q => Sum.inl (0, 300, Sum.inl q)) ?_
    funext k
    simp only [cCpI_at, true_and]
  · refine cc_ext rfl ?_ rfl rfl
    funext k
    simp only [cCpI_at, hj, false_and, if_false]
theorem c_cpL (ha : ck n a = 11) (ha2 : a < cF n) (hb : ck n b = 11) (hb2 : b < cF n) : zcpL (cW S n C ρ) (S + a) (S + b) 1 0 0 300 = some (cW S n (cCpL C a b) ρ) := by
  unfold zcpL
  rw [c_zar ha2 (cc_L ha), c_zar hb2 (cc_L hb)]
  refine (if_pos ⟨w300, cW_own hb2⟩).trans ?_
  rw [cpy300]
  refine congrArg some (c_arr hb2 ?_ (fun j hj => ?_))
  · rw [cc_L hb]
    refine congrArg (fun q => Sum.inl (1, 300, Sum.inr (Sum.inl q))) ?_
    funext k
    simp only [cCpL_at, true_and]
  · refine cc_ext rfl rfl ?_ rfl
    funext k
    simp only [cCpL_at, hj, false_and, if_false]
def cCpB (C : cS) (n c d s : Nat) : cS := cSP (cCpI (cCpL (cCpN (cCpN (cSN (cSN (cSN C (oSb n d s) 0 (C.1 (oSb n c s) 0)) (oSb n d s) 1 (C.1 (oSb n c s) 1)) (oSb n d s) 2 (C.1 (oSb n c s) 2)) (oHo n c s) (oHo n d s)) (oFa n c s) (oFa n d s)) (oCe n c s) (oCe n d s)) (oDe n c s) (oDe n d s)) (oSb n d s) 7 (C.2.2.2 (oSb n c s) 7)
theorem Y_copyFrom (hc : c < 2) (hd : d < 2) (hcd : ¬ c = d) (hs : s < 3) : s_SeriesBook_copyFrom g (S + oSb n d s) (some (S + oSb n c s)) (cW S n C ρ) = some (cW S n (cCpB C n c d s) ρ) := by
  have k1 : ∀ C : cS, zcpI (cW S n C ρ) .int (S + oHo n c s) (S + oHo n d s) 0 0 0 300 = some (cW S n (cCpN C (oHo n c s) (oHo n d s)) ρ) := fun C => c_cpN (ck_Ho hc hs) (lt_Ho hc hs) (ck_Ho hd hs) (lt_Ho hd hs)
  have k2 : ∀ C : cS, zcpI (cW S n C ρ) .int (S + oFa n c s) (S + oFa n d s) 0 0 0 300 = some (cW S n (cCpN C (oFa n c s) (oFa n d s)) ρ) := fun C => c_cpN (ck_Fa hc hs) (lt_Fa hc hs) (ck_Fa hd hs) (lt_Fa hd hs)
  have k3 : ∀ C : cS, zcpL (cW S n C ρ) (S + oCe n c s) (S + oCe n d s) 1 0 0 300 = some (cW S n (cCpL C (oCe n c s) (oCe n d s)) ρ) := fun C => c_cpL (ck_Ce hc hs) (lt_Ce hc hs) (ck_Ce hd hs) (lt_Ce hd hs)
  have k4 : ∀ C : cS, zcpI (cW S n C ρ) .int (S + oDe n c s) (S + oDe n d s) 0 0 0 300 = some (cW S n (cCpI C (oDe n c s) (oDe n d s)) ρ) := fun C => c_cpI (ck_De hc hs) (lt_De hc hs) (ck_De hd hs) (lt_De hd hs)
  have ne : ¬ oSb n c s = oSb n d s := by
    unfold oSb
    omega
  unfold s_SeriesBook_copyFrom cCpB
  rw [Option.bind_some, x_gSb0 hc hs, Option.bind_some, x_pSb0 hd hs, Option.bind_some, x_gSb1 hc hs, Option.bind_some, x_pSb1 hd hs, Option.bind_some, x_gSb2 hc hs, Option.bind_some, x_pSb2 hd hs, Option.bind_some, x_gSb3 hc hs, Option.bind_some, x_gSb3 hd hs, Option.bind_some, Option.bind_some, Option.bind_some, k1, Option.bind_some, x_gSb4 hc hs, Option.bind_some, x_gSb4 hd hs, Option.bind_some, Option.bind_some, Option.bind_some, k2, Option.bind_some, x_gSb5 hc hs, Option.bind_some, x_gSb5 hd hs, Option.bind_some, Option.bind_some, Option.bind_some, k3, Option.bind_some, x_gSb6 hc hs, Option.bind_some, x_gSb6 hd hs, Option.bind_some, Option.bind_some, Option.bind_some, k4, Option.bind_some, x_gSb7 hc hs, Option.bind_some, x_pSb7 hd hs, Option.bind_some]
  simp only [cSN_at, cSN_222, cCpN_2, cCpI_22, cCpL_222, ne, false_and, if_false]
def cCpA (C : cS) (n c d K : Nat) : cS := (fun x k => if x = oSt n d ∧ k < K then C.1 (oSt n c) k else C.1 x k, C.2.1, C.2.2.1, fun x k => if x = oAn n d ∧ k < K then C.2.2.2 (oAn n c) k else C.2.2.2 x k)
theorem cCpA_s {K : Nat} (hcd : ¬ oSt n c = oSt n d) (hcd2 : ¬ oAn n c = oAn n d) : cSP (cSN (cCpA C n c d K) (oSt n d) K (C.1 (oSt n c) K)) (oAn n d) K (C.2.2.2 (oAn n c) K) = cCpA C n c d (K + 1) := by
  unfold cSP cSN cCpA
  refine Prod.ext ?_ (Prod.ext rfl (Prod.ext rfl ?_))
  · funext x k
    dsimp only
    by_cases h1 : x = oSt n d
    · by_cases h2 : k = K
      · rw [if_pos ⟨h1, h2⟩, if_pos ⟨h1, by omega⟩, h2]
      · rw [if_neg (fun q => h2 q.2)]
        by_cases h3 : k < K
        · rw [if_pos ⟨h1, h3⟩, if_pos ⟨h1, by omega⟩]
        · rw [if_neg (fun q => h3 q.2), if_neg (fun q => by omega)]
    · rw [if_neg (fun q => h1 q.1), if_neg (fun q => h1 q.1), if_neg (fun q => h1 q.1)]
  · funext x k
    dsimp only
    by_cases h1 : x = oAn n d
    · by_cases h2 : k = K
      · rw [if_pos ⟨h1, h2⟩, if_pos ⟨h1, by omega⟩, h2]
      · rw [if_neg (fun q => h2 q.2)]
        by_cases h3 : k < K
        · rw [if_pos ⟨h1, h3⟩, if_pos ⟨h1, by omega⟩]
        · rw [if_neg (fun q => h3 q.2), if_neg (fun q => by omega)]
    · rw [if_neg (fun q => h1 q.1), if_neg (fun q => h1 q.1), if_neg (fun q => h1 q.1)]
/-- every answer that stands in a row is one -/
def ansR (F n : Nat) (C : cS) (ρ : zS) (c : Nat) : Prop := ∀ k, k < n → ∀ p, C.2.2.2 (oAn n c) k = some p → ∃ fs, dOb F ρ p 6 fs
theorem ans_ok {p : Option Nat} (hF : S + cF n ≤ F) (h : ∀ q, p = some q → ∃ fs, dOb F ρ q 6 fs) : zokR (cW S n C ρ) 9 p = true := by
  cases p with
  | none => rfl
  | some q =>
    obtain ⟨fs, h1⟩ := h q rfl
    simp only [zokR, cW_out (Or.inr (Nat.le_trans hF h1.1)), h1.2.2]
    decide
theorem vp_b {a : Nat} (h : a < 2) : vp_nar .boolean (zi a) = zi a := by
  have : a = 0 ∨ a = 1 := by omega
  rcases this with rfl | rfl <;> rfl
theorem Y_save30 (hF : S + cF n ≤ F) (hn : n ≤ 6) (hA : ansR F n C ρ 0) (h2 : ∀ k, k < n → C.1 (oSt n 0) k < 2) : ∀ (m k fuel : Nat), k + m = n → m < fuel → s_Office_save_30 g fuel (S + oOf n) (zi k) (cW S n (cCpA C n 0 1 k) ρ) = some (cW S n (cCpA C n 0 1 n) ρ) := by
  have n1 : ¬ oSt n 0 = oSt n 1 := by unfold oSt; omega
  have n2 : ¬ oAn n 0 = oAn n 1 := by unfold oAn; omega
  intro m
  induction m with
  | zero =>
    intro k fuel h3 h4
    obtain ⟨fuel, rfl⟩ : ∃ k, fuel = k + 1 := ⟨fuel - 1, by omega⟩
    have e1 : k = n := by omega
    subst e1
    rw [s_Office_save_30]
    rw [x_gOf2, Option.bind_some, Option.bind_some, x_lSt (by decide), Option.bind_some, if_pos (Int32.le_refl _)]
  | succ m ih =>
    intro k fuel h3 h4
    obtain ⟨fuel, rfl⟩ : ∃ k, fuel = k + 1 := ⟨fuel - 1, by omega⟩
    have e1 : ¬ zi n ≤ zi k := by
      rw [zi_le (by omega) (by omega)]
      omega
    have e2 : (cCpA C n 0 1 k).1 (oSt n 0) k = C.1 (oSt n 0) k := if_neg (fun q => n1 q.1)
    have e3 : (cSN (cCpA C n 0 1 k) (oSt n 1) k (C.1 (oSt n 0) k)).2.2.2 (oAn n 0) k = C.2.2.2 (oAn n 0) k := if_neg (fun q => n2 q.1)
    have q1 := x_rSt (S := S) (n := n) (C := cCpA C n 0 1 k) (ρ := ρ) (c := 0) (k := k) (by decide) (by omega) hn
    rw [e2] at q1
    have q2 := x_wSt (S := S) (n := n) (C := cCpA C n 0 1 k) (ρ := ρ) (c := 1) (k := k) (v := C.1 (oSt n 0) k) (by decide) (by omega) hn
    have q3 := x_rAn (S := S) (n := n) (C := cSN (cCpA C n 0 1 k) (oSt n 1) k (C.1 (oSt n 0) k)) (ρ := ρ) (c := 0) (k := k) (by decide) (by omega) hn
    rw [e3] at q3
    have q4 := c_wP (S := S) (C := cSN (cCpA C n 0 1 k) (oSt n 1) k (C.1 (oSt n 0) k)) (ρ := ρ) (k := k) (v := C.2.2.2 (oAn n 0) k) (ck_An (n := n) (c := 1) (by decide)) (lt_An (by decide)) (by omega) hn (ans_ok hF (hA k (by omega)))
    rw [cCpA_s n1 n2] at q4
    rw [s_Office_save_30]
    rw [x_gOf2, Option.bind_some, Option.bind_some, x_lSt (by decide), Option.bind_some, if_neg e1, x_gOf3, Option.bind_some, Option.bind_some, Option.bind_some, q1, Option.bind_some, Option.bind_some, vp_b (h2 k (by omega)), q2, Option.bind_some, x_gOf5, Option.bind_some, x_gOf4, Option.bind_some, Option.bind_some, q3, Option.bind_some, Option.bind_some, q4, Option.bind_some, zi_l1, zi_add]
    exact ih (k + 1) fuel (by omega) (by omega)
theorem Y_forget30 (hF : S + cF n ≤ F) (hn : n ≤ 6) (hA : ansR F n C ρ 1) (h2 : ∀ k, k < n → C.1 (oSt n 1) k < 2) : ∀ (m k fuel : Nat), k + m = n → m < fuel → s_Office_forget_30 g fuel (S + oOf n) (zi k) (cW S n (cCpA C n 1 0 k) ρ) = some (cW S n (cCpA C n 1 0 n) ρ) := by
  have n1 : ¬ oSt n 1 = oSt n 0 := by unfold oSt; omega
  have n2 : ¬ oAn n 1 = oAn n 0 := by unfold oAn; omega
  intro m
  induction m with
  | zero =>
    intro k fuel h3 h4
    obtain ⟨fuel, rfl⟩ : ∃ k, fuel = k + 1 := ⟨fuel - 1, by omega⟩
    have e1 : k = n := by omega
    subst e1
    rw [s_Office_forget_30]
    rw [x_gOf2, Option.bind_some, Option.bind_some, x_lSt (by decide), Option.bind_some, if_pos (Int32.le_refl _)]
  | succ m ih =>
    intro k fuel h3 h4
    obtain ⟨fuel, rfl⟩ : ∃ k, fuel = k + 1 := ⟨fuel - 1, by omega⟩
    have e1 : ¬ zi n ≤ zi k := by
      rw [zi_le (by omega) (by omega)]
      omega
    have e2 : (cCpA C n 1 0 k).1 (oSt n 1) k = C.1 (oSt n 1) k := if_neg (fun q => n1 q.1)
    have e3 : (cSN (cCpA C n 1 0 k) (oSt n 0) k (C.1 (oSt n 1) k)).2.2.2 (oAn n 1) k = C.2.2.2 (oAn n 1) k := if_neg (fun q => n2 q.1)
    have q1 := x_rSt (S := S) (n := n) (C := cCpA C n 1 0 k) (ρ := ρ) (c := 1) (k := k) (by decide) (by omega) hn
    rw [e2] at q1
    have q2 := x_wSt (S := S) (n := n) (C := cCpA C n 1 0 k) (ρ := ρ) (c := 0) (k := k) (v := C.1 (oSt n 1) k) (by decide) (by omega) hn
    have q3 := x_rAn (S := S) (n := n) (C := cSN (cCpA C n 1 0 k) (oSt n 0) k (C.1 (oSt n 1) k)) (ρ := ρ) (c := 1) (k := k) (by decide) (by omega) hn
    rw [e3] at q3
    have q4 := c_wP (S := S) (C := cSN (cCpA C n 1 0 k) (oSt n 0) k (C.1 (oSt n 1) k)) (ρ := ρ) (k := k) (v := C.2.2.2 (oAn n 1) k) (ck_An (n := n) (c := 0) (by decide)) (lt_An (by decide)) (by omega) hn (ans_ok hF (hA k (by omega)))
    rw [cCpA_s n1 n2] at q4
    rw [s_Office_forget_30]
    rw [x_gOf2, Option.bind_some, Option.bind_some, x_lSt (by decide), Option.bind_some, if_neg e1, Option.bind_some, x_gOf3, Option.bind_some, Option.bind_some, q1, Option.bind_some, Option.bind_some, vp_b (h2 k (by omega)), q2, Option.bind_some, x_gOf4, Option.bind_some, x_gOf5, Option.bind_some, Option.bind_some, q3, Option.bind_some, Option.bind_some, q4, Option.bind_some, zi_l1, zi_add]
    exact ih (k + 1) fuel (by omega) (by omega)
def cCpO (C : cS) (n c d : Nat) : cS := cCpA (cCpB (cCpB (cCpB C n c d 0) n c d 1) n c d 2) n c d n
theorem Y_saveO_s {N : Nat} (hs : s < 3) : s_Office_save_2 g (N + 1) (S + oOf n) (zi s) (cW S n C ρ) = s_Office_save_2 g N (S + oOf n) (zi (s + 1)) (cW S n (cCpB C n 0 1 s) ρ) := by
  have e1 : ¬ (3 : Int32) ≤ zi s := by
    rw [zi_l3, zi_le (by omega) (by omega)]
    omega
  rw [s_Office_save_2]
  rw [if_neg e1, x_gOf1, Option.bind_some, Option.bind_some, c_aSa1 hs, Option.bind_some, x_gOf0, Option.bind_some, Option.bind_some, c_aSa0 hs, Option.bind_some, Option.bind_some, x_isSb (by decide) hs, Option.bind_some, Y_copyFrom (by decide) (by decide) (by decide) hs, Option.bind_some, zi_l1, zi_add]
theorem Y_forgetO_s {N : Nat} (hs : s < 3) : s_Office_forget_2 g (N + 1) (S + oOf n) (zi s) (cW S n C ρ) = s_Office_forget_2 g N (S + oOf n) (zi (s + 1)) (cW S n (cCpB C n 1 0 s) ρ) := by
  have e1 : ¬ (3 : Int32) ≤ zi s := by
    rw [zi_l3, zi_le (by omega) (by omega)]
    omega
  rw [s_Office_forget_2]
  rw [if_neg e1, x_gOf0, Option.bind_some, Option.bind_some, c_aSa0 hs, Option.bind_some, x_gOf1, Option.bind_some, Option.bind_some, c_aSa1 hs, Option.bind_some, Option.bind_some, x_isSb (by decide) hs, Option.bind_some, Y_copyFrom (by decide) (by decide) (by decide) hs, Option.bind_some, zi_l1, zi_add]
theorem cCpA_0 : cCpA C n c d 0 = C := by
  unfold cCpA
  refine Prod.ext ?_ (Prod.ext rfl (Prod.ext rfl ?_))
  · funext x k
    exact if_neg (fun q => Nat.not_lt_zero _ q.2)
  · funext x k
    exact if_neg (fun q => Nat.not_lt_zero _ q.2)
theorem cCpB_fr {x : Nat} (h1 : ∀ s, s < 3 → ¬ x = oSb n d s ∧ ¬ x = oHo n d s ∧ ¬ x = oFa n d s ∧ ¬ x = oCe n d s ∧ ¬ x = oDe n d s) (hs : s < 3) : same4 C (cCpB C n c d s) x := by
  obtain ⟨a1, a2, a3, a4, a5⟩ := h1 s hs
  refine ⟨?_, ?_, ?_, ?_⟩
  · funext k
    simp only [cCpB, cSP_1, cCpI_1, cCpL_1, cCpN_at, cSN_at, a1, a2, a3, false_and, if_false]
  · funext k
    simp only [cCpB, cSP_21, cCpI_at, cCpL_21, cCpN_2, cSN_21, a5, false_and, if_false]
  · funext k
    simp only [cCpB, cSP_221, cCpI_22, cCpL_at, cCpN_2, cSN_221, a4, false_and, if_false]
  · funext k
    simp only [cCpB, cSP_at, cCpI_22, cCpL_222, cCpN_2, cSN_222, a1, false_and, if_false]
theorem same4.trans {C'' : cS} {j : Nat} (h1 : same4 C C' j) (h2 : same4 C' C'' j) : same4 C C'' j :=
  ⟨by rw [h2.1, h1.1], by rw [h2.2.1, h1.2.1], by rw [h2.2.2.1, h1.2.2.1], by rw [h2.2.2.2, h1.2.2.2]⟩
theorem cCpB3_fr {x : Nat} (h1 : ∀ s, s < 3 → ¬ x = oSb n d s ∧ ¬ x = oHo n d s ∧ ¬ x = oFa n d s ∧ ¬ x = oCe n d s ∧ ¬ x = oDe n d s) : same4 C (cCpB (cCpB (cCpB C n c d 0) n c d 1) n c d 2) x :=
  ((cCpB_fr h1 (by decide)).trans (cCpB_fr h1 (by decide))).trans (cCpB_fr h1 (by decide))
theorem st_ne {c : Nat} (hc : c < 2) (hd : d < 2) : ∀ s, s < 3 → ¬ oSt n c = oSb n d s ∧ ¬ oSt n c = oHo n d s ∧ ¬ oSt n c = oFa n d s ∧ ¬ oSt n c = oCe n d s ∧ ¬ oSt n c = oDe n d s := by
  intro s hs
  unfold oSt oSb oHo oFa oCe oDe
  omega
theorem an_ne {c : Nat} (hc : c < 2) (hd : d < 2) : ∀ s, s < 3 → ¬ oAn n c = oSb n d s ∧ ¬ oAn n c = oHo n d s ∧ ¬ oAn n c = oFa n d s ∧ ¬ oAn n c = oCe n d s ∧ ¬ oAn n c = oDe n d s := by
  intro s hs
  unfold oAn oSb oHo oFa oCe oDe
  omega
theorem Y_saveO (hF : S + cF n ≤ F) (hn : n ≤ 6) (hA : ansR F n C ρ 0) (h2 : ∀ k, k < n → C.1 (oSt n 0) k < 2) : s_Office_save g (S + oOf n) (cW S n C ρ) = some (cW S n (cCpO C n 0 1) ρ) := by
  obtain ⟨N, hN⟩ : ∃ N, zfuel = N + 1 + 1 + 1 + 1 := ⟨1048572, rfl⟩
  have b1 := cCpB3_fr (C := C) (n := n) (c := 0) (d := 1) (st_ne (c := 0) (by decide) (by decide))
  have b2 := cCpB3_fr (C := C) (n := n) (c := 0) (d := 1) (an_ne (c := 0) (by decide) (by decide))
  have q := Y_save30 (g := g) (C := cCpB (cCpB (cCpB C n 0 1 0) n 0 1 1) n 0 1 2) (ρ := ρ) hF hn (fun k hk p hp => hA k hk p (by rw [b2.2.2.2] at hp; exact hp)) (fun k hk => by rw [b1.1]; exact h2 k hk) n 0 zfuel (by omega) (by unfold zfuel; omega)
  rw [cCpA_0] at q
  unfold s_Office_save
  rw [hN, zi_l0, Y_saveO_s (by decide), Y_saveO_s (by decide), Y_saveO_s (by decide), s_Office_save_2, if_pos (show (3 : Int32) ≤ zi (0 + 1 + 1 + 1) by decide)]
  exact q
theorem Y_forgetO (hF : S + cF n ≤ F) (hn : n ≤ 6) (hA : ansR F n C ρ 1) (h2 : ∀ k, k < n → C.1 (oSt n 1) k < 2) : s_Office_forget g (S + oOf n) (cW S n C ρ) = some (cW S n (cCpO C n 1 0) ρ) := by
  obtain ⟨N, hN⟩ : ∃ N, zfuel = N + 1 + 1 + 1 + 1 := ⟨1048572, rfl⟩
  have b1 := cCpB3_fr (C := C) (n := n) (c := 1) (d := 0) (st_ne (c := 1) (by decide) (by decide))
  have b2 := cCpB3_fr (C := C) (n := n) (c := 1) (d := 0) (an_ne (c := 1) (by decide) (by decide))
  have q := Y_forget30 (g := g) (C := cCpB (cCpB (cCpB C n 1 0 0) n 1 0 1) n 1 0 2) (ρ := ρ) hF hn (fun k hk p hp => hA k hk p (by rw [b2.2.2.2] at hp; exact hp)) (fun k hk => by rw [b1.1]; exact h2 k hk) n 0 zfuel (by omega) (by unfold zfuel; omega)
  rw [cCpA_0] at q
  unfold s_Office_forget
  rw [hN, zi_l0, Y_forgetO_s (by decide), Y_forgetO_s (by decide), Y_forgetO_s (by decide), s_Office_forget_2, if_pos (show (3 : Int32) ≤ zi (0 + 1 + 1 + 1) by decide)]
  exact q
end COFF
