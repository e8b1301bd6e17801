section CBOOK3
variable {g : zG} {e S F n i s b : Nat} {C C' : cS} {ρ ρ' : zS} {f f' : Nat → Nat → Nat} {en eu : Nat → Nat} {ec : Nat → Int64} {ed : Nat → Int32}
def gEv (f : Nat → Nat → Nat) (o r c : Nat) : Nat → Option Nat := fun k => if k < c then some (f o (r + k)) else none
theorem gEv_0 {o r : Nat} : gEv f o r 0 = fun _ => none := by
  funext k
  exact if_neg (Nat.not_lt_zero _)
theorem gEv_s {o r c : Nat} : va_up (gEv f o r c) c (some (f o (r + c))) = gEv f o r (c + 1) := by
  funext k
  unfold va_up gEv
  by_cases h : k = c
  · subst h
    rw [if_pos rfl, if_pos (by omega)]
  · rw [if_neg h]
    by_cases h2 : k < c
    · rw [if_pos h2, if_pos (by omega)]
    · rw [if_neg h2, if_neg (by omega)]
theorem Y_evL21 {c : Nat} (h : LLs e S F n C ρ f) (hi : i < n) (hs : s < 3) (hc : c ≤ 30) (hr : C.1 (oBs i s) 4 + c ≤ C.1 (oLs i s 1) 1) (hE : ∀ t, t < C.1 (oLs i s 1) 1 → isEv F ρ (f (oLs i s 1) t) (en t) (eu t) (ec t) (ed t)) : ∀ (m k fuel : Nat), k + m = c → m < fuel → s_BranchSeries_eventsForLetter_21 g fuel (S + oBs i s) (zi c) (some ρ.1) (zi k) (cW S n C (znew ρ c (.inl (11, c, rfs (gEv f (oLs i s 1) (C.1 (oBs i s) 4) k))))) = some (some ρ.1, cW S n C (znew ρ c (.inl (11, c, rfs (gEv f (oLs i s 1) (C.1 (oBs i s) 4) c))))) := by
  have hF := h.1.2.1
  have hF2 := h.1.2.2.1
  have q0 := (h.2.1 _ (ck_Ls hi hs (show 1 < 2 by decide)) (lt_Ls hi hs (by decide))).1
  intro m
  induction m with
  | zero =>
    intro k fuel h1 h2
    obtain ⟨fuel, rfl⟩ : ∃ k, fuel = k + 1 := ⟨fuel - 1, by omega⟩
    have e1 : k = c := by omega
    subst e1
    unfold s_BranchSeries_eventsForLetter_21
    rw [if_pos (Int32.le_refl _)]
  | succ m ih =>
    intro k fuel h1 h2
    obtain ⟨fuel, rfl⟩ : ∃ k, fuel = k + 1 := ⟨fuel - 1, by omega⟩
    have hev := hE (C.1 (oBs i s) 4 + k) (by omega)
    generalize hG : gEv f (oLs i s 1) (C.1 (oBs i s) 4) k = G at *
    have hL := h.new (k := c) (y := .inl (11, c, rfs G))
    have q1 := L_get (g := g) hL (ck_Ls hi hs (show 1 < 2 by decide)) (lt_Ls hi hs (by decide)) (show C.1 (oBs i s) 4 + k < C.1 (oLs i s 1) 1 by omega)
    have hev2 := dOb.mono hev (dX.new (k := c) (y := .inl (11, c, rfs G)))
    have q2 := dOb.is (C := C) hev2 hF
    have cl : (znew ρ c (.inl (11, c, rfs G))).2.2 ρ.1 = some (true, .inl (11, c, rfs G)) := by
      simp only [znew, va_up, if_true]
    have hout : ρ.1 < S ∨ S + cF n ≤ ρ.1 := Or.inr (by omega)
    have q3 : zsR (cW S n C (znew ρ c (.inl (11, c, rfs G)))) ρ.1 11 (zi k) (some (f (oLs i s 1) (C.1 (oBs i s) 4 + k))) = some (cW S n C (znew ρ c (.inl (11, c, rfs (va_up G k (some (f (oLs i s 1) (C.1 (oBs i s) 4 + k)))))))) := by
      have w1 : zar (cW S n C (znew ρ c (.inl (11, c, rfs G)))) ρ.1 11 = some (c, rfs G) := by
        simp only [zar, cW_out hout, cl, if_true]
      have w2 : ¬ (((zi k < 0 ∨ c ≤ (zi k).toNatClampNeg) ∨ zown (cW S n C (znew ρ c (.inl (11, c, rfs G)))) ρ.1 = false) ∨ zokR (cW S n C (znew ρ c (.inl (11, c, rfs G)))) 11 (some (f (oLs i s 1) (C.1 (oBs i s) 4 + k))) = false) := by
        intro q
        rcases q with (q | q) | q
        · exact zi_in (show k < c by omega) (show c ≤ 2147483648 by omega) q
        · rw [d_own cl hout] at q
          cases q
        · have w3 : zokR (cW S n C (znew ρ c (.inl (11, c, rfs G)))) 11 (some (f (oLs i s 1) (C.1 (oBs i s) 4 + k))) = true := by
            simp only [zokR, cW_out (Or.inr (Nat.le_trans hF hev2.1)), hev2.2.2]
            decide
          rw [w3] at q
          cases q
      have w4 := zi_nat (a := k) (by omega)
      unfold zsR
      rw [w1]
      refine (if_neg w2).trans ?_
      rw [w4]
      refine congrArg some ((cW_zupd hout).trans ?_)
      rw [zupd_new]
      rfl
    have e2 : ¬ zi c ≤ zi k := by
      rw [zi_le (by omega) (by omega)]
      omega
    have ih2 := ih (k + 1) fuel (by omega) (by omega)
    rw [← gEv_s, hG] at ih2
    have g1 := x_gBs1 (S := S) (C := C) (ρ := znew ρ c (.inl (11, c, rfs G))) hi hs
    have g4 := x_gBs4 (S := S) (C := C) (ρ := znew ρ c (.inl (11, c, rfs G))) hi hs
    have g5 := x_isLs (S := S) (C := C) (ρ := znew ρ c (.inl (11, c, rfs G))) hi hs (show 1 < 2 by decide)
    unfold s_BranchSeries_eventsForLetter_21
    rw [if_neg e2, g1, Option.bind_some, g4, Option.bind_some, Option.bind_some, g5, Option.bind_some, zi_add, q1, Option.bind_some]
    dsimp only
    rw [Option.bind_some, q2, Option.bind_some, Option.bind_some, q3, Option.bind_some, zi_l1, zi_add]
    exact ih2
theorem Y_evLet (h : LLs e S F n C ρ f) (hi : i < n) (hs : s < 3) (hr : C.1 (oBs i s) 4 ≤ C.1 (oLs i s 1) 1) (hE : ∀ t, t < C.1 (oLs i s 1) 1 → isEv F ρ (f (oLs i s 1) t) (en t) (eu t) (ec t) (ed t)) {c : Nat} (hc : c = min 30 (C.1 (oLs i s 1) 1 - C.1 (oBs i s) 4)) : s_BranchSeries_eventsForLetter g (S + oBs i s) (cW S n C ρ) = some (some ρ.1, cW S n C (znew ρ c (.inl (11, c, rfs (gEv f (oLs i s 1) (C.1 (oBs i s) 4) c))))) := by
  have hF := h.1.2.1
  have hF2 := h.1.2.2.1
  have q0 := (h.2.1 _ (ck_Ls hi hs (show 1 < 2 by decide)) (lt_Ls hi hs (by decide))).1
  have q1 := Y_evL21 (g := g) (c := c) h hi hs (by omega) (by omega) hE c 0 zfuel (by omega) (by unfold zfuel; omega)
  rw [gEv_0] at q1
  have q2 := Y_unrep (g := g) (S := S) (C := C) (ρ := ρ) hi hs hr
  have e1 : (if zi (C.1 (oLs i s 1) 1 - C.1 (oBs i s) 4) < 30 then zi (C.1 (oLs i s 1) 1 - C.1 (oBs i s) 4) else 30) = zi c := by
    rw [zi_l30]
    by_cases hh : C.1 (oLs i s 1) 1 - C.1 (oBs i s) 4 < 30
    · rw [if_pos (by rw [zi_lt (by omega) (by omega)]; exact hh), hc, Nat.min_eq_right (by omega)]
    · rw [if_neg (by rw [zi_lt (by omega) (by omega)]; exact hh), hc, Nat.min_eq_left (by omega)]
  have e2 : (if 0 < zi c then zi c else 0) = zi c := by
    rw [zi_l0]
    by_cases hh : 0 < c
    · rw [if_pos (by rw [zi_lt (by omega) (by omega)]; exact hh)]
    · rw [if_neg (by rw [zi_lt (by omega) (by omega)]; exact hh), show c = 0 by omega]
  have q3 := x_isBs (S := S) (C := C) (ρ := ρ) hi hs
  have hlen : zlen (zi c) = some c := zlen_zi (by omega)
  unfold s_BranchSeries_eventsForLetter
  rw [q3, Option.bind_some, q2, Option.bind_some]
  dsimp only
  rw [e1, Option.bind_some, e2, Option.bind_some, hlen, Option.bind_some, Option.bind_some, cW_znew (Nat.le_trans hF hF2)]
  exact q1
/-- a list cut back to K elements -/
def cut (e S F n o K : Nat) (C : cS) (ρ : zS) (f : Nat → Nat → Nat) (C' : cS) (ρ' : zS) (f' : Nat → Nat → Nat) : Prop := LLs e S F n C' ρ' f' ∧ C'.1 o 1 = K ∧ sameC o C C' ∧ dX ρ ρ' ∧ (ρ'.1 = ρ.1 ∧ ρ'.2.1 = ρ.2.1) ∧ ∀ a j, (a = o → j < K) → f' a j = f a j
theorem cut_10 {K : Nat} (hi : i < n) (hs : s < 3) : ∀ (m : Nat) (C : cS) (ρ : zS) (f : Nat → Nat → Nat), LLs e S F n C ρ f → C.1 (oLs i s 0) 1 = K + m → C.1 (oBs i s) 5 = K → ∃ C' ρ' f', cut e S F n (oLs i s 0) K C ρ f C' ρ' f' ∧ ∀ fuel, s_BranchSeries_forget_10 g (fuel + m) (S + oBs i s) (zi (K + m) - 1) (cW S n C ρ) = s_BranchSeries_forget_10 g fuel (S + oBs i s) (zi K - 1) (cW S n C' ρ') := by
  intro m
  induction m with
  | zero =>
    intro C ρ f h h1 h2
    exact ⟨C, ρ, f, ⟨h, h1, fun _ _ => ⟨rfl, rfl, rfl, rfl⟩, dX.refl, ⟨rfl, rfl⟩, fun _ _ _ => rfl⟩, fun fuel => rfl⟩
  | succ m ih =>
    intro C ρ f h h1 h2
    have q0 := (h.2.1 _ (ck_Ls hi hs (show 0 < 2 by decide)) (lt_Ls hi hs (by decide))).1
    obtain ⟨C1, ρ1, a1, a2, a3, a4, a5, a6, a7⟩ := L_remove (g := g) (i := K + m) h (ck_Ls hi hs (show 0 < 2 by decide)) (lt_Ls hi hs (by decide)) (by omega)
    have hne : ¬ oBs i s = oLs i s 0 := fun q => ne_Bs hi hs (ck_Ls hi hs (show 0 < 2 by decide)) q.symm
    obtain ⟨C2, ρ2, f2, b1, b2⟩ := ih C1 ρ1 (fDel f (oLs i s 0) (K + m)) a2 (by omega) (by rw [(a4 _ hne).1]; exact h2)
    refine ⟨C2, ρ2, f2, ⟨b1.1, b1.2.1, a4.trans b1.2.2.1, a5.trans b1.2.2.2.1, ⟨by rw [b1.2.2.2.2.1.1, a6], by rw [b1.2.2.2.2.1.2, a7]⟩, fun a j hj => ?_⟩, fun fuel => ?_⟩
    · rw [b1.2.2.2.2.2 a j hj]
      refine if_neg (fun q => ?_)
      have := hj q.1
      omega
    · have e1 : zi (K + (m + 1)) - 1 = zi (K + m) := zi_s1
      have e2 : ¬ zi (K + m) < zi K := by
        rw [zi_lt (by omega) (by omega)]
        omega
      have e3 : zi (K + m) + -1 = zi (K + m) - 1 := (Int32.sub_eq_add_neg (zi (K + m)) 1).symm
      have g1 := x_gBs5 (S := S) (C := C) (ρ := ρ) hi hs
      have g2 := x_gBs0 (S := S) (C := C) (ρ := ρ) hi hs
      have g3 := x_isLs (S := S) (C := C) (ρ := ρ) hi hs (show 0 < 2 by decide)
      rw [e1, show fuel + (m + 1) = (fuel + m) + 1 from rfl]
      rw [s_BranchSeries_forget_10]
      rw [g1, Option.bind_some, h2, if_neg e2, g2, Option.bind_some, Option.bind_some, g3, Option.bind_some, a1, Option.bind_some]
      dsimp only
      rw [e3]
      exact b2 fuel
theorem cut_43 {K : Nat} (hi : i < n) (hs : s < 3) : ∀ (m : Nat) (C : cS) (ρ : zS) (f : Nat → Nat → Nat), LLs e S F n C ρ f → C.1 (oLs i s 1) 1 = K + m → C.1 (oBs i s) 6 = K → ∃ C' ρ' f', cut e S F n (oLs i s 1) K C ρ f C' ρ' f' ∧ ∀ fuel, s_BranchSeries_forget_43 g (fuel + m) (S + oBs i s) (zi (K + m) - 1) (cW S n C ρ) = s_BranchSeries_forget_43 g fuel (S + oBs i s) (zi K - 1) (cW S n C' ρ') := by
  intro m
  induction m with
  | zero =>
    intro C ρ f h h1 h2
    exact ⟨C, ρ, f, ⟨h, h1, fun _ _ => ⟨rfl, rfl, rfl, rfl⟩, dX.refl, ⟨rfl, rfl⟩, fun _ _ _ => rfl⟩, fun fuel => rfl⟩
  | succ m ih =>
    intro C ρ f h h1 h2
    have q0 := (h.2.1 _ (ck_Ls hi hs (show 1 < 2 by decide)) (lt_Ls hi hs (by decide))).1
    obtain ⟨C1, ρ1, a1, a2, a3, a4, a5, a6, a7⟩ := L_remove (g := g) (i := K + m) h (ck_Ls hi hs (show 1 < 2 by decide)) (lt_Ls hi hs (by decide)) (by omega)
    have hne : ¬ oBs i s = oLs i s 1 := fun q => ne_Bs hi hs (ck_Ls hi hs (show 1 < 2 by decide)) q.symm
    obtain ⟨C2, ρ2, f2, b1, b2⟩ := ih C1 ρ1 (fDel f (oLs i s 1) (K + m)) a2 (by omega) (by rw [(a4 _ hne).1]; exact h2)
    refine ⟨C2, ρ2, f2, ⟨b1.1, b1.2.1, a4.trans b1.2.2.1, a5.trans b1.2.2.2.1, ⟨by rw [b1.2.2.2.2.1.1, a6], by rw [b1.2.2.2.2.1.2, a7]⟩, fun a j hj => ?_⟩, fun fuel => ?_⟩
    · rw [b1.2.2.2.2.2 a j hj]
      refine if_neg (fun q => ?_)
      have := hj q.1
      omega
    · have e1 : zi (K + (m + 1)) - 1 = zi (K + m) := zi_s1
      have e2 : ¬ zi (K + m) < zi K := by
        rw [zi_lt (by omega) (by omega)]
        omega
      have e3 : zi (K + m) + -1 = zi (K + m) - 1 := (Int32.sub_eq_add_neg (zi (K + m)) 1).symm
      have g1 := x_gBs6 (S := S) (C := C) (ρ := ρ) hi hs
      have g2 := x_gBs1 (S := S) (C := C) (ρ := ρ) hi hs
      have g3 := x_isLs (S := S) (C := C) (ρ := ρ) hi hs (show 1 < 2 by decide)
      rw [e1, show fuel + (m + 1) = (fuel + m) + 1 from rfl]
      rw [s_BranchSeries_forget_43]
      rw [g1, Option.bind_some, h2, if_neg e2, g2, Option.bind_some, Option.bind_some, g3, Option.bind_some, a1, Option.bind_some]
      dsimp only
      rw [e3]
      exact b2 fuel
theorem zi_pr {K : Nat} (h : K < 2147483648) : zi K - 1 < zi K := by
  cases K with
  | zero => decide
  | succ K =>
    rw [zi_s1, zi_lt (by omega) (by omega)]
    omega
def cFgK (C : cS) (i s : Nat) : cS := cSN (cSN (cSN C (oBs i s) 2 (C.1 (oBs i s) 7)) (oBs i s) 3 (C.1 (oBs i s) 8)) (oBs i s) 4 (C.1 (oBs i s) 9)
theorem Y_forgetK (h : LLs e S F n C ρ f) (hi : i < n) (hs : s < 3) (h5 : C.1 (oBs i s) 5 ≤ C.1 (oLs i s 0) 1) (h6 : C.1 (oBs i s) 6 ≤ C.1 (oLs i s 1) 1) : ∃ C1 ρ1 f1 C2 ρ2 f2, cut e S F n (oLs i s 0) (C.1 (oBs i s) 5) C ρ f C1 ρ1 f1 ∧ cut e S F n (oLs i s 1) (C.1 (oBs i s) 6) C1 ρ1 f1 C2 ρ2 f2 ∧ s_BranchSeries_forget g (S + oBs i s) (cW S n C ρ) = some (cW S n (cFgK C2 i s) ρ2) := by
  have q0 := (h.2.1 _ (ck_Ls hi hs (show 0 < 2 by decide)) (lt_Ls hi hs (by decide))).1
  have q1 := (h.2.1 _ (ck_Ls hi hs (show 1 < 2 by decide)) (lt_Ls hi hs (by decide))).1
  have n0 : ¬ oBs i s = oLs i s 0 := fun q => ne_Bs hi hs (ck_Ls hi hs (show 0 < 2 by decide)) q.symm
  have n1 : ¬ oBs i s = oLs i s 1 := fun q => ne_Bs hi hs (ck_Ls hi hs (show 1 < 2 by decide)) q.symm
  have n2 : ¬ oLs i s 1 = oLs i s 0 := by
    unfold oLs
    omega
  obtain ⟨m, hm⟩ : ∃ m, C.1 (oLs i s 0) 1 = C.1 (oBs i s) 5 + m := ⟨C.1 (oLs i s 0) 1 - C.1 (oBs i s) 5, by omega⟩
  obtain ⟨C1, ρ1, f1, a1, a2⟩ := cut_10 (g := g) hi hs m C ρ f h hm rfl
  have e6 : C1.1 (oBs i s) 6 = C.1 (oBs i s) 6 := by rw [(a1.2.2.1 _ n0).1]
  have e61 : C1.1 (oLs i s 1) 1 = C.1 (oLs i s 1) 1 := by rw [(a1.2.2.1 _ n2).1]
  obtain ⟨m2, hm2⟩ : ∃ m2, C1.1 (oLs i s 1) 1 = C.1 (oBs i s) 6 + m2 := ⟨C.1 (oLs i s 1) 1 - C.1 (oBs i s) 6, by omega⟩
  obtain ⟨C2, ρ2, f2, b1, b2⟩ := cut_43 (g := g) hi hs m2 C1 ρ1 f1 a1.1 hm2 e6
  refine ⟨C1, ρ1, f1, C2, ρ2, f2, a1, b1, ?_⟩
  have g1 := x_gBs0 (S := S) (C := C) (ρ := ρ) hi hs
  have g2 := x_isLs (S := S) (C := C) (ρ := ρ) hi hs (show 0 < 2 by decide)
  have g3 := L_size (g := g) (S := S) (C := C) (ρ := ρ) (ck_Ls hi hs (show 0 < 2 by decide)) (lt_Ls hi hs (by decide))
  have k1 := x_gBs1 (S := S) (C := C1) (ρ := ρ1) hi hs
  have k2 := x_isLs (S := S) (C := C1) (ρ := ρ1) hi hs (show 1 < 2 by decide)
  have k3 := L_size (g := g) (S := S) (C := C1) (ρ := ρ1) (ck_Ls hi hs (show 1 < 2 by decide)) (lt_Ls hi hs (by decide))
  have k5 := x_gBs5 (S := S) (C := C1) (ρ := ρ1) hi hs
  have e5 : C1.1 (oBs i s) 5 = C.1 (oBs i s) 5 := by rw [(a1.2.2.1 _ n0).1]
  have l6 := x_gBs6 (S := S) (C := C2) (ρ := ρ2) hi hs
  have e62 : C2.1 (oBs i s) 6 = C.1 (oBs i s) 6 := by rw [(b1.2.2.1 _ n1).1, e6]
  have step1 : ∀ N, s_BranchSeries_forget_10 g (N + 1) (S + oBs i s) (zi (C.1 (oBs i s) 5) - 1) (cW S n C1 ρ1) = s_BranchSeries_forget_43 g zfuel (S + oBs i s) (zi (C1.1 (oLs i s 1) 1) - 1) (cW S n C1 ρ1) := by
    intro N
    unfold s_BranchSeries_forget_10
    rw [k5, Option.bind_some, e5, if_pos (zi_pr (by omega)), k1, Option.bind_some, Option.bind_some, k2, Option.bind_some, k3, Option.bind_some]
  have step2 : ∀ N, s_BranchSeries_forget_43 g (N + 1) (S + oBs i s) (zi (C.1 (oBs i s) 6) - 1) (cW S n C2 ρ2) = some (cW S n (cFgK C2 i s) ρ2) := by
    intro N
    unfold s_BranchSeries_forget_43 cFgK
    rw [l6, Option.bind_some, e62, if_pos (zi_pr (by omega))]
    simp (config := { maxSteps := 2000000 }) (disch := (first | omega | (simp only [oBr, oBa, oBs, oLs, oOf, oSa, oSb, oHo, oFa, oCe, oDe, oSt, oAn, oPo]; omega))) only [x_isBr, x_clBr, x_gBr0, x_gBr1, x_gBr2, x_pBr2, x_qBr2, x_gBr3, x_pBr3, x_gBr4, x_pBr4, x_gBr5, x_pBr5, x_qBr5, x_gBr6, x_pBr6, x_gBr7, x_pBr7, x_gBr8, x_pBr8, x_isBs, x_clBs, x_gBs0, x_gBs1, x_gBs2, x_pBs2, x_gBs3, x_pBs3, x_gBs4, x_pBs4, x_gBs5, x_pBs5, x_gBs6, x_pBs6, x_gBs7, x_pBs7, x_gBs8, x_pBs8, x_gBs9, x_pBs9, x_isLs, x_clLs, x_gLs0, x_pLs0, x_qLs0, x_gLs1, x_pLs1, x_gLs2, x_pLs2, x_isPo, x_clPo, x_gPo0, x_pPo0, x_qPo0, x_gPo1, x_pPo1, x_gPo2, x_pPo2, x_isOf, x_clOf, x_gOf0, x_gOf1, x_gOf2, x_gOf3, x_gOf4, x_gOf5, x_gOf6, x_pOf6, x_isSb, x_clSb, x_gSb0, x_pSb0, x_gSb1, x_pSb1, x_gSb2, x_pSb2, x_gSb3, x_gSb4, x_gSb5, x_gSb6, x_gSb7, x_pSb7, x_qSb7, x_rHo, x_wHo, x_rFa, x_wFa, x_rCe, x_wCe, x_rDe, x_wDe, x_rSt, x_wSt, x_lSt, x_rAn, c_gNo0, c_gNo1, c_gNo2, c_isNo, c_aNa, c_lNa, c_aBa, c_aSa0, c_aSa1, cSN_at, cSN_21, cSN_221, cSN_222, cSI_1, cSI_at, cSI_221, cSI_222, cSL_1, cSL_21, cSL_at, cSL_222, cSP_1, cSP_21, cSP_221, cSP_at, zi_l0, zi_l1, zi_l2, zi_l3, zi_l4, zi_l5, zi_l6, zi_l7, zi_l8, zi_l9, zi_l10, zi_l12, zi_l18, zi_l20, zi_l30, zi_l32, zi_l36, zi_l48, zi_l64, zi_l99, zi_l100, zi_l300, zi_l512, zi_l600, zi_l900, zi_l1800, zi_l9999, Option.bind_some, zi_lt0, zi_ge0, zi_01, zi_add, zi_mul, zi_sub, zi_lt, zi_le, zi_eq, zi_bool, zi_byte, zi_short, zi_t8, zi_t16, nlt_T, nlt_F, nle_T, nle_F, neq_T, neq_F, ↓reduceIte, or_true, true_or, and_self, and_true, true_and, and_false, false_and, or_false, false_or, or_self, not_true_eq_false, not_false_eq_true]
  have z1 : ∃ N, zfuel = N + 1 + m := ⟨zfuel - 1 - m, by unfold zfuel; omega⟩
  have z2 : ∃ N, zfuel = N + 1 + m2 := ⟨zfuel - 1 - m2, by unfold zfuel; omega⟩
  obtain ⟨N1, z1⟩ := z1
  obtain ⟨N2, z2⟩ := z2
  unfold s_BranchSeries_forget
  rw [g1, Option.bind_some, Option.bind_some, g2, Option.bind_some, g3, Option.bind_some]
  dsimp only
  rw [z1, hm, a2, step1, z2, hm2, b2, step2]
end CBOOK3
