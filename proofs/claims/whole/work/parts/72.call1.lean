section CALL1
variable {g : zG} {e S F n am A B T i s q : Nat} {C C' : cS} {M M' : mS} {ρ ρ' : zS} {f f' : Nat → Nat → Nat}
def dY (ρ ρ' : zS) : Prop := ρ.1 ≤ ρ'.1 ∧ ∀ p, p < ρ.1 → (∀ b x, ¬ ρ.2.2 p = some (b, .inl (10, x))) → ρ'.2.2 p = ρ.2.2 p
theorem dY.refl : dY ρ ρ := ⟨Nat.le_refl _, fun _ _ _ => rfl⟩
theorem dY.dx (h : dX ρ ρ') : dY ρ ρ' := ⟨h.1.1, h.2⟩
theorem dY.kp (h : dY ρ ρ') : kp S F ρ ρ' := ⟨h.1, fun p _ hp hx => h.2 p hp hx⟩
theorem RR.T1 (h : RR e S F n C M ρ f T) : RR e S F n C M ρ f (T + 1) := by
  obtain ⟨h1, h2, h3, h4, h5, h6, h7, h8, h9⟩ := h
  refine ⟨h1, h2, h3, h4, h5, h6, h7, fun b hb => ?_, h9⟩
  obtain ⟨⟨a1, a2⟩, ⟨b1, b2, b3⟩, ⟨c1, c2, c3⟩⟩ := h8 b hb
  exact ⟨⟨⟨a1.1, a1.2.1, Nat.le_succ_of_le a1.2.2⟩, a2⟩, ⟨b1, fun s hs => ⟨Nat.le_succ_of_le (b2 s hs).1, (b2 s hs).2⟩, b3⟩, ⟨c1, fun s hs => ⟨Nat.le_succ_of_le (c2 s hs).1, (c2 s hs).2⟩, c3⟩⟩
theorem sK.eq {j : Nat} (h1 : M'.1 = M.1) (h2 : M'.2.1 = M.2.1) (h3 : M'.2.2.1 = M.2.2.1) : sK M M' j j := by
  refine ⟨fun _ _ _ => by rw [h1], fun _ _ => ⟨⟨?_, ?_, ?_, ?_⟩, by rw [h2], by rw [h3]⟩, fun _ _ => by rw [h1]⟩ <;> rw [h1]
theorem sBm.eq (h1 : M'.1 = M.1) (h2 : M'.2.1 = M.2.1) (h3 : M'.2.2.1 = M.2.2.1) : sBm M M' i := ⟨by rw [h1], fun _ _ _ => ⟨by rw [h1], by rw [h1]⟩, fun _ _ _ _ => sK.eq h1 h2 h3⟩
theorem sO.eq {j : Nat} (h1 : M'.1 = M.1) (h2 : M'.2.1 = M.2.1) (h3 : M'.2.2.1 = M.2.2.1) : sO M M' j j := by
  refine ⟨fun _ _ _ => by rw [h1], fun _ _ => ⟨⟨?_, ?_, ?_⟩, by rw [h2], by rw [h3]⟩⟩ <;> rw [h1]
theorem sBc.refl : sBc C C i := ⟨rfl, rfl, fun _ _ => ⟨rfl, rfl, rfl⟩⟩
theorem sBf.refl : sBf C f f i := fun _ _ => ⟨fun _ _ => rfl, fun _ _ => rfl⟩
theorem sOc.refl {c : Nat} : sOc C C n c c s := sOc.of (fun _ _ => same4.refl)
theorem RR.same (h : RR e S F n C M ρ f T) (h1 : M'.1 = M.1) (h2 : M'.2.1 = M.2.1) (h3 : M'.2.2.1 = M.2.2.1) (h4 : M'.2.2.2.1 1 = M.2.2.2.1 1) (h5 : M'.2.2.2.1 34 = M.2.2.2.1 34) : RR e S F n C M' ρ f T := by
  obtain ⟨a1, a2, a3, a4, a5, a6, a7, a8, a9⟩ := h
  have hv : vO M' n = vO M n := by unfold vO; rw [h1]
  have hw : ∀ i, vw M' i = vw M i := fun i => by unfold vw; rw [h1]
  refine ⟨a1, ⟨fun j k => by rw [h1]; exact a2.1 j k, a2.2.1, h4.trans a2.2.2⟩, ?_, fun i hi => (a4 i hi).fx (S := S) kp.refl sBc.refl (sBm.eq h1 h2 h3) sBf.refl hi, fun s hs => ?_, fun b hb => (a6 b hb).fx (S := S) kp.refl (by rw [h1]) (fun _ _ _ => by rw [h1]; exact ⟨rfl, rfl⟩) (fun _ _ => ⟨rfl, rfl⟩), a7.fx (S := S) kp.refl evK.refl (fun b hb => by rw [h1]; exact lK.refl b hb) rfl (fun _ _ => rfl) (by rw [h1]) h5, fun b hb => ?_, ?_⟩
  · unfold UP; rw [h1]; exact a3
  · rw [hv]; exact ⟨(a5 s hs).1.fx kp.refl sOc.refl (sO.eq h1 h2 h3), (a5 s hs).2.fx kp.refl sOc.refl (sO.eq h1 h2 h3)⟩
  · rw [hw]; unfold IN0 INv; rw [h1]; exact a8 b hb
  · unfold GI; rw [hv, h1]; exact a9
theorem RR.th {x : Nat} (h : RR e S F n C M ρ f T) : RR e S F n C (mSs M 0 x) ρ f T := h.same rfl rfl rfl rfl rfl
theorem RR.kpx (h : RR e S F n C M ρ f T) (hk : kp S F ρ ρ') (hL : LLs e S F n C ρ' f) : RR e S F n C M ρ' f T := by
  obtain ⟨a1, a2, a3, a4, a5, a6, a7, a8, a9⟩ := h
  have sb : ∀ i, sBm M M i := fun i => ⟨rfl, fun _ _ _ => ⟨rfl, rfl⟩, fun _ _ _ _ => sK.refl⟩
  refine ⟨hL, a2, a3, fun i hi => (a4 i hi).fx hk ⟨rfl, rfl, fun _ _ => ⟨rfl, rfl, rfl⟩⟩ (sb i) (fun _ _ => ⟨fun _ _ => rfl, fun _ _ => rfl⟩) hi, fun s hs => ⟨(a5 s hs).1.fx hk (sOc.of (fun _ _ => same4.refl)) sO.refl, (a5 s hs).2.fx hk (sOc.of (fun _ _ => same4.refl)) sO.refl⟩, fun b hb => (a6 b hb).fx hk rfl (fun _ _ _ => ⟨rfl, rfl⟩) (fun _ _ => ⟨rfl, rfl⟩), a7.fx hk evK.refl lK.refl rfl (fun _ _ => rfl) rfl rfl, a8, a9⟩
theorem cl_same (h : M'.1 = M.1) : cl M' = cl M := by unfold cl; rw [h]
theorem RO.T1 (h : RO ρ M T A B) (hT : T < 512) (h1 : M'.1 = M.1) (h2 : ρ'.1 ≤ ρ.1 + 20) (h3 : ρ'.2.1 ≤ ρ.2.1 + 2100) : RO ρ' M' (T + 1) A B := by
  obtain ⟨a1, a2, a3⟩ := h
  have := cl_same h1
  refine ⟨by omega, ?_, ?_⟩ <;> rw [this] <;> omega
theorem RO.cl (h : RO ρ M T A B) (hT : T < 512) (h1 : cl M' = cl M) (h2 : ρ'.1 ≤ ρ.1 + 20) (h3 : ρ'.2.1 ≤ ρ.2.1 + 2100) : RO ρ' M' (T + 1) A B := by
  obtain ⟨a1, a2, a3⟩ := h
  refine ⟨by omega, ?_, ?_⟩ <;> rw [h1] <;> omega
/-- a call without exceptions -/
def CO0 (e S F n am A B : Nat) (M : mS) (ρ : zS) (T : Nat) (run : Option (Int32 × zS)) (mo : zS → Option (Int32 × zS)) : Prop := ∃ v C' M' ρ' f', run = some (v, cW S n C' ρ') ∧ (∀ τ, mo (mW am M τ) = some (v, mW am M' τ)) ∧ dY ρ ρ' ∧ RR e S F n C' M' ρ' f' (T + 1) ∧ RO ρ' M' (T + 1) A B
/-- a call that may throw -/
def CO1 (e S F n am A B : Nat) (M : mS) (ρ : zS) (T : Nat) {α : Type} (run : Option ((α ⊕ Nat) × zS)) (mo : zS → Option (α × zS)) : Prop := ∃ x y C' M' ρ' f', run = some (x, cW S n C' ρ') ∧ (∀ τ, mo (mW am M τ) = some (y, mW am M' τ)) ∧ dY ρ ρ' ∧ RR e S F n C' M' ρ' f' (T + 1) ∧ RO ρ' M' (T + 1) A B ∧ ((x = .inl y ∧ M'.2.2.2.1 0 = 0) ∨ ∃ a, x = .inr a ∧ M'.2.2.2.1 0 = 1 ∧ zis (cW S n C' ρ') a 8 = some ())
theorem CO0.same {run : Option (Int32 × zS)} {mo : zS → Option (Int32 × zS)} {v : Int32} (h : RR e S F n C M ρ f T) (hr : RO ρ M T A B) (hT : T < 512) (h1 : run = some (v, cW S n C ρ)) (h2 : ∀ τ, mo (mW am M τ) = some (v, mW am (mSs M 0 0) τ)) : CO0 e S F n am A B M ρ T run mo :=
  ⟨v, C, mSs M 0 0, ρ, f, h1, h2, dY.refl, h.T1.th, hr.T1 hT rfl (by omega) (by omega)⟩
theorem CO1.same {α : Type} {run : Option ((α ⊕ Nat) × zS)} {mo : zS → Option (α × zS)} {v : α} (h : RR e S F n C M ρ f T) (hr : RO ρ M T A B) (hT : T < 512) (h1 : run = some (.inl v, cW S n C ρ)) (h2 : ∀ τ, mo (mW am M τ) = some (v, mW am (mSs M 0 0) τ)) : CO1 e S F n am A B M ρ T run mo :=
  ⟨.inl v, v, C, mSs M 0 0, ρ, f, h1, h2, dY.refl, h.T1.th, hr.T1 hT rfl (by omega) (by omega), Or.inl ⟨rfl, rfl⟩⟩
theorem exc_dX : dX ρ (exc g q ρ) := dX.new
theorem CO1.ex {α : Type} {run : Option ((α ⊕ Nat) × zS)} {mo : zS → Option (α × zS)} {v : α} (h : RR e S F n C M ρ f T) (hr : RO ρ M T A B) (hT : T < 512) (h1 : run = some (.inr ρ.1, cW S n C (exc g q ρ))) (h2 : ∀ τ, mo (mW am M τ) = some (v, mW am (mSs M 0 1) τ)) : CO1 e S F n am A B M ρ T run mo := by
  have hL := h.1
  refine ⟨.inr ρ.1, v, C, mSs M 0 1, exc g q ρ, f, h1, h2, dY.dx exc_dX, (h.T1.th).kpx (kp.dx exc_dX) hL.new, hr.T1 hT rfl ?_ ?_, Or.inr ⟨ρ.1, rfl, rfl, ?_⟩⟩
  · show ρ.1 + 1 ≤ _; omega
  · show ρ.2.1 + 6 ≤ _; omega
  · exact dOb.is (F := F) (dOb.new (y := 0) hL.1.2.2.1) hL.1.2.1
theorem ix (x : Int32) (N : Nat) : (x < 0 ∨ ∃ k, k < 2147483648 ∧ N ≤ k ∧ x = zi k) ∨ ∃ i, i < N ∧ x = zi i := by
  rcases zi_cases x with h | ⟨k, hk, rfl⟩
  · exact Or.inl (Or.inl h)
  · by_cases h : k < N
    · exact Or.inr ⟨k, h, rfl⟩
    · exact Or.inl (Or.inr ⟨k, hk, by omega, rfl⟩)
theorem RR.n6 (h : RR e S F n C M ρ f T) : n ≤ 6 := h.1.1.2.2.2.1
theorem RR.F1 (h : RR e S F n C M ρ f T) : S + cF n ≤ F := h.1.1.2.1
theorem RR.F2 (h : RR e S F n C M ρ f T) : F ≤ ρ.1 := h.1.1.2.2.1
theorem RR.m6 (h : RR e S F n C M ρ f T) : M.2.2.2.1 1 ≤ 6 := by rw [h.2.1.2.2]; exact h.n6
theorem RR.uB (h : RR e S F n C M ρ f T) (hi : i < n) : (C.1 (oBr i) 8 = 1 ∧ M.1 1 i = 0 ∧ vw M i = i) ∨ (C.1 (oBr i) 8 = 0 ∧ M.1 1 i = 1 ∧ vw M i = i + 6) := by
  have h1 := h.2.2.1.1 i hi
  have h2 := mOK.b2 h.2.1.1 (Or.inl rfl) i
  unfold vw
  by_cases h0 : M.1 1 i = 0
  · rw [if_pos h0]; exact Or.inl ⟨by omega, h0, rfl⟩
  · rw [if_neg h0]; exact Or.inr ⟨by omega, by omega, rfl⟩
theorem RR.uO (h : RR e S F n C M ρ f T) : (C.1 (oOf n) 6 = 1 ∧ M.1 1 (M.2.2.2.1 1) = 0 ∧ vO M n = 0) ∨ (C.1 (oOf n) 6 = 0 ∧ M.1 1 (M.2.2.2.1 1) = 1 ∧ vO M n = 1) := by
  have h1 := h.2.2.1.2
  have h2 := mOK.b2 h.2.1.1 (Or.inl rfl) n
  rw [h.2.1.2.2]
  unfold vO
  by_cases h0 : M.1 1 n = 0
  · rw [if_pos h0]; exact Or.inl ⟨by omega, h0, rfl⟩
  · rw [if_neg h0]; exact Or.inr ⟨by omega, by omega, rfl⟩
theorem K_letters (h : RR e S F n C M ρ f T) (hr : RO ρ M T A B) (hT : T < 512) : CO0 e S F n am A B M ρ T (s_No_letters g S (cW S n C ρ)) (s_Mo_letters g am) := by
  have hp := h.2.2.2.2.2.2.1.1.1
  exact CO0.same h hr hT Y_letters (fun τ => by rw [hp]; exact M_letters)
theorem PE.ml {p r0 b r2 r3 r4 r5 : Nat} (h : PE F ρ C M f n p r0 b r2 r3 r4 r5) : mlF F ρ p r0 b r2 := by
  obtain ⟨-, -, ⟨h1, ⟨st, bl, h2, -⟩, -⟩ | ⟨-, ⟨-, w, ev, h2, -⟩, -⟩⟩ := h
  · exact Or.inr ⟨h1, st, bl, h2⟩
  · exact Or.inl ⟨_, w, ev, h2⟩
theorem K_letter {x y : Int32} (h : RR e S F n C M ρ f T) (hr : RO ρ M T A B) (hT : T < 512) : CO0 e S F n am A B M ρ T (s_No_letter g S x y (cW S n C ρ)) (s_Mo_letter g am x y) := by
  obtain ⟨⟨hp, h64⟩, hpe⟩ := h.2.2.2.2.2.2.1
  rcases ix x (M.2.2.2.1 34) with hx | ⟨k, hk, rfl⟩
  · exact CO0.same h hr hT (Y_letterN (by omega) (by rw [hp]; exact hx)) (fun τ => M_letterN h64 hx)
  · have hm := (hpe k hk).ml
    have hy := Y_letter (g := g) (w := y) h.1 (by rw [hp]; exact hk) hm
    rcases ix y 3 with hy2 | ⟨w, hw, rfl⟩
    · have hz : y < 0 ∨ 3 ≤ y := by
        rcases hy2 with h0 | ⟨k2, h1, h2, rfl⟩
        · exact Or.inl h0
        · refine Or.inr ?_
          show zi 3 ≤ zi k2
          rw [zi_le (by omega) h1]; exact h2
      have e0 : ¬ y = 0 ∧ ¬ y = 1 ∧ ¬ y = 2 := by
        rcases hz with h0 | h0
        · refine ⟨?_, ?_, ?_⟩ <;> rintro rfl <;> revert h0 <;> decide
        · refine ⟨?_, ?_, ?_⟩ <;> rintro rfl <;> revert h0 <;> decide
      rw [if_neg e0.1, if_neg e0.2.1, if_neg e0.2.2] at hy
      exact CO0.same h hr hT hy (fun τ => M_letterX hk h64 hz)
    · refine CO0.same h hr hT hy (fun τ => ?_)
      rw [M_letter hk h64 hw]
      rcases (show w = 0 ∨ w = 1 ∨ w = 2 by omega) with rfl | rfl | rfl
      · rfl
      · rfl
      · rfl
end CALL1
