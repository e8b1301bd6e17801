/-- what sending a mail does: it stands last in the post, or the post is full -/
def snt (e S F n p : Nat) (C : cS) (ρ : zS) (f : Nat → Nat → Nat) (C' : cS) (ρ' : zS) (f' : Nat → Nat → Nat) : Prop :=
  LLs e S F n C' ρ' f' ∧ dX ρ ρ' ∧ ρ'.1 ≤ ρ.1 + 1 ∧ ρ'.2.1 ≤ ρ.2.1 + 1000 ∧ sameC (oPo n) C C' ∧ ((C.1 (oPo n) 1 < 64 ∧ C'.1 (oPo n) 1 = C.1 (oPo n) 1 + 1 ∧ f' = fSet f (oPo n) (C.1 (oPo n) 1) p) ∨ (C.1 (oPo n) 1 = 64 ∧ C' = C ∧ ρ' = ρ ∧ f' = f))
section CNO2
variable {g : zG} {e S F n i s b : Nat} {C C' : cS} {ρ ρ' : zS} {f f' : Nat → Nat → Nat}
theorem sameC.refl {o : Nat} : sameC o C C := fun _ _ => ⟨rfl, rfl, rfl, rfl⟩
theorem Y_sendQ {p : Nat} (h : LLs e S F n C ρ f) (hg : g 0 = some e) (hg2 : ∃ mi, g 10 = some mi) (hp : okE F ρ p) (hL : C.1 (oPo n) 1 ≤ 64) : ∃ C' ρ' f', s_No_send g S (some p) (cW S n C ρ) = some (if C.1 (oPo n) 1 < 64 then zi 1 else zi 0, cW S n C' ρ') ∧ snt e S F n p C ρ f C' ρ' f' := by
  by_cases h1 : C.1 (oPo n) 1 < 64
  · obtain ⟨C', ρ', a1, a2, a3, a4, a5, a6, a7⟩ := Y_sendA (g := g) h hg hg2 hp h1
    exact ⟨C', ρ', _, by rw [a1, if_pos h1], a2, a5, a6, a7, a4, Or.inl ⟨h1, a3, rfl⟩⟩
  · have h2 : C.1 (oPo n) 1 = 64 := by omega
    exact ⟨C, ρ, f, by rw [Y_sendF h2, if_neg h1], h, dX.refl, by omega, by omega, sameC.refl, Or.inr ⟨h2, rfl, rfl, rfl⟩⟩
def cWr (C : cS) (i p : Nat) : cS := cSv (cSN (cSP C (oBr i) 2 (some p)) (oBr i) 3 1) i
theorem ne_Br {j : Nat} (hi : i < n) (hj : ck n j = 5) : ¬ j = oBr i := by
  intro q
  rw [q, ck_Br hi] at hj
  cases hj
theorem nePoBr (hi : i < n) : ¬ oPo n = oBr i := ne_Br hi ck_Po
theorem nePoBs (hi : i < n) (hs : s < 3) : ¬ oPo n = oBs i s := ne_Bs hi hs ck_Po
theorem cSv_ls {j : Nat} (hi : i < n) (hj : ck n j = 5) : (cSv C i).1 j = C.1 j ∧ (cSv C i).2.2.2 j = C.2.2.2 j := by
  refine ⟨?_, ?_⟩
  · funext b
    exact cSv_fr (fun q => absurd q (ne_Br hi hj)) (fun s hs q => absurd q (ne_Bs hi hs hj))
  · funext b
    exact cSv_fp (fun q => absurd q (ne_Br hi hj))
theorem LLs.sv (h : LLs e S F n C ρ f) (hi : i < n) : LLs e S F n (cSv C i) ρ f := h.same (fun j hj _ => cSv_ls hi hj)
theorem cWr_ls {j p : Nat} (hi : i < n) (hj : ck n j = 5) : (cWr C i p).1 j = C.1 j ∧ (cWr C i p).2.2.2 j = C.2.2.2 j := by
  have h1 := ne_Br hi hj
  obtain ⟨a, b⟩ := cSv_ls (C := cSN (cSP C (oBr i) 2 (some p)) (oBr i) 3 1) hi hj
  refine ⟨?_, ?_⟩
  · unfold cWr
    rw [a]
    funext b
    simp only [cSN_at, cSP_1, h1, false_and, if_false]
  · unfold cWr
    rw [b]
    funext b
    simp only [cSN_222, cSP_at, h1, false_and, if_false]
theorem Y_sendNew {p ser w ev k b num : Nat} (h : LLs e S F n C ρ f) (hg : g 0 = some e) (hg2 : ∃ mi, g 10 = some mi) (hi : i < n) (hp : isLet F ρ p ser w ev k b num) (h4 : C.1 (oBr i) 4 < 2) (hL : C.1 (oPo n) 1 ≤ 64) : ∃ C' ρ' f', s_No_sendNew g S (some (S + oBr i)) (some p) (cW S n C ρ) = some (zi num, cW S n C' ρ') ∧ snt e S F n p (cWr C i p) ρ f C' ρ' f' := by
  have hF := h.1.2.1
  have hPo := cWr_ls (C := C) (p := p) hi (ck_Po (n := n))
  obtain ⟨C', ρ', f', a1, a2⟩ := Y_sendQ (g := g) (h.same (C' := cWr C i p) (fun j hj _ => cWr_ls hi hj)) hg hg2 (dOb.okE hp (by decide)) (by rw [hPo.1]; exact hL)
  refine ⟨C', ρ', f', ?_, a2⟩
  have q1 := Y_saveB (g := g) (S := S) (n := n) (ρ := ρ) (C := cSN (cSP C (oBr i) 2 (some p)) (oBr i) 3 1) (i := i) hi (by simp only [cSN_at, and_self, if_true]; decide) (by simp only [cSN_at, cSP_1]; rw [if_neg (by omega)]; exact h4)
  have q2 : zpF (cW S n (cSP C (oBr i) 2 (some p)) ρ) (S + oBr i) 1 3 (.int 1) = some (cW S n (cSN (cSP C (oBr i) 2 (some p)) (oBr i) 3 1) ρ) := x_pBr3 (v := 1) hi
  have q3 : zgI (cW S n C' ρ') p 9 5 = some (zi num) := dOb.gI (dOb.mono hp a2.2.1) hF rfl
  unfold s_No_sendNew
  rw [Option.bind_some, x_pBr2 hi, Option.bind_some, q2, Option.bind_some, x_isBr hi, Option.bind_some, q1, Option.bind_some, c_isNo, Option.bind_some]
  unfold cWr at a1
  rw [a1, Option.bind_some]
  dsimp only
  rw [Option.bind_some, q3, Option.bind_some]
theorem Y_letInit {p ev k ser w lat : Nat} {x0 x1 x2 x3 x4 x5 : Value} (hF : S + cF n ≤ F) (hi : i < n) (h : dOb F ρ p 9 [x0, x1, x2, x3, x4, x5]) (hlat : s_Branch_latestNumber g (S + oBr i) (cW S n C ρ) = some (zi lat, cW S n C ρ)) : s_Letter_init g p (some (S + oBr i)) (zi k) (zi ser) (zi w) (some ev) (cW S n C ρ) = some (cW S n C (zupd ρ p (.inr (9, [.int (zi ser), .int (zi w), .ref ev, .int (zi k), .int (zi i), .int (zi (lat + 1))])))) := by
  have a1 : ∀ (m : Nat) (v : Value) (fs : List Value) (X : zS), dOb F X p 9 fs → m < fs.length → zpF (cW S n C X) p 9 m v = some (cW S n C (zupd X p (.inr (9, fs.set m v)))) := fun m v fs X hX hm => dOb.put hX hF hm
  have a2 : ∀ (m m2 : Nat) (v : Value) (fs : List Value) (X : zS), dOb F X p 9 fs → m < fs.length → zpF2 (cW S n C X) p 9 m 6 m2 v = some (cW S n C (zupd X p (.inr (9, fs.set m v)))) := fun m m2 v fs X hX hm => by
    unfold zpF2
    rw [if_pos (dOb.cls hX hF)]
    exact a1 m v fs X hX hm
  have s1 : zpF2 (cW S n C ρ) p 9 3 6 2 (.int (zi k)) = some (cW S n C (zupd ρ p (.inr (9, [x0, x1, x2, .int (zi k), x4, x5])))) := a2 3 2 (.int (zi k)) _ _ h (by decide : 3 < 6)
  have s2 : zpF2 (cW S n C (zupd ρ p (.inr (9, [x0, x1, x2, .int (zi k), x4, x5])))) p 9 4 6 3 (.int (zi i)) = some (cW S n C (zupd ρ p (.inr (9, [x0, x1, x2, .int (zi k), .int (zi i), x5])))) := by
    have z := a2 4 3 (.int (zi i)) _ _ (dOb.upd (fs' := [x0, x1, x2, .int (zi k), x4, x5]) h) (by decide : 4 < 6)
    rw [zupd2] at z
    exact z
  have s3 : zpF2 (cW S n C (zupd ρ p (.inr (9, [x0, x1, x2, .int (zi k), .int (zi i), x5])))) p 9 5 6 4 (.int (zi (lat + 1))) = some (cW S n C (zupd ρ p (.inr (9, [x0, x1, x2, .int (zi k), .int (zi i), .int (zi (lat + 1))])))) := by
    have z := a2 5 4 (.int (zi (lat + 1))) _ _ (dOb.upd (fs' := [x0, x1, x2, .int (zi k), .int (zi i), x5]) h) (by decide : 5 < 6)
    rw [zupd2] at z
    exact z
  have s4 : zpF (cW S n C (zupd ρ p (.inr (9, [x0, x1, x2, .int (zi k), .int (zi i), .int (zi (lat + 1))])))) p 9 0 (.int (zi ser)) = some (cW S n C (zupd ρ p (.inr (9, [.int (zi ser), x1, x2, .int (zi k), .int (zi i), .int (zi (lat + 1))])))) := by
    have z := a1 0 (.int (zi ser)) _ _ (dOb.upd (fs' := [x0, x1, x2, .int (zi k), .int (zi i), .int (zi (lat + 1))]) h) (by decide : 0 < 6)
    rw [zupd2] at z
    exact z
  have s5 : zpF (cW S n C (zupd ρ p (.inr (9, [.int (zi ser), x1, x2, .int (zi k), .int (zi i), .int (zi (lat + 1))])))) p 9 1 (.int (zi w)) = some (cW S n C (zupd ρ p (.inr (9, [.int (zi ser), .int (zi w), x2, .int (zi k), .int (zi i), .int (zi (lat + 1))])))) := by
    have z := a1 1 (.int (zi w)) _ _ (dOb.upd (fs' := [.int (zi ser), x1, x2, .int (zi k), .int (zi i), .int (zi (lat + 1))]) h) (by decide : 1 < 6)
    rw [zupd2] at z
    exact z
  have s6 : zpF (cW S n C (zupd ρ p (.inr (9, [.int (zi ser), .int (zi w), x2, .int (zi k), .int (zi i), .int (zi (lat + 1))])))) p 9 2 (va_rf (some ev)) = some (cW S n C (zupd ρ p (.inr (9, [.int (zi ser), .int (zi w), .ref ev, .int (zi k), .int (zi i), .int (zi (lat + 1))])))) := by
    have z := a1 2 (va_rf (some ev)) _ _ (dOb.upd (fs' := [.int (zi ser), .int (zi w), x2, .int (zi k), .int (zi i), .int (zi (lat + 1))]) h) (by decide : 2 < 6)
    rw [zupd2] at z
    exact z
  unfold s_Letter_init s_Mail_init
  rw [Option.bind_some, x_gBr0 hi, Option.bind_some, x_isBr hi, Option.bind_some, hlat, Option.bind_some]
  dsimp only
  rw [s1, Option.bind_some, s2, Option.bind_some, zi_l1, zi_add, s3, Option.bind_some, Option.bind_some, s4, Option.bind_some, s5, Option.bind_some, s6, Option.bind_some]
end CNO2
