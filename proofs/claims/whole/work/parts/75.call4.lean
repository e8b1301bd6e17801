section CALL4
variable {g : zG} {e S F n am A B T i s q : Nat} {C C' : cS} {M M' : mS} {ρ ρ' : zS} {f f' : Nat → Nat → Nat}
theorem sBm.row (h1 : ∀ r, 2 ≤ r → r < 20 → M'.1 r = M.1 r) (hb : M'.1 1 i = M.1 1 i) (h2 : M'.2.1 11 = M.2.1 11) (h3 : M'.2.2.1 10 = M.2.2.1 10) : sBm M M' i := by
  have hk : ∀ j, sK M M' j j := fun j => ⟨fun r hr hr2 => by rw [h1 r hr (by omega)], fun _ _ => ⟨⟨by rw [h1 7 (by omega) (by omega)], by rw [h1 8 (by omega) (by omega)], by rw [h1 9 (by omega) (by omega)], by rw [h1 12 (by omega) (by omega)]⟩, by rw [h2], by rw [h3]⟩, fun _ _ => by rw [h1 13 (by omega) (by omega)]⟩
  exact ⟨hb, fun r _ hr => ⟨by rw [h1 r (by omega) (by omega)], by rw [h1 r (by omega) (by omega)]⟩, fun _ _ _ _ => hk _⟩
theorem evK.sb (h : ∀ i, i < n → sBc C C' i) : evK n C f C' f := fun b s hb hs => ⟨by rw [((h b hb).2.2 s hs).1]; exact Nat.le_refl _, fun _ _ => rfl⟩
/-- only the office has changed -/
theorem RR.off (h : RR e S F n C M ρ f T) (hL : LLs e S F n C' ρ' f) (hok : mOK M') (h1 : M'.2.2.2.1 1 = M.2.2.2.1 1) (h34 : M'.2.2.2.1 34 = M.2.2.2.1 34) (hk : kp S F ρ ρ') (hrow : ∀ r, 2 ≤ r → r < 20 → M'.1 r = M.1 r) (h33 : M'.1 33 = M.1 33) (hb1 : ∀ i, i < n → M'.1 1 i = M.1 1 i) (h2 : M'.2.1 11 = M.2.1 11) (h3 : M'.2.2.1 10 = M.2.2.1 10) (hcB : ∀ i, i < n → sBc C C' i) (hcP : C'.1 (oPo n) 1 = C.1 (oPo n) 1) (hU : C'.1 (oOf n) 6 = 1 - M'.1 1 n) (hOB : ∀ s, s < 3 → OB S F ρ' C' M' n 0 s (3 * vO M' n + s) ∧ OB S F ρ' C' M' n 1 s (3 + s)) (hSA : ∀ b, b < n → SA F ρ' C' M' n b) (hl : lK n M M') (hIN : ∀ b, b < n → IN0 M' b T ∧ INv M' b (vw M b) T ∧ INv M' b (b + 6) T) (hGI : GI M' n) : RR e S F n C' M' ρ' f T := by
  obtain ⟨a1, a2, a3, a4, a5, a6, a7, a8, a9⟩ := h
  have hw : ∀ i, i < n → vw M' i = vw M i := fun i hi => by unfold vw; rw [hb1 i hi]
  refine ⟨hL, ⟨hok, a2.2.1, h1.trans a2.2.2⟩, ⟨fun i hi => ?_, hU⟩, fun i hi => (a4 i hi).fx hk (hcB i hi) (sBm.row hrow (hb1 i hi) h2 h3) sBf.refl hi, hOB, hSA, a7.fx hk (evK.sb hcB) hl hcP (fun _ _ => rfl) h33 h34, fun b hb => ?_, hGI⟩
  · rw [(hcB i hi).1, hb1 i hi]; exact a3.1 i hi
  · rw [hw b hb]; exact hIN b hb
/-- what the office's speaking copy says, its answers -/
def AN (F : Nat) (ρ : zS) (C : cS) (M : mS) (n b : Nat) : Prop := (M.1 29 b = 0 ∧ C.2.2.2 (oAn n 0) b = none) ∨ (1 ≤ M.1 29 b ∧ ∃ p, C.2.2.2 (oAn n 0) b = some p ∧ ANS F ρ p b (M.1 29 b) (M.1 30 b) (M.1 31 b) (M.1 32 b))
theorem SA.st2 (h : SA F ρ C M n i) (hM : mOK M) : C.1 (oSt n 0) i < 2 ∧ C.1 (oSt n 1) i < 2 := by
  rw [h.1.1, h.1.2]
  exact ⟨mOK.b2 hM (by omega) _, mOK.b2 hM (by omega) _⟩
theorem RR.ansRR (h : RR e S F n C M ρ f T) : ansR F n C ρ 0 ∧ ansR F n C ρ 1 := by
  have h0 : ansR F n C ρ 0 := by
    intro k hk p hp
    rcases (h.2.2.2.2.2.1 k hk).2.2 with ⟨-, h2⟩ | ⟨-, p', h2, st, bl, h3, -⟩
    · rw [h2] at hp; cases hp
    · rw [h2] at hp; cases hp; exact ⟨_, h3⟩
  refine ⟨h0, fun k hk p hp => ?_⟩
  rw [(h.2.2.2.2.2.1 k hk).2.1.1] at hp
  exact h0 k hk p hp
theorem nIn {a : Nat} {l : List Nat} (h : ¬ a ∈ l) {P : Prop} : ¬ (a ∈ l ∧ P) := fun h2 => h h2.1
theorem mCpO_row {u v r : Nat} (h : r < 20 ∨ 32 < r) : (mCpO M u v).1 r = M.1 r := by
  funext b
  show cpf [28, 29, 30, 31, 32] (cpf [23, 24, 27] (cpf [20, 21, 22] M.1 (3 * v) (3 * u) 3) (900 * v) (900 * u) 900) (6 * v) (6 * u) 6 r b = M.1 r b
  unfold cpf
  rw [if_neg, if_neg, if_neg]
  · rintro ⟨h1, -⟩; simp only [List.mem_cons, List.not_mem_nil, or_false] at h1; omega
  · rintro ⟨h1, -⟩; simp only [List.mem_cons, List.not_mem_nil, or_false] at h1; omega
  · rintro ⟨h1, -⟩; simp only [List.mem_cons, List.not_mem_nil, or_false] at h1; omega
theorem mCpO_A {u v r b : Nat} (h : 28 ≤ r ∧ r ≤ 32) : (mCpO M u v).1 r b = if 6 * v ≤ b ∧ b < 6 * v + 6 then M.1 r (6 * u + (b - 6 * v)) else M.1 r b := by
  show cpf [28, 29, 30, 31, 32] (cpf [23, 24, 27] (cpf [20, 21, 22] M.1 (3 * v) (3 * u) 3) (900 * v) (900 * u) 900) (6 * v) (6 * u) 6 r b = _
  have hm : r ∈ [28, 29, 30, 31, 32] := by simp only [List.mem_cons, List.not_mem_nil, or_false]; omega
  have hn1 : ¬ r ∈ [23, 24, 27] := by simp only [List.mem_cons, List.not_mem_nil, or_false]; omega
  have hn2 : ¬ r ∈ [20, 21, 22] := by simp only [List.mem_cons, List.not_mem_nil, or_false]; omega
  have h0 : ∀ c, cpf [23, 24, 27] (cpf [20, 21, 22] M.1 (3 * v) (3 * u) 3) (900 * v) (900 * u) 900 r c = M.1 r c := fun c => by
    unfold cpf
    rw [if_neg (nIn hn1), if_neg (nIn hn2)]
  by_cases h2 : 6 * v ≤ b ∧ b < 6 * v + 6
  · rw [if_pos h2]
    unfold cpf
    rw [if_pos ⟨hm, h2⟩]
    exact h0 _
  · rw [if_neg h2]
    unfold cpf
    rw [if_neg (fun h3 => h2 h3.2)]
    exact h0 _
theorem mCpO_B {u v r b : Nat} (h : 20 ≤ r ∧ r ≤ 22) : (mCpO M u v).1 r b = if 3 * v ≤ b ∧ b < 3 * v + 3 then M.1 r (3 * u + (b - 3 * v)) else M.1 r b := by
  show cpf [28, 29, 30, 31, 32] (cpf [23, 24, 27] (cpf [20, 21, 22] M.1 (3 * v) (3 * u) 3) (900 * v) (900 * u) 900) (6 * v) (6 * u) 6 r b = _
  have hm : r ∈ [20, 21, 22] := by simp only [List.mem_cons, List.not_mem_nil, or_false]; omega
  have hn1 : ¬ r ∈ [23, 24, 27] := by simp only [List.mem_cons, List.not_mem_nil, or_false]; omega
  have hn2 : ¬ r ∈ [28, 29, 30, 31, 32] := by simp only [List.mem_cons, List.not_mem_nil, or_false]; omega
  by_cases h2 : 3 * v ≤ b ∧ b < 3 * v + 3
  · rw [if_pos h2]
    unfold cpf
    rw [if_neg (nIn hn2), if_neg (nIn hn1), if_pos ⟨hm, h2⟩]
  · rw [if_neg h2]
    unfold cpf
    rw [if_neg (nIn hn2), if_neg (nIn hn1), if_neg (fun h3 => h2 h3.2)]
theorem mCpO_C {u v r b : Nat} (h : r = 23 ∨ r = 24 ∨ r = 27) : (mCpO M u v).1 r b = if 900 * v ≤ b ∧ b < 900 * v + 900 then M.1 r (900 * u + (b - 900 * v)) else M.1 r b := by
  show cpf [28, 29, 30, 31, 32] (cpf [23, 24, 27] (cpf [20, 21, 22] M.1 (3 * v) (3 * u) 3) (900 * v) (900 * u) 900) (6 * v) (6 * u) 6 r b = _
  have hm : r ∈ [23, 24, 27] := by simp only [List.mem_cons, List.not_mem_nil, or_false]; omega
  have hn1 : ¬ r ∈ [20, 21, 22] := by simp only [List.mem_cons, List.not_mem_nil, or_false]; omega
  have hn2 : ¬ r ∈ [28, 29, 30, 31, 32] := by simp only [List.mem_cons, List.not_mem_nil, or_false]; omega
  have h0 : ∀ c, cpf [20, 21, 22] M.1 (3 * v) (3 * u) 3 r c = M.1 r c := fun c => by
    unfold cpf
    rw [if_neg (nIn hn1)]
  by_cases h2 : 900 * v ≤ b ∧ b < 900 * v + 900
  · rw [if_pos h2]
    unfold cpf
    rw [if_neg (nIn hn2), if_pos ⟨hm, h2⟩]
    exact h0 _
  · rw [if_neg h2]
    unfold cpf
    rw [if_neg (nIn hn2), if_neg (fun h3 => h2 h3.2)]
    exact h0 _
theorem mCpO_D {u v b : Nat} : (mCpO M u v).2.1 26 b = (if 900 * v ≤ b ∧ b < 900 * v + 900 then M.2.1 26 (900 * u + (b - 900 * v)) else M.2.1 26 b) ∧ (mCpO M u v).2.2.1 25 b = if 900 * v ≤ b ∧ b < 900 * v + 900 then M.2.2.1 25 (900 * u + (b - 900 * v)) else M.2.2.1 25 b := by
  constructor
  · show cpf [] (cpf [26] (cpf [] M.2.1 (3 * v) (3 * u) 3) (900 * v) (900 * u) 900) (6 * v) (6 * u) 6 26 b = _
    by_cases h2 : 900 * v ≤ b ∧ b < 900 * v + 900
    · rw [if_pos h2]; unfold cpf; rw [if_neg (nIn (by simp)), if_pos ⟨by simp, h2⟩, if_neg (nIn (by simp))]
    · rw [if_neg h2]; unfold cpf; rw [if_neg (nIn (by simp)), if_neg (fun h3 => h2 h3.2), if_neg (nIn (by simp))]
  · show cpf [] (cpf [25] (cpf [] M.2.2.1 (3 * v) (3 * u) 3) (900 * v) (900 * u) 900) (6 * v) (6 * u) 6 25 b = _
    by_cases h2 : 900 * v ≤ b ∧ b < 900 * v + 900
    · rw [if_pos h2]; unfold cpf; rw [if_neg (nIn (by simp)), if_pos ⟨by simp, h2⟩, if_neg (nIn (by simp))]
    · rw [if_neg h2]; unfold cpf; rw [if_neg (nIn (by simp)), if_neg (fun h3 => h2 h3.2), if_neg (nIn (by simp))]
theorem mCpO_IL {u v : Nat} : (mCpO M u v).2.1 11 = M.2.1 11 ∧ (mCpO M u v).2.2.1 10 = M.2.2.1 10 := by
  constructor
  · funext b
    show cpf [] (cpf [26] (cpf [] M.2.1 (3 * v) (3 * u) 3) (900 * v) (900 * u) 900) (6 * v) (6 * u) 6 11 b = _
    unfold cpf
    rw [if_neg (nIn (by simp)), if_neg (nIn (by simp)), if_neg (nIn (by simp))]
  · funext b
    show cpf [] (cpf [25] (cpf [] M.2.2.1 (3 * v) (3 * u) 3) (900 * v) (900 * u) 900) (6 * v) (6 * u) 6 10 b = _
    unfold cpf
    rw [if_neg (nIn (by simp)), if_neg (nIn (by simp)), if_neg (nIn (by simp))]
theorem mCpO_ok {u v : Nat} (h : mOK M) : mOK (mCpO M u v) := mOK.cp (mOK.cp (mOK.cp h))
/-- book s of copy u stands as book s of copy v -/
theorem mCpO_to {u v : Nat} (hu : u < 2) (hv : v < 2) (hs : s < 3) : sO M (mCpO M u v) (3 * u + s) (3 * v + s) := by
  refine ⟨fun r h1 h2 => ?_, fun k hk => ⟨⟨?_, ?_, ?_⟩, ?_, ?_⟩⟩
  · rw [mCpO_B ⟨h1, h2⟩, if_pos (by omega), show 3 * u + (3 * v + s - 3 * v) = 3 * u + s by omega]
  · rw [mCpO_C (by omega), if_pos (by omega), show 900 * u + (300 * (3 * v + s) + k - 900 * v) = 300 * (3 * u + s) + k by omega]
  · rw [mCpO_C (by omega), if_pos (by omega), show 900 * u + (300 * (3 * v + s) + k - 900 * v) = 300 * (3 * u + s) + k by omega]
  · rw [mCpO_C (by omega), if_pos (by omega), show 900 * u + (300 * (3 * v + s) + k - 900 * v) = 300 * (3 * u + s) + k by omega]
  · rw [mCpO_D.1, if_pos (by omega), show 900 * u + (300 * (3 * v + s) + k - 900 * v) = 300 * (3 * u + s) + k by omega]
  · rw [mCpO_D.2, if_pos (by omega), show 900 * u + (300 * (3 * v + s) + k - 900 * v) = 300 * (3 * u + s) + k by omega]
theorem mCpO_st {u v : Nat} (hu : u < 2) (hv : v < 2) (huv : ¬ u = v) (hs : s < 3) : sO M (mCpO M u v) (3 * u + s) (3 * u + s) := by
  refine ⟨fun r h1 h2 => ?_, fun k hk => ⟨⟨?_, ?_, ?_⟩, ?_, ?_⟩⟩
  · rw [mCpO_B ⟨h1, h2⟩, if_neg (by omega)]
  · rw [mCpO_C (by omega), if_neg (by omega)]
  · rw [mCpO_C (by omega), if_neg (by omega)]
  · rw [mCpO_C (by omega), if_neg (by omega)]
  · rw [mCpO_D.1, if_neg (by omega)]
  · rw [mCpO_D.2, if_neg (by omega)]
theorem ofc_ne {c d : Nat} (hc : c < 2) (hd : d < 2) (hcd : ¬ c = d) (hs : s < 3) {x : Nat} (hx : x = oSb n c s ∨ x = oHo n c s ∨ x = oFa n c s ∨ x = oCe n c s ∨ x = oDe n c s) : (∀ s', s' < 3 → ¬ x = oSb n d s' ∧ ¬ x = oHo n d s' ∧ ¬ x = oFa n d s' ∧ ¬ x = oCe n d s' ∧ ¬ x = oDe n d s') ∧ ¬ x = oSt n d ∧ ¬ x = oAn n d := by
  unfold oSb oHo oFa oCe oDe at *
  unfold oSt oAn
  refine ⟨fun s' hs' => ?_, ?_, ?_⟩ <;> omega
theorem cCpO_B {c d : Nat} (hi : i < n) (hd : d < 2) : sBc C (cCpO C n c d) i := by
  have hx : ∀ x, x < 2 + 11 * n → same4 C (cCpO C n c d) x := fun x hx => cCpO_fr (fun s' hs' => by unfold oSb oHo oFa oCe oDe; omega) (by unfold oSt; omega) (by unfold oAn; omega)
  have e1 : oBr i < 2 + 11 * n := by unfold oBr; omega
  refine ⟨(hx _ e1).1, (hx _ e1).2.2.2, fun s hs => ?_⟩
  have e2 : oBs i s < 2 + 11 * n := by unfold oBs; omega
  have e3 : oLs i s 0 < 2 + 11 * n := by unfold oLs; omega
  have e4 : oLs i s 1 < 2 + 11 * n := by unfold oLs; omega
  exact ⟨(hx _ e2).1, by rw [(hx _ e3).1], by rw [(hx _ e4).1]⟩
theorem cCpO_P {c d : Nat} (hd : d < 2) : same4 C (cCpO C n c d) (oPo n) ∧ same4 C (cCpO C n c d) (oOf n) :=
  ⟨cCpO_fr (fun s' hs' => by unfold oPo oSb oHo oFa oCe oDe; omega) (by unfold oPo oSt; omega) (by unfold oPo oAn; omega), cCpO_fr (fun s' hs' => by unfold oOf oSb oHo oFa oCe oDe; omega) (by unfold oOf oSt; omega) (by unfold oOf oAn; omega)⟩
/-- the office writes down what it knows -/
theorem RR.saveO {C0 : cS} {M0 : mS} (h : RR e S F n C0 M0 ρ f T) (hL : LLs e S F n C ρ' f) (hok : mOK M) (h1 : M.2.2.2.1 1 = M0.2.2.2.1 1) (h34 : M.2.2.2.1 34 = M0.2.2.2.1 34) (hk : kp S F ρ ρ') (hrow : ∀ r, 1 ≤ r → r < 20 → M.1 r = M0.1 r) (h33 : M.1 33 = M0.1 33) (h2 : M.2.1 11 = M0.2.1 11) (h3 : M.2.2.1 10 = M0.2.2.1 10) (hcB : ∀ i, i < n → sBc C0 C i) (hcP : C.1 (oPo n) 1 = C0.1 (oPo n) 1) (hcU : C.1 (oOf n) 6 = C0.1 (oOf n) 6) (hu : vO M0 n = 0) (hOB : ∀ s, s < 3 → OB S F ρ' C M n 0 s s) (hSt : ∀ b, b < n → C.1 (oSt n 0) b = M.1 28 b) (hAN : ∀ b, b < n → AN F ρ' C M n b) (hl : lK n M0 M) (h22 : ∀ s, s < 3 → M0.1 22 (3 + s) ≤ M.1 22 s) (hIN : ∀ b, b < n → IN0 (mCpO M 0 1) b T ∧ INv (mCpO M 0 1) b (vw M0 b) T ∧ INv (mCpO M 0 1) b (b + 6) T) : RR e S F n (cCpO C n 0 1) (mCpO M 0 1) ρ' f T := by
  have hn := h.n6
  have hrO : ∀ r, 1 ≤ r → r < 20 → (mCpO M 0 1).1 r = M0.1 r := fun r h1 h2 => by rw [mCpO_row (Or.inl h2), hrow r h1 h2]
  have hv : vO (mCpO M 0 1) n = 0 := by unfold vO at hu ⊢; rw [hrO 1 (by omega) (by omega)]; exact hu
  have rA : ∀ r b, 28 ≤ r → r ≤ 32 → b < n → (mCpO M 0 1).1 r b = M.1 r b ∧ (mCpO M 0 1).1 r (6 + b) = M.1 r b := fun r b h1 h2 hb => by
    rw [mCpO_A ⟨h1, h2⟩, mCpO_A ⟨h1, h2⟩, if_neg (by omega), if_pos (by omega), show 6 * 0 + (6 + b - 6 * 1) = b by omega]
    exact ⟨rfl, rfl⟩
  have rB : ∀ r s, 20 ≤ r → r ≤ 22 → s < 3 → (mCpO M 0 1).1 r s = M.1 r s ∧ (mCpO M 0 1).1 r (3 + s) = M.1 r s := fun r s h1 h2 hs => by
    rw [mCpO_B ⟨h1, h2⟩, mCpO_B ⟨h1, h2⟩, if_neg (by omega), if_pos (by omega), show 3 * 0 + (3 + s - 3 * 1) = s by omega]
    exact ⟨rfl, rfl⟩
  refine h.off (hL.off (by omega)) (mCpO_ok hok) h1 h34 hk (fun r h1 h2 => hrO r (by omega) h2) (by rw [mCpO_row (Or.inr (by omega))]; exact h33) (fun i hi => by rw [hrO 1 (by omega) (by omega)]) (by rw [mCpO_IL.1]; exact h2) (by rw [mCpO_IL.2]; exact h3) (fun i hi => ?_) ?_ ?_ (fun s hs => ?_) (fun b hb => ?_) (fun b hb => ?_) hIN (fun s hs => ?_)
  · have c1 := cCpO_B (C := C) (c := 0) (d := 1) hi (by omega)
    have c0 := hcB i hi
    exact ⟨c1.1.trans c0.1, c1.2.1.trans c0.2.1, fun s hs => ⟨(c1.2.2 s hs).1.trans (c0.2.2 s hs).1, (c1.2.2 s hs).2.1.trans (c0.2.2 s hs).2.1, (c1.2.2 s hs).2.2.trans (c0.2.2 s hs).2.2⟩⟩
  · rw [(cCpO_P (C := C) (n := n) (c := 0) (d := 1) (by omega)).1.1]; exact hcP
  · rw [(cCpO_P (C := C) (n := n) (c := 0) (d := 1) (by omega)).2.1, hrO 1 (by omega) (by omega), hcU]; exact h.2.2.1.2
  · rw [hv, show 3 * 0 + s = s by omega]
    have m0 := mCpO_st (M := M) (u := 0) (v := 1) (by omega) (by omega) (by omega) hs
    have m1 := mCpO_to (M := M) (u := 0) (v := 1) (by omega) (by omega) hs
    rw [show 3 * 0 + s = s by omega] at m0 m1
    refine ⟨(hOB s hs).fx kp.refl (sOc.of (fun x hx => ?_)) m0, (hOB s hs).fx kp.refl (cCpO_bk (by omega) (by omega) (by omega) hs) (by rw [show 3 * 1 + s = 3 + s by omega] at m1; exact m1)⟩
    have := ofc_ne (c := 0) (d := 1) (by omega) (by omega) (by omega) hs hx
    exact cCpO_fr this.1 this.2.1 this.2.2
  · obtain ⟨t1, t2⟩ := cCpO_st (C := C) (n := n) (c := 0) (d := 1) (by omega) (by omega) (by omega) hb
    have t0 : same4 C (cCpO C n 0 1) (oSt n 0) := cCpO_fr (st_ne (by omega) (by omega)) (by unfold oSt; omega) (by unfold oSt oAn; omega)
    have t3 : same4 C (cCpO C n 0 1) (oAn n 0) := cCpO_fr (an_ne (by omega) (by omega)) (by unfold oSt oAn; omega) (by unfold oAn; omega)
    refine ⟨⟨?_, ?_⟩, ⟨?_, fun r h1 h2 => ?_⟩, ?_⟩
    · rw [hv, t0.1, show 6 * 0 + b = b by omega, (rA 28 b (by omega) (by omega) hb).1]; exact hSt b hb
    · rw [t1, (rA 28 b (by omega) (by omega) hb).2]; exact hSt b hb
    · rw [t2, t3.2.2.2]
    · rw [(rA r b (by omega) (by omega) hb).1, (rA r b (by omega) (by omega) hb).2]
    · rw [t3.2.2.2, (rA 29 b (by omega) (by omega) hb).1, (rA 30 b (by omega) (by omega) hb).1, (rA 31 b (by omega) (by omega) hb).1, (rA 32 b (by omega) (by omega) hb).1]
      exact hAN b hb
  · rw [mCpO_row (Or.inl (by omega)), mCpO_row (Or.inl (by omega)), mCpO_row (Or.inl (by omega)), (rA 29 b (by omega) (by omega) hb).1, (rA 30 b (by omega) (by omega) hb).1, (rA 31 b (by omega) (by omega) hb).1, (rA 32 b (by omega) (by omega) hb).1]
    exact hl b hb
  · rw [hv, show 3 * 0 + s = s by omega, (rB 22 s (by omega) (by omega) hs).1, (rB 22 s (by omega) (by omega) hs).2, (rB 20 s (by omega) (by omega) hs).1, (rB 20 s (by omega) (by omega) hs).2]
    exact ⟨rfl, Iff.rfl⟩
end CALL4
