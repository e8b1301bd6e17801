section REL2
variable {e S F n i s : Nat} {C C' : cS} {M M' : mS} {ρ ρ' : zS} {f f' : Nat → Nat → Nat} {p kd b num ser much fr T : Nat}
def LET (F : Nat) (ρ : zS) (f : Nat → Nat → Nat) (C : cS) (n p kd b num ser much fr : Nat) : Prop := (ser < 3 ∧ b < n) ∧ ∃ w ev, isLet F ρ p ser w ev kd b num ∧ ((kd = 1 ∧ w = much ∧ 1 ≤ much ∧ much ≤ 100) ∨ (kd = 2 ∧ isEvA F ρ ev much (gEv f (oLs b ser 1) fr much) ∧ (1 ≤ much ∧ much ≤ 30) ∧ fr + much ≤ C.1 (oBs b ser) 6))
def ANS (F : Nat) (ρ : zS) (p b num a fi mn : Nat) : Prop := ∃ st bl, isAns F ρ p st bl b num ∧ ((a = 3 ∧ st = 1) ∨ (a = 2 ∧ st = 0) ∨ (a = 1 ∧ st = 0 ∧ ((mn = 0 ∧ bl = none) ∨ ((1 ≤ mn ∧ 1 ≤ fi ∧ fi + mn ≤ 301) ∧ ∃ q, bl = some q ∧ isBlk F ρ q fi mn))))
/-- the safe events of every branch stay -/
def evK (n : Nat) (C : cS) (f : Nat → Nat → Nat) (C' : cS) (f' : Nat → Nat → Nat) : Prop := ∀ b s, b < n → s < 3 → C.1 (oBs b s) 6 ≤ C'.1 (oBs b s) 6 ∧ ∀ t, t < C.1 (oBs b s) 6 → f' (oLs b s 1) t = f (oLs b s 1) t
theorem evK.refl : evK n C f C f := fun _ _ _ _ => ⟨Nat.le_refl _, fun _ _ => rfl⟩
theorem LET.mono (h : LET F ρ f C n p kd b num ser much fr) (hk : kp S F ρ ρ') (hC : evK n C f C' f') : LET F ρ' f' C' n p kd b num ser much fr := by
  obtain ⟨⟨h1, h2⟩, w, ev, h3, h4⟩ := h
  refine ⟨⟨h1, h2⟩, w, ev, hk.ob h3, ?_⟩
  rcases h4 with h4 | ⟨k1, k2, k3, k4⟩
  · exact Or.inl h4
  · obtain ⟨c1, c2⟩ := hC b ser h2 h1
    refine Or.inr ⟨k1, ?_, k3, by omega⟩
    have hg : gEv f' (oLs b ser 1) fr much = gEv f (oLs b ser 1) fr much := by
      funext k
      unfold gEv
      by_cases hk : k < much
      · rw [if_pos hk, if_pos hk, c2 _ (by omega)]
      · rw [if_neg hk, if_neg hk]
    rw [hg]
    exact hk.ev k2
theorem ANS.mono {a fi mn : Nat} (h : ANS F ρ p b num a fi mn) (hk : kp S F ρ ρ') : ANS F ρ' p b num a fi mn := by
  obtain ⟨st, bl, h1, h2⟩ := h
  refine ⟨st, bl, hk.ob h1, ?_⟩
  rcases h2 with h2 | h2 | ⟨h2, h3, h4 | ⟨h4, q, h5, h6⟩⟩
  · exact Or.inl h2
  · exact Or.inr (Or.inl h2)
  · exact Or.inr (Or.inr ⟨h2, h3, Or.inl h4⟩)
  · exact Or.inr (Or.inr ⟨h2, h3, Or.inr ⟨h4, q, h5, hk.ob h6⟩⟩)
/-- which copy of branch i, of the office, is the one that speaks -/
def vw (M : mS) (i : Nat) : Nat := if M.1 1 i = 0 then i else i + 6
def vO (M : mS) (n : Nat) : Nat := if M.1 1 n = 0 then 0 else 1
def nowV (C : cS) (F : Nat) (ρ : zS) (M : mS) (f : Nat → Nat → Nat) (i x : Nat) : Prop := (C.1 (oBr i) 3 = M.1 18 x ∧ C.1 (oBr i) 4 = M.1 19 x) ∧ ∀ s, s < 3 → BK F ρ M f (oLs i s 0) (oLs i s 1) (C.1 (oLs i s 0) 1) (C.1 (oLs i s 1) 1) (C.1 (oBs i s) 2) (C.1 (oBs i s) 3) (C.1 (oBs i s) 4) (3 * x + s)
def safV (C : cS) (F : Nat) (ρ : zS) (M : mS) (f : Nat → Nat → Nat) (i x : Nat) : Prop := (C.1 (oBr i) 6 = M.1 18 x ∧ C.1 (oBr i) 7 = M.1 19 x) ∧ ∀ s, s < 3 → BK F ρ M f (oLs i s 0) (oLs i s 1) (C.1 (oBs i s) 5) (C.1 (oBs i s) 6) (C.1 (oBs i s) 7) (C.1 (oBs i s) 8) (C.1 (oBs i s) 9) (3 * x + s)
def LTv (M : mS) (i x fr : Nat) : Prop := M.1 15 i = 2 → M.1 18 x = 1 → M.1 6 (3 * x + M.1 16 i) = fr
def BR (F : Nat) (ρ : zS) (C : cS) (M : mS) (f : Nat → Nat → Nat) (n i : Nat) : Prop :=
  nowV C F ρ M f i (vw M i) ∧ safV C F ρ M f i (i + 6) ∧ (∀ s, s < 3 → C.1 (oBs i s) 5 ≤ C.1 (oLs i s 0) 1 ∧ C.1 (oBs i s) 6 ≤ C.1 (oLs i s 1) 1) ∧
  (C.2.2.2 (oBr i) 5 = C.2.2.2 (oBr i) 2 ∧ ∀ r, 14 ≤ r → r ≤ 17 → M.1 r (i + 6) = M.1 r i) ∧
  ((M.1 14 i = 0 ∧ C.2.2.2 (oBr i) 2 = none ∧ M.1 18 (vw M i) = 0 ∧ M.1 18 (i + 6) = 0) ∨ (1 ≤ M.1 14 i ∧ ∃ p fr, C.2.2.2 (oBr i) 2 = some p ∧ LET F ρ f C n p (M.1 15 i) i (M.1 14 i) (M.1 16 i) (M.1 17 i) fr ∧ LTv M i (vw M i) fr ∧ LTv M i (i + 6) fr))
/-- the rows of branch i are the same -/
def sBc (C C' : cS) (i : Nat) : Prop := C'.1 (oBr i) = C.1 (oBr i) ∧ C'.2.2.2 (oBr i) = C.2.2.2 (oBr i) ∧ ∀ s, s < 3 → C'.1 (oBs i s) = C.1 (oBs i s) ∧ C'.1 (oLs i s 0) 1 = C.1 (oLs i s 0) 1 ∧ C'.1 (oLs i s 1) 1 = C.1 (oLs i s 1) 1
def sBm (M M' : mS) (i : Nat) : Prop := M'.1 1 i = M.1 1 i ∧ (∀ r, 14 ≤ r → r ≤ 19 → M'.1 r i = M.1 r i ∧ M'.1 r (i + 6) = M.1 r (i + 6)) ∧ ∀ s, s < 3 → ∀ x, (x = vw M i ∨ x = i + 6) → sK M M' (3 * x + s) (3 * x + s)
def sBf (C : cS) (f f' : Nat → Nat → Nat) (i : Nat) : Prop := ∀ s, s < 3 → (∀ b, b < C.1 (oLs i s 0) 1 → f' (oLs i s 0) b = f (oLs i s 0) b) ∧ (∀ b, b < C.1 (oLs i s 1) 1 → f' (oLs i s 1) b = f (oLs i s 1) b)
theorem vw_or : vw M i = i ∨ vw M i = i + 6 := by
  unfold vw
  by_cases h : M.1 1 i = 0
  · rw [if_pos h]; exact Or.inl rfl
  · rw [if_neg h]; exact Or.inr rfl
theorem vw_eq (h : M'.1 1 i = M.1 1 i) : vw M' i = vw M i := by unfold vw; rw [h]
theorem sBm.sk (h : sBm M M' i) (hs : s < 3) {x : Nat} (hx : x = vw M i ∨ x = i + 6) : sK M M' (3 * x + s) (3 * x + s) := h.2.2 s hs x hx
theorem sBm.r (h : sBm M M' i) {r x : Nat} (hr : 14 ≤ r ∧ r ≤ 19) (hx : x = i ∨ x = i + 6) : M'.1 r x = M.1 r x := by
  rcases hx with rfl | rfl
  · exact (h.2.1 r hr.1 hr.2).1
  · exact (h.2.1 r hr.1 hr.2).2
theorem LTv.m (h : sBm M M' i) {x : Nat} (hx : x = vw M i ∨ x = i + 6) (h16 : M.1 16 i < 3) (hl : LTv M i x fr) : LTv M' i x fr := by
  intro h1 h2
  have hx2 : x = i ∨ x = i + 6 := by
    rcases hx with rfl | rfl
    · exact vw_or
    · exact Or.inr rfl
  rw [h.r (by omega) (Or.inl rfl)] at h1
  rw [h.r (by omega) hx2] at h2
  rw [h.r (by omega) (Or.inl rfl), (h.sk h16 hx).1 6 (by omega) (by omega)]
  exact hl h1 h2
theorem BR.fx (h : BR F ρ C M f n i) (hk : kp S F ρ ρ') (hc : sBc C C' i) (hm : sBm M M' i) (hf : sBf C f f' i) (hi : i < n) : BR F ρ' C' M' f' n i := by
  obtain ⟨h1, h2, h3, h4, h5⟩ := h
  have ev : vw M' i = vw M i := vw_eq hm.1
  have hv := vw_or (M := M) (i := i)
  obtain ⟨c1, c2, c3⟩ := hc
  refine ⟨⟨?_, fun s hs => ?_⟩, ⟨?_, fun s hs => ?_⟩, fun s hs => ?_, ?_, ?_⟩
  · rw [ev, c1, hm.r (by omega) hv, hm.r (by omega) hv]; exact h1.1
  · rw [ev, (c3 s hs).1, (c3 s hs).2.1, (c3 s hs).2.2]
    exact (((h1.2 s hs).k (hm.sk hs (Or.inl rfl))).kp hk).ff (hf s hs).1 (hf s hs).2
  · rw [c1, hm.r (by omega) (Or.inr rfl), hm.r (by omega) (Or.inr rfl)]; exact h2.1
  · rw [(c3 s hs).1]
    have := h3 s hs
    exact (((h2.2 s hs).k (hm.sk hs (Or.inr rfl))).kp hk).ff (fun b hb => (hf s hs).1 b (by omega)) (fun b hb => (hf s hs).2 b (by omega))
  · rw [(c3 s hs).1, (c3 s hs).2.1, (c3 s hs).2.2]; exact h3 s hs
  · rw [c2]
    refine ⟨h4.1, fun r h14 h17 => ?_⟩
    rw [hm.r (by omega) (Or.inl rfl), hm.r (by omega) (Or.inr rfl)]
    exact h4.2 r h14 h17
  · rw [ev, c2, hm.r (r := 14) (by omega) (Or.inl rfl), hm.r (r := 15) (by omega) (Or.inl rfl), hm.r (r := 16) (by omega) (Or.inl rfl), hm.r (r := 17) (by omega) (Or.inl rfl), hm.r (r := 18) (by omega) hv, hm.r (r := 18) (by omega) (Or.inr rfl)]
    rcases h5 with h5 | ⟨h5, p, fr, a1, a2, a3, a4⟩
    · exact Or.inl h5
    · refine Or.inr ⟨h5, p, fr, a1, ?_, a3.m hm (Or.inl rfl) a2.1.1, a4.m hm (Or.inr rfl) a2.1.1⟩
      have h16 := a2.1.1
      obtain ⟨⟨b1, b2⟩, w, evv, b3, b4⟩ := a2
      refine ⟨⟨b1, b2⟩, w, evv, hk.ob b3, ?_⟩
      rcases b4 with b4 | ⟨k1, k2, k3, k4⟩
      · exact Or.inl b4
      · refine Or.inr ⟨k1, ?_, k3, by rw [(c3 _ h16).1]; exact k4⟩
        have hg : gEv f' (oLs i (M.1 16 i) 1) fr (M.1 17 i) = gEv f (oLs i (M.1 16 i) 1) fr (M.1 17 i) := by
          funext k
          unfold gEv
          by_cases hq : k < M.1 17 i
          · rw [if_pos hq, if_pos hq, (hf _ h16).2 _ (by have := h3 _ h16; omega)]
          · rw [if_neg hq, if_neg hq]
        rw [hg]
        exact hk.ev k2
/-- a book of the office on both sides -/
def OB (S F : Nat) (ρ : zS) (C : cS) (M : mS) (n c s j : Nat) : Prop :=
  (C.1 (oSb n c s) 0 = M.1 20 j ∧ C.1 (oSb n c s) 1 = M.1 21 j ∧ C.1 (oSb n c s) 2 = M.1 22 j) ∧ (M.1 20 j ≤ 2 ∧ M.1 21 j ≤ 9999 ∧ M.1 22 j ≤ 300) ∧
  (∀ k, k < 300 → (C.1 (oFa n c s) k = M.1 23 (300 * j + k) ∧ C.1 (oHo n c s) k = M.1 24 (300 * j + k)) ∧ (M.1 23 (300 * j + k) = 2 → (C.2.2.1 (oCe n c s) k = M.2.2.1 25 (300 * j + k) ∧ C.2.1 (oDe n c s) k = M.2.1 26 (300 * j + k)) ∧ ∃ p, p ≤ 1000000000000 ∧ M.2.2.1 25 (300 * j + k) = zl p) ∧ (M.1 23 (300 * j + k) = 3 → C.2.1 (oDe n c s) k = zi (M.1 27 (300 * j + k))) ∧ (k < M.1 22 j ↔ ¬ M.1 23 (300 * j + k) = 0) ∧ (k < M.1 22 j → M.1 24 (300 * j + k) < n)) ∧
  (∃ p, C.2.2.2 (oSb n c s) 7 = some p ∧ ((¬ M.1 20 j = 2 ∧ strC S F ρ p []) ∨ (M.1 20 j = 2 ∧ strC S F ρ p (tAll M j) ∧ ∀ k, k < M.1 22 j → ¬ M.1 23 (300 * j + k) = 1)))
/-- book j of the office in M stands as book j' in M' -/
def sO (M M' : mS) (j j' : Nat) : Prop := (∀ r, 20 ≤ r → r ≤ 22 → M'.1 r j' = M.1 r j) ∧ ∀ k, k < 300 → (M'.1 23 (300 * j' + k) = M.1 23 (300 * j + k) ∧ M'.1 24 (300 * j' + k) = M.1 24 (300 * j + k) ∧ M'.1 27 (300 * j' + k) = M.1 27 (300 * j + k)) ∧ M'.2.1 26 (300 * j' + k) = M.2.1 26 (300 * j + k) ∧ M'.2.2.1 25 (300 * j' + k) = M.2.2.1 25 (300 * j + k)
theorem sO.refl {j : Nat} : sO M M j j := ⟨fun _ _ _ => rfl, fun _ _ => ⟨⟨rfl, rfl, rfl⟩, rfl, rfl⟩⟩
/-- book s of copy c stands as book s of copy d -/
def sOc (C C' : cS) (n c d s : Nat) : Prop := cpd C C' n c d s
theorem sOc.of {c : Nat} (h : ∀ x, (x = oSb n c s ∨ x = oHo n c s ∨ x = oFa n c s ∨ x = oCe n c s ∨ x = oDe n c s) → same4 C C' x) : sOc C C' n c c s := by
  refine ⟨fun k _ => ?_, fun k _ => ?_, fun k _ => ?_, fun k _ => ?_, fun k _ => ?_, ?_⟩
  · rw [(h _ (Or.inl rfl)).1]
  · rw [(h _ (Or.inr (Or.inl rfl))).1]
  · rw [(h _ (Or.inr (Or.inr (Or.inl rfl)))).1]
  · rw [(h _ (Or.inr (Or.inr (Or.inr (Or.inl rfl))))).2.2.1]
  · rw [(h _ (Or.inr (Or.inr (Or.inr (Or.inr rfl))))).2.1]
  · rw [(h _ (Or.inl rfl)).2.2.2]
theorem tAll_o {j j' : Nat} (h : sO M M' j j') (hg : M.1 22 j ≤ 300) : tAll M' j' = tAll M j := by
  obtain ⟨h1, h2⟩ := h
  have e21 := h1 21 (by omega) (by omega)
  have e22 := h1 22 (by omega) (by omega)
  have hl : ∀ k, k ≤ 300 → tLs M' j' k = tLs M j k := by
    intro k
    induction k with
    | zero => intro _; rfl
    | succ k ih =>
      intro hk
      obtain ⟨⟨a1, a2, a3⟩, a4, a5⟩ := h2 k (by omega)
      rw [tLs, tLs, ih (by omega)]
      unfold tLin
      rw [a1, a3, a4, a5]
  have hm : ∀ k, k ≤ 300 → mSum M' j' 6 k = mSum M j 6 k := by
    intro k
    induction k with
    | zero => intro _; rfl
    | succ k ih =>
      intro hk
      obtain ⟨⟨a1, a2, a3⟩, a4, a5⟩ := h2 k (by omega)
      rw [mSum, mSum, ih (by omega), a1, a2, a5]
  unfold tAll
  rw [e21, e22, hl _ hg, hm _ hg]
theorem OB.fx {c d j j' : Nat} (h : OB S F ρ C M n c s j) (hk : kp S F ρ ρ') (hc : sOc C C' n c d s) (hm : sO M M' j j') : OB S F ρ' C' M' n d s j' := by
  obtain ⟨⟨h1, h2, h3⟩, ⟨h4, h5, h6⟩, h7, p, h8, h9⟩ := h
  have e20 := hm.1 20 (by omega) (by omega)
  have e21 := hm.1 21 (by omega) (by omega)
  have e22 := hm.1 22 (by omega) (by omega)
  obtain ⟨c1, c2, c3, c4, c5, c6⟩ := hc
  refine ⟨⟨by rw [c1 0 (by omega), e20]; exact h1, by rw [c1 1 (by omega), e21]; exact h2, by rw [c1 2 (by omega), e22]; exact h3⟩, by rw [e20, e21, e22]; exact ⟨h4, h5, h6⟩, fun k hk => ?_, p, by rw [c6]; exact h8, ?_⟩
  · obtain ⟨⟨a1, a2, a3⟩, a4, a5⟩ := hm.2 k hk
    rw [c3 k hk, c2 k hk, c4 k hk, c5 k hk, a1, a2, a3, a4, a5, e22]
    exact h7 k hk
  · rw [e20]
    rcases h9 with ⟨h9, h10⟩ | ⟨h9, h10, h11⟩
    · exact Or.inl ⟨h9, hk.st h10⟩
    · refine Or.inr ⟨h9, ?_, fun k hk => ?_⟩
      · rw [tAll_o hm h6]; exact hk.st h10
      · rw [e22] at hk
        rw [(hm.2 k (by omega)).1.1]
        exact h11 k hk
def SA (F : Nat) (ρ : zS) (C : cS) (M : mS) (n b : Nat) : Prop := (C.1 (oSt n 0) b = M.1 28 (6 * vO M n + b) ∧ C.1 (oSt n 1) b = M.1 28 (6 + b)) ∧ (C.2.2.2 (oAn n 1) b = C.2.2.2 (oAn n 0) b ∧ ∀ r, 29 ≤ r → r ≤ 32 → M.1 r (6 + b) = M.1 r b) ∧ ((M.1 29 b = 0 ∧ C.2.2.2 (oAn n 0) b = none) ∨ (1 ≤ M.1 29 b ∧ ∃ p, C.2.2.2 (oAn n 0) b = some p ∧ ANS F ρ p b (M.1 29 b) (M.1 30 b) (M.1 31 b) (M.1 32 b)))
theorem SA.fx (h : SA F ρ C M n b) (hk : kp S F ρ ρ') (h1 : M'.1 1 n = M.1 1 n) (hm : ∀ r, 28 ≤ r → r ≤ 32 → M'.1 r b = M.1 r b ∧ M'.1 r (6 + b) = M.1 r (6 + b)) (hc : ∀ c, c < 2 → C'.1 (oSt n c) b = C.1 (oSt n c) b ∧ C'.2.2.2 (oAn n c) b = C.2.2.2 (oAn n c) b) : SA F ρ' C' M' n b := by
  obtain ⟨⟨a1, a2⟩, ⟨a3, a4⟩, a5⟩ := h
  have ev : vO M' n = vO M n := by unfold vO; rw [h1]
  have e28 : M'.1 28 (6 * vO M n + b) = M.1 28 (6 * vO M n + b) := by
    unfold vO
    by_cases h : M.1 1 n = 0
    · rw [if_pos h, show 6 * 0 + b = b by omega]; exact (hm 28 (by omega) (by omega)).1
    · rw [if_neg h, show 6 * 1 + b = 6 + b by omega]; exact (hm 28 (by omega) (by omega)).2
  refine ⟨⟨?_, ?_⟩, ⟨?_, fun r hr1 hr2 => ?_⟩, ?_⟩
  · rw [ev, e28, (hc 0 (by omega)).1]; exact a1
  · rw [(hm 28 (by omega) (by omega)).2, (hc 1 (by omega)).1]; exact a2
  · rw [(hc 0 (by omega)).2, (hc 1 (by omega)).2]; exact a3
  · rw [(hm r (by omega) (by omega)).1, (hm r (by omega) (by omega)).2]; exact a4 r hr1 hr2
  · rw [(hc 0 (by omega)).2, (hm 29 (by omega) (by omega)).1, (hm 30 (by omega) (by omega)).1, (hm 31 (by omega) (by omega)).1, (hm 32 (by omega) (by omega)).1]
    rcases a5 with a5 | ⟨a5, p, a6, a7⟩
    · exact Or.inl a5
    · exact Or.inr ⟨a5, p, a6, a7.mono hk⟩
/-- one row of the post on both sides -/
def PE (F : Nat) (ρ : zS) (C : cS) (M : mS) (f : Nat → Nat → Nat) (n p r0 b r2 r3 r4 r5 : Nat) : Prop := b < n ∧ 1 ≤ r2 ∧ ((r0 = 3 ∧ ANS F ρ p b r2 r3 r4 r5 ∧ r2 ≤ M.1 29 b ∧ (r2 = M.1 29 b → r3 = M.1 30 b ∧ r4 = M.1 31 b ∧ r5 = M.1 32 b)) ∨ ((r0 = 1 ∨ r0 = 2) ∧ LET F ρ f C n p r0 b r2 r3 r4 r5 ∧ r2 ≤ M.1 14 b ∧ (r2 = M.1 14 b → r0 = M.1 15 b ∧ r3 = M.1 16 b)))
def PO (F : Nat) (ρ : zS) (C : cS) (M : mS) (f : Nat → Nat → Nat) (n : Nat) : Prop := (C.1 (oPo n) 1 = M.2.2.2.1 34 ∧ M.2.2.2.1 34 ≤ 64) ∧ ∀ t, t < M.2.2.2.1 34 → PE F ρ C M f n (f (oPo n) t) (M.1 33 (8 * t)) (M.1 33 (8 * t + 1)) (M.1 33 (8 * t + 2)) (M.1 33 (8 * t + 3)) (M.1 33 (8 * t + 4)) (M.1 33 (8 * t + 5))
/-- the numbers of letters only grow -/
def lK (n : Nat) (M M' : mS) : Prop := ∀ b, b < n → ((M'.1 14 b = M.1 14 b ∧ M'.1 15 b = M.1 15 b ∧ M'.1 16 b = M.1 16 b) ∨ M.1 14 b < M'.1 14 b) ∧ ((M'.1 29 b = M.1 29 b ∧ M'.1 30 b = M.1 30 b ∧ M'.1 31 b = M.1 31 b ∧ M'.1 32 b = M.1 32 b) ∨ M.1 29 b < M'.1 29 b)
theorem lK.refl : lK n M M := fun _ _ => ⟨Or.inl ⟨rfl, rfl, rfl⟩, Or.inl ⟨rfl, rfl, rfl, rfl⟩⟩
theorem PE.mono {r0 r2 r3 r4 r5 : Nat} (h : PE F ρ C M f n p r0 b r2 r3 r4 r5) (hk : kp S F ρ ρ') (hC : evK n C f C' f') (hl : lK n M M') : PE F ρ' C' M' f' n p r0 b r2 r3 r4 r5 := by
  obtain ⟨hb, h0, h⟩ := h
  refine ⟨hb, h0, ?_⟩
  rcases h with ⟨h1, h2, h3, h4⟩ | ⟨h1, h2, h3, h4⟩
  · refine Or.inl ⟨h1, h2.mono hk, ?_⟩
    rcases (hl b hb).2 with ⟨e1, e2, e3, e4⟩ | hlt
    · rw [e1, e2, e3, e4]; exact ⟨h3, h4⟩
    · exact ⟨by omega, fun h => absurd h (by omega)⟩
  · refine Or.inr ⟨h1, h2.mono hk hC, ?_⟩
    rcases (hl b hb).1 with ⟨e1, e2, e3⟩ | hlt
    · rw [e1, e2, e3]; exact ⟨h3, h4⟩
    · exact ⟨by omega, fun h => absurd h (by omega)⟩
theorem PO.fx (h : PO F ρ C M f n) (hk : kp S F ρ ρ') (hC : evK n C f C' f') (hl : lK n M M') (hc : C'.1 (oPo n) 1 = C.1 (oPo n) 1) (hf : ∀ t, t < C.1 (oPo n) 1 → f' (oPo n) t = f (oPo n) t) (hm : M'.1 33 = M.1 33) (h34 : M'.2.2.2.1 34 = M.2.2.2.1 34) : PO F ρ' C' M' f' n := by
  obtain ⟨⟨h1, h2⟩, h3⟩ := h
  refine ⟨⟨by rw [hc, h34]; exact h1, by rw [h34]; exact h2⟩, fun t ht => ?_⟩
  rw [h34] at ht
  rw [hm, hf t (by omega)]
  exact (h3 t ht).mono hk hC hl
/-- what holds on the side of the reference alone -/
def INv (M : mS) (b x T : Nat) : Prop := (M.1 18 x = 0 → M.1 29 b = M.1 14 b) ∧ (∀ s, s < 3 → M.1 5 (3 * x + s) ≤ T ∧ ∀ k, k < M.1 2 (3 * x + s) → M.1 7 (300 * (3 * x + s) + k) ≤ M.1 22 (3 + s)) ∧ (1 ≤ M.1 14 b → M.1 29 b = M.1 14 b → M.1 30 b = 1 → 1 ≤ M.1 32 b → M.1 18 x = 1 → ∀ k, k < M.1 2 (3 * x + M.1 16 b) → M.1 7 (300 * (3 * x + M.1 16 b) + k) < M.1 31 b)
def IN0 (M : mS) (b T : Nat) : Prop := (M.1 29 b ≤ M.1 14 b ∧ M.1 14 b ≤ M.1 29 b + 1 ∧ M.1 14 b ≤ T) ∧ (1 ≤ M.1 14 b → M.1 29 b = M.1 14 b → (M.1 30 b = 1 → M.1 15 b = 1) ∧ (M.1 30 b = 2 → M.1 15 b = 2) ∧ (M.1 30 b = 1 → 1 ≤ M.1 32 b → M.1 31 b + M.1 32 b ≤ M.1 22 (3 + M.1 16 b) + 1))
def cl (M : mS) : Nat := (if M.1 20 3 = 2 then 1 else 0) + (if M.1 20 4 = 2 then 1 else 0) + (if M.1 20 5 = 2 then 1 else 0)
def GI (M : mS) (n : Nat) : Prop := ∀ s, s < 3 → M.1 22 (3 * vO M n + s) = M.1 22 (3 + s) ∧ (M.1 20 (3 + s) = 2 ↔ M.1 20 (3 * vO M n + s) = 2)
def UP (C : cS) (M : mS) (n : Nat) : Prop := (∀ i, i < n → C.1 (oBr i) 8 = 1 - M.1 1 i) ∧ C.1 (oOf n) 6 = 1 - M.1 1 n
def RO (ρ : zS) (M : mS) (T A B : Nat) : Prop := T ≤ 512 ∧ ρ.1 ≤ A + 20 * T + 70002 * cl M ∧ ρ.2.1 ≤ B + 2100 * T + 221000 * cl M
/-- the relation -/
def RR (e S F n : Nat) (C : cS) (M : mS) (ρ : zS) (f : Nat → Nat → Nat) (T : Nat) : Prop :=
  LLs e S F n C ρ f ∧ (mOK M ∧ 1 ≤ n ∧ M.2.2.2.1 1 = n) ∧ UP C M n ∧ (∀ i, i < n → BR F ρ C M f n i) ∧ (∀ s, s < 3 → OB S F ρ C M n 0 s (3 * vO M n + s) ∧ OB S F ρ C M n 1 s (3 + s)) ∧ (∀ b, b < n → SA F ρ C M n b) ∧ PO F ρ C M f n ∧ (∀ b, b < n → IN0 M b T ∧ INv M b (vw M b) T ∧ INv M b (b + 6) T) ∧ GI M n
end REL2
