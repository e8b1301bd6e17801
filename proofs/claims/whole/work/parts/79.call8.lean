section CALL8
variable {g : zG} {e S F n am A B T i s q b x : Nat} {C C' : cS} {M M' : mS} {ρ ρ' : zS} {f f' : Nat → Nat → Nat}
/-- outside the rows of branch i nothing differs -/
def oB (i : Nat) (M M' : mS) : Prop := (∀ k, ¬ k = i → M'.1 1 k = M.1 1 k) ∧ (∀ r k, 2 ≤ r → r ≤ 6 → ¬ k / 3 = i → ¬ k / 3 = i + 6 → M'.1 r k = M.1 r k) ∧ (∀ r k, (r = 7 ∨ r = 8 ∨ r = 9 ∨ r = 12) → ¬ k / 900 = i → ¬ k / 900 = i + 6 → M'.1 r k = M.1 r k) ∧ (∀ k, ¬ k / 1800 = i → ¬ k / 1800 = i + 6 → M'.1 13 k = M.1 13 k) ∧ (∀ r k, 14 ≤ r → r ≤ 19 → ¬ k = i → ¬ k = i + 6 → M'.1 r k = M.1 r k) ∧ (∀ r, 20 ≤ r → r ≤ 33 → M'.1 r = M.1 r) ∧ (∀ k, ¬ k / 900 = i → ¬ k / 900 = i + 6 → M'.2.1 11 k = M.2.1 11 k) ∧ M'.2.1 26 = M.2.1 26 ∧ (∀ k, ¬ k / 900 = i → ¬ k / 900 = i + 6 → M'.2.2.1 10 k = M.2.2.1 10 k) ∧ M'.2.2.1 25 = M.2.2.1 25 ∧ M'.2.2.2.1 1 = M.2.2.2.1 1 ∧ M'.2.2.2.1 34 = M.2.2.2.1 34
theorem oB.refl : oB i M M := ⟨fun _ _ => rfl, fun _ _ _ _ _ _ => rfl, fun _ _ _ _ _ => rfl, fun _ _ _ => rfl, fun _ _ _ _ _ _ => rfl, fun _ _ _ => rfl, fun _ _ _ => rfl, rfl, fun _ _ _ => rfl, rfl, rfl, rfl⟩
theorem oB.trans {M'' : mS} (h : oB i M M') (h' : oB i M' M'') : oB i M M'' := by
  obtain ⟨a1, a2, a3, a4, a5, a6, a7, a8, a9, a10, a11, a12⟩ := h
  obtain ⟨b1, b2, b3, b4, b5, b6, b7, b8, b9, b10, b11, b12⟩ := h'
  exact ⟨fun k h => (b1 k h).trans (a1 k h), fun r k h1 h2 h3 h4 => (b2 r k h1 h2 h3 h4).trans (a2 r k h1 h2 h3 h4), fun r k h1 h2 h3 => (b3 r k h1 h2 h3).trans (a3 r k h1 h2 h3), fun k h1 h2 => (b4 k h1 h2).trans (a4 k h1 h2), fun r k h1 h2 h3 h4 => (b5 r k h1 h2 h3 h4).trans (a5 r k h1 h2 h3 h4), fun r h1 h2 => (b6 r h1 h2).trans (a6 r h1 h2), fun k h1 h2 => (b7 k h1 h2).trans (a7 k h1 h2), b8.trans a8, fun k h1 h2 => (b9 k h1 h2).trans (a9 k h1 h2), b10.trans a10, b11.trans a11, b12.trans a12⟩
theorem oB.th {k v : Nat} (hk : k = 0 ∨ k = 37 ∨ k = 38) : oB i M (mSs M k v) := by
  refine ⟨fun _ _ => rfl, fun _ _ _ _ _ _ => rfl, fun _ _ _ _ _ => rfl, fun _ _ _ => rfl, fun _ _ _ _ _ _ => rfl, fun _ _ _ => rfl, fun _ _ _ => rfl, rfl, fun _ _ _ => rfl, rfl, ?_, ?_⟩
  · show (if 1 = k then v else M.2.2.2.1 1) = _; rw [if_neg (by omega)]
  · show (if 34 = k then v else M.2.2.2.1 34) = _; rw [if_neg (by omega)]
theorem oB.N {r k v : Nat} (h : (r = 1 ∧ k = i) ∨ (2 ≤ r ∧ r ≤ 6 ∧ (k / 3 = i ∨ k / 3 = i + 6)) ∨ ((r = 7 ∨ r = 8 ∨ r = 9 ∨ r = 12) ∧ (k / 900 = i ∨ k / 900 = i + 6)) ∨ (r = 13 ∧ (k / 1800 = i ∨ k / 1800 = i + 6)) ∨ (14 ≤ r ∧ r ≤ 19 ∧ (k = i ∨ k = i + 6))) : oB i M (mSN M r k v) := by
  have e : ∀ a b, ¬ (a = r ∧ b = k) → (mSN M r k v).1 a b = M.1 a b := fun a b h => if_neg h
  refine ⟨fun k' h1 => e _ _ ?_, fun r' k' h1 h2 h3 h4 => e _ _ ?_, fun r' k' h1 h2 h3 => e _ _ ?_, fun k' h1 h2 => e _ _ ?_, fun r' k' h1 h2 h3 h4 => e _ _ ?_, fun r' h1 h2 => funext (fun k' => e _ _ ?_), fun _ _ _ => rfl, rfl, fun _ _ _ => rfl, rfl, rfl, rfl⟩
  all_goals (rintro ⟨rfl, rfl⟩; omega)
theorem oB.I {k : Nat} {v : Int32} (h : k / 900 = i ∨ k / 900 = i + 6) : oB i M (mSI M 11 k v) := by
  refine ⟨fun _ _ => rfl, fun _ _ _ _ _ _ => rfl, fun _ _ _ _ _ => rfl, fun _ _ _ => rfl, fun _ _ _ _ _ _ => rfl, fun _ _ _ => rfl, fun k' h1 h2 => ?_, ?_, fun _ _ _ => rfl, rfl, rfl, rfl⟩
  · show (if 11 = 11 ∧ k' = k then v else M.2.1 11 k') = _
    rw [if_neg (by rintro ⟨-, rfl⟩; omega)]
  · funext k'
    show (if 26 = 11 ∧ k' = k then v else M.2.1 26 k') = _
    rw [if_neg (by omega)]
theorem oB.L {k : Nat} {v : Int64} (h : k / 900 = i ∨ k / 900 = i + 6) : oB i M (mSL M 10 k v) := by
  refine ⟨fun _ _ => rfl, fun _ _ _ _ _ _ => rfl, fun _ _ _ _ _ => rfl, fun _ _ _ => rfl, fun _ _ _ _ _ _ => rfl, fun _ _ _ => rfl, fun _ _ _ => rfl, rfl, fun k' h1 h2 => ?_, ?_, rfl, rfl⟩
  · show (if 10 = 10 ∧ k' = k then v else M.2.2.1 10 k') = _
    rw [if_neg (by rintro ⟨-, rfl⟩; omega)]
  · funext k'
    show (if 25 = 10 ∧ k' = k then v else M.2.2.1 25 k') = _
    rw [if_neg (by omega)]
theorem oB.sb {i' : Nat} (h : oB i M M') (hi : i < 6) (hi' : i' < 6) (hne : ¬ i' = i) (h2 : ∀ s, s < 3 → ∀ x, (x = vw M i' ∨ x = i' + 6) → M.1 2 (3 * x + s) ≤ 300 ∧ M.1 5 (3 * x + s) ≤ 600) : sBm M M' i' := by
  obtain ⟨a1, a2, a3, a4, a5, a6, a7, a8, a9, a10, a11, a12⟩ := h
  refine ⟨a1 i' hne, fun r h1 h2 => ⟨a5 r _ h1 h2 (by omega) (by omega), a5 r _ h1 h2 (by omega) (by omega)⟩, fun s hs x hx => ?_⟩
  obtain ⟨b1, b2⟩ := h2 s hs x hx
  have hx2 : x = i' ∨ x = i' + 6 := by
    rcases hx with rfl | rfl
    · exact vw_or
    · exact Or.inr rfl
  refine ⟨fun r h1 h2 => a2 r _ h1 h2 (by omega) (by omega), fun k hk => ⟨⟨a3 7 _ (by omega) (by omega) (by omega), a3 8 _ (by omega) (by omega) (by omega), a3 9 _ (by omega) (by omega) (by omega), a3 12 _ (by omega) (by omega) (by omega)⟩, a7 _ (by omega) (by omega), a9 _ (by omega) (by omega)⟩, fun t ht => a4 _ (by omega) (by omega)⟩
theorem RR.bdd (h : RR e S F n C M ρ f T) (hT : T ≤ 600) (hi : i < n) (hs : s < 3) (hx : x = vw M i ∨ x = i + 6) : M.1 2 (3 * x + s) ≤ 300 ∧ M.1 3 (3 * x + s) ≤ M.1 2 (3 * x + s) ∧ M.1 5 (3 * x + s) ≤ 600 := by
  obtain ⟨b1, b2, b3⟩ := h.2.2.2.2.2.2.2.1 i hi
  have hB := h.2.2.2.1 i hi
  rcases hx with rfl | rfl
  · have := (hB.1.2 s hs).own
    have := (b2.2.1 s hs).1
    omega
  · have := (hB.2.1.2 s hs).own
    have := (b3.2.1 s hs).1
    omega
theorem IN.sb (hm : sBm M M' b) (hr : ∀ r, 20 ≤ r → r ≤ 33 → M'.1 r = M.1 r) (h16 : 1 ≤ M.1 14 b → M.1 16 b < 3) (h0 : IN0 M b T) (hx : x = vw M b ∨ x = b + 6) (h1 : INv M b x T) : IN0 M' b T ∧ INv M' b x T := by
  have hx2 : x = b ∨ x = b + 6 := by
    rcases hx with rfl | rfl
    · exact vw_or
    · exact Or.inr rfl
  have e : ∀ r, 14 ≤ r → r ≤ 19 → M'.1 r b = M.1 r b := fun r k1 k2 => (hm.2.1 r k1 k2).1
  have ex : M'.1 18 x = M.1 18 x := hm.r (by omega) hx2
  unfold IN0 INv at *
  rw [e 14 (by omega) (by omega), e 15 (by omega) (by omega), e 16 (by omega) (by omega), ex, hr 29 (by omega) (by omega), hr 30 (by omega) (by omega), hr 31 (by omega) (by omega), hr 32 (by omega) (by omega), hr 22 (by omega) (by omega)]
  refine ⟨h0, h1.1, fun s hs => ?_, fun hl k1 k2 k3 k4 k hk => ?_⟩
  · obtain ⟨s1, s2, s3⟩ := hm.sk hs hx
    rw [s1 5 (by omega) (by omega), s1 2 (by omega) (by omega)]
    refine ⟨(h1.2.1 s hs).1, fun k hk => ?_⟩
    rw [(s2 k hk).1.1]
    exact (h1.2.1 s hs).2 k hk
  · obtain ⟨s1, s2, s3⟩ := hm.sk (h16 hl) hx
    rw [s1 2 (by omega) (by omega)] at hk
    rw [(s2 k hk).1.1]
    exact h1.2.2 hl k1 k2 k3 k4 k hk
/-- only branch i has changed -/
theorem RR.brn (h : RR e S F n C M ρ f T) (hT : T ≤ 600) (hi : i < n) (hL : LLs e S F n C' ρ' f') (hok : mOK M') (hk : kp S F ρ ρ') (hm : oB i M M') (hc : ∀ x, ¬ (2 + 11 * i ≤ x ∧ x < 13 + 11 * i) → same4 C C' x) (hf : ∀ o, ¬ (2 + 11 * i ≤ o ∧ o < 13 + 11 * i) → f' o = f o) (hB : BR F ρ' C' M' f' n i) (hU : C'.1 (oBr i) 8 = 1 - M'.1 1 i) (hev : ∀ s, s < 3 → C.1 (oBs i s) 6 ≤ C'.1 (oBs i s) 6 ∧ ∀ t, t < C.1 (oBs i s) 6 → f' (oLs i s 1) t = f (oLs i s 1) t) (hl : (M'.1 14 i = M.1 14 i ∧ M'.1 15 i = M.1 15 i ∧ M'.1 16 i = M.1 16 i) ∨ M.1 14 i < M'.1 14 i) (hIN : IN0 M' i T ∧ INv M' i (vw M' i) T ∧ INv M' i (i + 6) T) : RR e S F n C' M' ρ' f' T := by
  have hn := h.n6
  have hbd := fun i' (hi' : i' < n) => fun s (hs : s < 3) x hx => h.bdd hT hi' hs (x := x) hx
  have hsb : ∀ i', i' < n → ¬ i' = i → sBm M M' i' := fun i' hi' hne => hm.sb (by omega) (by omega) hne (fun s hs x hx => by have := hbd i' hi' s hs x hx; omega)
  have hrow := hm.2.2.2.2.2.1
  have h1n : M'.1 1 n = M.1 1 n := hm.1 n (by omega)
  have hv : vO M' n = vO M n := by unfold vO; rw [h1n]
  obtain ⟨a1, a2, a3, a4, a5, a6, a7, a8, a9⟩ := h
  have hsc : ∀ i', i' < n → ¬ i' = i → sBc C C' i' := fun i' hi' hne => by
    have e1 := hc (oBr i') (by unfold oBr; omega)
    refine ⟨e1.1, e1.2.2.2, fun s hs => ?_⟩
    have e2 := hc (oBs i' s) (by unfold oBs; omega)
    have e3 := hc (oLs i' s 0) (by unfold oLs; omega)
    have e4 := hc (oLs i' s 1) (by unfold oLs; omega)
    exact ⟨e2.1, by rw [e3.1], by rw [e4.1]⟩
  have hevK : evK n C f C' f' := fun b s hb hs => by
    by_cases hbi : b = i
    · subst hbi; exact hev s hs
    · rw [((hsc b hb hbi).2.2 s hs).1]
      refine ⟨Nat.le_refl _, fun t _ => ?_⟩
      rw [hf (oLs b s 1) (by unfold oLs; omega)]
  have hlK : lK n M M' := fun b hb => by
    rw [hrow 29 (by omega) (by omega), hrow 30 (by omega) (by omega), hrow 31 (by omega) (by omega), hrow 32 (by omega) (by omega)]
    refine ⟨?_, Or.inl ⟨rfl, rfl, rfl, rfl⟩⟩
    by_cases hbi : b = i
    · subst hbi; exact hl
    · have := (hsb b hb hbi).2.1
      exact Or.inl ⟨(this 14 (by omega) (by omega)).1, (this 15 (by omega) (by omega)).1, (this 16 (by omega) (by omega)).1⟩
  have hsO : ∀ j, sO M M' j j := fun j => sO.eqr (fun r k1 k2 => hrow r k1 (by omega)) hm.2.2.2.2.2.2.2.1 hm.2.2.2.2.2.2.2.2.2.1
  have hcO : ∀ c, c < 2 → ∀ s, s < 3 → sOc C C' n c c s := fun c hc2 s hs => sOc.of (fun x hx => hc x (by unfold oSb oHo oFa oCe oDe at hx; omega))
  refine ⟨hL, ⟨hok, a2.2.1, hm.2.2.2.2.2.2.2.2.2.2.1.trans a2.2.2⟩, ⟨fun i' hi' => ?_, ?_⟩, fun i' hi' => ?_, fun s hs => ?_, fun b hb => ?_, ?_, fun b hb => ?_, ?_⟩
  · by_cases hii : i' = i
    · subst hii; exact hU
    · rw [(hsc i' hi' hii).1, (hsb i' hi' hii).1]; exact a3.1 i' hi'
  · rw [(hc (oOf n) (by unfold oOf; omega)).1, h1n]; exact a3.2
  · by_cases hii : i' = i
    · subst hii; exact hB
    · exact (a4 i' hi').fx hk (hsc i' hi' hii) (hsb i' hi' hii) (fun s hs => ⟨fun b _ => by rw [hf (oLs i' s 0) (by unfold oLs; omega)], fun b _ => by rw [hf (oLs i' s 1) (by unfold oLs; omega)]⟩) hi'
  · rw [hv]
    exact ⟨(a5 s hs).1.fx hk (hcO 0 (by omega) s hs) (hsO _), (a5 s hs).2.fx hk (hcO 1 (by omega) s hs) (hsO _)⟩
  · refine (a6 b hb).fx hk h1n (fun r k1 k2 => by rw [hrow r (by omega) (by omega)]; exact ⟨rfl, rfl⟩) (fun c hc2 => ?_)
    rw [(hc (oSt n c) (by unfold oSt; omega)).1, (hc (oAn n c) (by unfold oAn; omega)).2.2.2]
    exact ⟨rfl, rfl⟩
  · refine a7.fx hk hevK hlK (by rw [(hc (oPo n) (by unfold oPo; omega)).1]) (fun t _ => by rw [hf (oPo n) (by unfold oPo; omega)]) (hrow 33 (by omega) (by omega)) hm.2.2.2.2.2.2.2.2.2.2.2
  · by_cases hbi : b = i
    · subst hbi; exact hIN
    · have hs := hsb b hb hbi
      have hvw : vw M' b = vw M b := vw_eq hs.1
      rw [hvw]
      obtain ⟨i0, i1, i2⟩ := a8 b hb
      have q1 := IN.sb hs hrow (a4 b hb).s16 i0 (Or.inl rfl) i1
      have q2 := IN.sb hs hrow (a4 b hb).s16 i0 (Or.inr rfl) i2
      exact ⟨q1.1, q1.2, q2.2⟩
  · unfold GI
    rw [hv, hrow 22 (by omega) (by omega), hrow 20 (by omega) (by omega)]
    exact a9
end CALL8
