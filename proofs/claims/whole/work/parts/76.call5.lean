section CALL5
variable {g : zG} {e S F n am A B T i s q b x : Nat} {C C' : cS} {M M' : mS} {ρ ρ' : zS} {f f' : Nat → Nat → Nat}
theorem BR.s16 (h : BR F ρ C M f n i) (h1 : 1 ≤ M.1 14 i) : M.1 16 i < 3 := by
  rcases h.2.2.2.2 with ⟨h2, -⟩ | ⟨-, p, fr, -, h2, -⟩
  · omega
  · exact h2.1.1
theorem IN.up (h16 : 1 ≤ M.1 14 b → M.1 16 b < 3) (hrow : ∀ r, r = 2 ∨ r = 5 ∨ r = 7 ∨ r = 14 ∨ r = 15 ∨ r = 16 ∨ r = 18 → M'.1 r = M.1 r) (hA : ∀ r, 29 ≤ r → r ≤ 32 → M'.1 r b = M.1 r b) (h22 : ∀ s, s < 3 → M.1 22 (3 + s) ≤ M'.1 22 (3 + s)) (h0 : IN0 M b T) : IN0 M' b T ∧ ∀ x, INv M b x T → INv M' b x T := by
  unfold IN0 INv at *
  rw [hrow 14 (by omega), hrow 15 (by omega), hrow 16 (by omega), hrow 18 (by omega), hrow 5 (by omega), hrow 2 (by omega), hrow 7 (by omega), hA 29 (by omega) (by omega), hA 30 (by omega) (by omega), hA 31 (by omega) (by omega), hA 32 (by omega) (by omega)]
  refine ⟨⟨h0.1, fun k1 k2 => ⟨(h0.2 k1 k2).1, (h0.2 k1 k2).2.1, fun k3 k4 => ?_⟩⟩, fun x hx => ⟨hx.1, fun s hs => ⟨(hx.2.1 s hs).1, fun k hk => Nat.le_trans ((hx.2.1 s hs).2 k hk) (h22 s hs)⟩, hx.2.2⟩⟩
  have := (h0.2 k1 k2).2.2 k3 k4
  have := h22 _ (h16 k1)
  omega
theorem sb_ne {s s' : Nat} (hs : s < 3) (hs' : s' < 3) (h : ¬ s' = s) {y : Nat} (hy : y = oSb n 0 s' ∨ y = oHo n 0 s' ∨ y = oFa n 0 s' ∨ y = oCe n 0 s' ∨ y = oDe n 0 s') : ¬ y = oSb n 0 s := by
  unfold oSb oHo oFa oCe oDe at *; omega
theorem sb_ne1 {s s' : Nat} (hs : s < 3) (hs' : s' < 3) {y : Nat} (hy : y = oSb n 1 s' ∨ y = oHo n 1 s' ∨ y = oFa n 1 s' ∨ y = oCe n 1 s' ∨ y = oDe n 1 s') : ¬ y = oSb n 0 s := by
  unfold oSb oHo oFa oCe oDe at *; omega
theorem sBc.sb (hx : ∀ x, x < 2 + 11 * n → same4 C C' x) (hi : i < n) : sBc C C' i := by
  have e1 : oBr i < 2 + 11 * n := by unfold oBr; omega
  refine ⟨(hx _ e1).1, (hx _ e1).2.2.2, fun s hs => ?_⟩
  have e2 : oBs i s < 2 + 11 * n := by unfold oBs; omega
  have e3 : oLs i s 0 < 2 + 11 * n := by unfold oLs; omega
  have e4 : oLs i s 1 < 2 + 11 * n := by unfold oLs; omega
  exact ⟨(hx _ e2).1, by rw [(hx _ e3).1], by rw [(hx _ e4).1]⟩
theorem LLs.ofx (h : LLs e S F n C ρ f) (hx : ∀ x, x < 2 + 11 * n ∨ x = oPo n → same4 C C' x) : LLs e S F n C' ρ f := by
  refine h.same (fun j hj hj2 => ?_)
  have : j < 2 + 11 * n ∨ j = oPo n := by
    unfold cF at hj2
    unfold oPo
    by_cases h1 : j < 2 + 11 * n
    · exact Or.inl h1
    · refine Or.inr ?_
      unfold ck at hj
      rw [if_neg (by omega), if_neg (by omega), if_neg h1] at hj
      by_cases h2 : j = 2 + 11 * n
      · rw [if_pos h2] at hj; omega
      · rw [if_neg h2] at hj
        by_cases h3 : j = 3 + 11 * n
        · rw [if_pos h3] at hj; omega
        · rw [if_neg h3] at hj
          by_cases h4 : j = 4 + 11 * n
          · rw [if_pos h4] at hj; omega
          · rw [if_neg h4] at hj
            by_cases h5 : j < 35 + 11 * n
            · rw [if_pos h5] at hj
              split at hj
              · omega
              · split at hj
                · omega
                · split at hj <;> omega
            · rw [if_neg h5] at hj
              by_cases h6 : j < 37 + 11 * n
              · rw [if_pos h6] at hj; omega
              · rw [if_neg h6] at hj
                by_cases h7 : j < 39 + 11 * n
                · rw [if_pos h7] at hj; omega
                · omega
  exact ⟨(hx j this).1, (hx j this).2.2.2⟩
theorem ser_c {y k : Nat} : (∀ x, ¬ x = oSb n 0 s → same4 C (cSN (cSN C (oSb n 0 s) 0 1) (oSb n 0 s) 1 y) x) ∧ (cSN (cSN C (oSb n 0 s) 0 1) (oSb n 0 s) 1 y).1 (oSb n 0 s) 0 = 1 ∧ (cSN (cSN C (oSb n 0 s) 0 1) (oSb n 0 s) 1 y).1 (oSb n 0 s) 1 = y ∧ (cSN (cSN C (oSb n 0 s) 0 1) (oSb n 0 s) 1 y).1 (oSb n 0 s) 2 = C.1 (oSb n 0 s) 2 ∧ (cSN (cSN C (oSb n 0 s) 0 1) (oSb n 0 s) 1 y).2 = C.2 := by
  refine ⟨fun x hx => ⟨?_, rfl, rfl, rfl⟩, ?_, ?_, ?_, rfl⟩
  · funext k; rw [cSN_at, cSN_at, if_neg (fun h => hx h.1), if_neg (fun h => hx h.1)]
  · rw [cSN_at, cSN_at, if_neg (by omega), if_pos ⟨rfl, rfl⟩]
  · rw [cSN_at, if_pos ⟨rfl, rfl⟩]
  · rw [cSN_at, cSN_at, if_neg (by omega), if_neg (by omega)]
theorem ser_m {y : Nat} : (∀ r b, ¬ (r = 20 ∧ b = s) → ¬ (r = 21 ∧ b = s) → (mSN (mSN (mSs M 0 0) 20 s 1) 21 s y).1 r b = M.1 r b) ∧ (mSN (mSN (mSs M 0 0) 20 s 1) 21 s y).1 20 s = 1 ∧ (mSN (mSN (mSs M 0 0) 20 s 1) 21 s y).1 21 s = y := by
  refine ⟨fun r b h1 h2 => ?_, ?_, ?_⟩
  · show (if r = 21 ∧ b = s then y else if r = 20 ∧ b = s then 1 else M.1 r b) = _
    rw [if_neg h2, if_neg h1]
  · show (if 20 = 21 ∧ s = s then y else if 20 = 20 ∧ s = s then 1 else M.1 20 s) = _
    rw [if_neg (by omega), if_pos ⟨rfl, rfl⟩]
  · show (if 21 = 21 ∧ s = s then y else if 21 = 20 ∧ s = s then 1 else M.1 21 s) = _
    rw [if_pos ⟨rfl, rfl⟩]
theorem K_series {x y : Int32} (h : RR e S F n C M ρ f T) (hr : RO ρ M T A B) (hT : T < 512) (hg : g 21 = some q) : CO1 e S F n am A B M ρ T (s_No_series g S x y (cW S n C ρ)) (s_Mo_series g am x y) := by
  have hn := h.n6
  rcases h.uO with ⟨u1, u2, u3⟩ | ⟨u1, u2, u3⟩
  · rcases ix x 3 with hx | ⟨s, hs, rfl⟩
    · exact CO1.same h hr hT (Y_seriesS u1 hx) (fun τ => M_series0 h.m6 u2 hx)
    · obtain ⟨⟨c0, c1, c2⟩, ⟨c3, c4, c5⟩, ck, p, hp, ht⟩ := h.o0 u3 hs
      by_cases h20 : M.1 20 s = 0
      · rcases ix y 10000 with hy | ⟨w, hw, rfl⟩
        · have hy2 : y < 1 ∨ ¬ y ≤ 9999 := by
            rcases hy with h0 | ⟨k, k1, k2, rfl⟩
            · exact Or.inl (Int32.lt_trans h0 (by decide))
            · refine Or.inr ?_
              show ¬ zi k ≤ zi 9999
              rw [zi_le k1 (by omega)]; omega
          exact CO1.same h hr hT (Y_series2 u1 hs hy2) (fun τ => M_series2 h.m6 u2 hs h20 hy2)
        · by_cases hw0 : w = 0
          · subst hw0
            have hy2 : zi 0 < 1 ∨ ¬ zi 0 ≤ 9999 := Or.inl (by decide)
            exact CO1.same h hr hT (Y_series2 u1 hs hy2) (fun τ => M_series2 h.m6 u2 hs h20 hy2)
          · have hw1 : 1 ≤ w ∧ w ≤ 9999 := by omega
            have h1 := Y_series (g := g) (S := S) (ρ := ρ) (C := C) (n := n) u1 hs (by omega) hw1
            obtain ⟨k1, k2, k3, k4, k5⟩ := ser_c (C := C) (n := n) (s := s) (y := w) (k := 0)
            obtain ⟨m1, m2, m3⟩ := ser_m (M := M) (s := s) (y := w)
            have hrow : ∀ r, r < 20 ∨ 22 ≤ r → (mSN (mSN (mSs M 0 0) 20 s 1) 21 s w).1 r = M.1 r := fun r hr => by
              funext b
              exact m1 r b (by omega) (by omega)
            have hv : vO (mSN (mSN (mSs M 0 0) 20 s 1) 21 s w) n = 0 := by unfold vO at u3 ⊢; rw [hrow 1 (by omega)]; exact u3
            have hx : ∀ x, x < 2 + 11 * n ∨ x = oPo n → same4 C (cSN (cSN C (oSb n 0 s) 0 1) (oSb n 0 s) 1 w) x := fun x hx => k1 x (by unfold oPo at hx; unfold oSb; omega)
            have hok : mOK (mSN (mSN (mSs M 0 0) 20 s 1) 21 s w) := by
              refine mOK.set (mOK.set (mOK.set2 h.2.1.1 rfl) ?_) ?_
              · rw [show mbd 20 = 2147483648 by decide]; omega
              · rw [show mbd 21 = 2147483648 by decide]; omega
            refine ⟨.inl 1, zi 1, _, _, ρ, f, h1, fun τ => M_series h.m6 u2 hs h20 hw1, dY.refl, (h.T1.off (h.1.ofx hx) hok rfl rfl kp.refl (fun r h1 h2 => hrow r (by omega)) (hrow 33 (by omega)) (fun i hi => by rw [hrow 1 (by omega)]) rfl rfl (fun i hi => sBc.sb (fun x hx1 => hx x (Or.inl hx1)) hi) (by rw [(hx _ (Or.inr rfl)).1]) ?_ (fun s' hs' => ?_) (fun b hb => ?_) (fun b hb => ?_) (fun b hb => ?_) (fun s' hs' => ?_)), hr.cl hT ?_ (by omega) (by omega), Or.inl ⟨rfl, rfl⟩⟩
            · rw [(k1 _ (show ¬ oOf n = oSb n 0 s by unfold oOf oSb; omega)).1, hrow 1 (by omega)]; exact h.2.2.1.2
            · rw [hv, show 3 * 0 + s' = s' by omega]
              have hold := h.2.2.2.2.1 s' hs'
              have hs3 : sO M (mSN (mSN (mSs M 0 0) 20 s 1) 21 s w) (3 + s') (3 + s') := ⟨fun r h1 h2 => m1 r _ (by omega) (by omega), fun k hk => ⟨⟨by rw [hrow 23 (by omega)], by rw [hrow 24 (by omega)], by rw [hrow 27 (by omega)]⟩, rfl, rfl⟩⟩
              refine ⟨?_, hold.2.fx kp.refl (sOc.of (fun x hx => k1 x (sb_ne1 hs hs' hx))) hs3⟩
              by_cases hss : s' = s
              · subst hss
                refine ⟨⟨by rw [k2, m2], by rw [k3, m3], by rw [k4, hrow 22 (by omega)]; exact c2⟩, by rw [m2, m3, hrow 22 (by omega)]; omega, fun k hk => ?_, p, by rw [k5]; exact hp, Or.inl ⟨by rw [m2]; omega, ?_⟩⟩
                · rw [hrow 22 (by omega), hrow 23 (by omega), hrow 24 (by omega), hrow 27 (by omega), (k1 _ (show ¬ oFa n 0 s' = oSb n 0 s' by unfold oFa oSb; omega)).1, (k1 _ (show ¬ oHo n 0 s' = oSb n 0 s' by unfold oHo oSb; omega)).1]
                  exact ck k hk
                · rcases ht with ⟨-, ht⟩ | ⟨ht, -⟩
                  · exact ht
                  · omega
              · have hs4 : sO M (mSN (mSN (mSs M 0 0) 20 s 1) 21 s w) s' s' := ⟨fun r h1 h2 => m1 r _ (by omega) (by omega), fun k hk => ⟨⟨by rw [hrow 23 (by omega)], by rw [hrow 24 (by omega)], by rw [hrow 27 (by omega)]⟩, rfl, rfl⟩⟩
                exact (h.o0 u3 hs').fx kp.refl (sOc.of (fun x hx => k1 x (sb_ne hs hs' hss hx))) hs4
            · refine (h.2.2.2.2.2.1 b hb).fx (S := S) kp.refl (by rw [hrow 1 (by omega)]) (fun r h1 h2 => by rw [hrow r (by omega)]; exact ⟨rfl, rfl⟩) (fun c hc => ?_)
              rw [(k1 _ (show ¬ oSt n c = oSb n 0 s by unfold oSt oSb; omega)).1]
              exact ⟨rfl, rfl⟩
            · rw [hrow 14 (by omega), hrow 15 (by omega), hrow 16 (by omega), hrow 29 (by omega), hrow 30 (by omega), hrow 31 (by omega), hrow 32 (by omega)]
              exact lK.refl b hb
            · obtain ⟨i0, i1, i2⟩ := h.T1.2.2.2.2.2.2.2.1 b hb
              have := IN.up (M' := mSN (mSN (mSs M 0 0) 20 s 1) 21 s w) (h.2.2.2.1 b hb).s16 (fun r hr => hrow r (by omega)) (fun r h1 h2 => by rw [hrow r (by omega)]) (fun s hs => by rw [hrow 22 (by omega)]; exact Nat.le_refl _) i0
              exact ⟨this.1, this.2 _ i1, this.2 _ i2⟩
            · have hG := h.2.2.2.2.2.2.2.2 s' hs'
              rw [hv, show 3 * 0 + s' = s' by omega, hrow 22 (by omega), m1 20 (3 + s') (by omega) (by omega)]
              rw [u3, show 3 * 0 + s' = s' by omega] at hG
              refine ⟨hG.1, ?_⟩
              by_cases hss : s' = s
              · subst hss
                rw [m2]
                exact ⟨fun h2 => by have := hG.2.mp h2; omega, fun h2 => by omega⟩
              · rw [m1 20 s' (by omega) (by omega)]
                exact hG.2
            · unfold cl
              rw [m1 20 3 (by omega) (by omega), m1 20 4 (by omega) (by omega), m1 20 5 (by omega) (by omega)]
      · exact CO1.same h hr hT (Y_series1 u1 hs (by omega) (by omega)) (fun τ => M_series1 h.m6 u2 hs h20 h.2.1.1)
  · exact CO1.ex h hr hT (Y_seriesD h.hF u1 hg) (fun τ => M_seriesD h.m6 u2)
end CALL5
