section CALL7
variable {g : zG} {e S F n am A B T i s q b x : Nat} {C C' : cS} {M M' : mS} {ρ ρ' : zS} {f f' : Nat → Nat → Nat}
theorem cStr_fr {x : Nat} (h1 : ∀ s, s < 3 → ¬ x = oFa n 0 s) (h2 : ¬ x = oSt n 0) : same4 C (cStr C n i) x := by
  refine ⟨?_, rfl, rfl, rfl⟩
  unfold cStr
  rw [cLo_fr (h1 2 (by omega)), cLo_fr (h1 1 (by omega)), cLo_fr (h1 0 (by omega))]
  funext k
  rw [cSN_at, if_neg (fun h => h2 h.1)]
theorem cStr_st {k : Nat} : (cStr C n i).1 (oSt n 0) k = if k = i then 1 else C.1 (oSt n 0) k := by
  unfold cStr
  rw [cLo_fr (by unfold oSt oFa; omega), cLo_fr (by unfold oSt oFa; omega), cLo_fr (by unfold oSt oFa; omega), cSN_at]
  by_cases h : k = i
  · rw [if_pos ⟨rfl, h⟩, if_pos h]
  · rw [if_neg (fun h2 => h h2.2), if_neg h]
theorem cStr_fa {k : Nat} (hs : s < 3) : (cStr C n i).1 (oFa n 0 s) k = if k < C.1 (oSb n 0 s) 2 ∧ C.1 (oFa n 0 s) k = 1 ∧ C.1 (oHo n 0 s) k = i then 4 else C.1 (oFa n 0 s) k := by
  have a1 : ∀ s, s < 3 → (cSN C (oSt n 0) i 1).1 (oFa n 0 s) k = C.1 (oFa n 0 s) k := fun s hs => by rw [cSN_at, if_neg (by unfold oFa oSt; omega)]
  have a2 : ∀ s, s < 3 → (cSN C (oSt n 0) i 1).1 (oHo n 0 s) k = C.1 (oHo n 0 s) k := fun s hs => by rw [cSN_at, if_neg (by unfold oHo oSt; omega)]
  have key : ∀ (D : cS) (K : Nat), D.1 (oFa n 0 s) k = C.1 (oFa n 0 s) k → D.1 (oHo n 0 s) k = C.1 (oHo n 0 s) k → (cLo D n s i K).1 (oFa n 0 s) k = if k < K ∧ C.1 (oFa n 0 s) k = 1 ∧ C.1 (oHo n 0 s) k = i then 4 else C.1 (oFa n 0 s) k := fun D K d1 d2 => by
    rw [cLo_at, d1, d2]
    by_cases h : k < K ∧ C.1 (oFa n 0 s) k = 1 ∧ C.1 (oHo n 0 s) k = i
    · rw [if_pos ⟨rfl, h⟩, if_pos h]
    · rw [if_neg (fun h2 => h h2.2), if_neg h]
  unfold cStr
  rcases (show s = 0 ∨ s = 1 ∨ s = 2 by omega) with rfl | rfl | rfl
  · rw [cLo_fr (by unfold oFa; omega), cLo_fr (by unfold oFa; omega)]
    exact key _ _ (a1 0 hs) (a2 0 hs)
  · rw [cLo_fr (by unfold oFa; omega)]
    refine key _ _ ?_ ?_
    · rw [cLo_fr (by unfold oFa; omega)]; exact a1 1 hs
    · rw [cLo_fr (by unfold oFa oHo; omega)]; exact a2 1 hs
  · refine key _ _ ?_ ?_
    · rw [cLo_fr (by unfold oFa; omega), cLo_fr (by unfold oFa; omega)]; exact a1 2 hs
    · rw [cLo_fr (by unfold oFa oHo; omega), cLo_fr (by unfold oFa oHo; omega)]; exact a2 2 hs
theorem mSt_at {a c : Nat} : (mSt (mSN (mSs M 0 0) 28 b 1) b 900).1 a c = if a = 23 ∧ c < 900 ∧ M.1 23 c = 1 ∧ M.1 24 c = b then 4 else if a = 28 ∧ c = b then 1 else M.1 a c := by
  show (if a = 23 ∧ c < 900 ∧ (if 23 = 28 ∧ c = b then 1 else M.1 23 c) = 1 ∧ (if 24 = 28 ∧ c = b then 1 else M.1 24 c) = b then 4 else if a = 28 ∧ c = b then 1 else M.1 a c) = _
  rw [if_neg (show ¬ (23 = 28 ∧ c = b) by omega), if_neg (show ¬ (24 = 28 ∧ c = b) by omega)]
theorem cSt_cLc (hO : OB S F ρ C M n 0 s s) : ∀ K, K ≤ 300 → cSt M b (300 * s + K) = cSt M b (300 * s) + cLc C n s b K := by
  intro K
  induction K with
  | zero => intro _; rfl
  | succ K ih =>
    intro hK
    rw [show 300 * s + (K + 1) = (300 * s + K) + 1 from rfl, cSt, cLc, ih (by omega), (hO.2.2.1 K (by omega)).1.1, (hO.2.2.1 K (by omega)).1.2]
    omega
theorem cLc_end (hO : OB S F ρ C M n 0 s s) : ∀ m, M.1 22 s + m ≤ 300 → cLc C n s b (M.1 22 s + m) = cLc C n s b (M.1 22 s) := by
  intro m
  induction m with
  | zero => intro _; rfl
  | succ m ih =>
    intro hm
    have h1 := (hO.2.2.1 (M.1 22 s + m) (by omega))
    have h0 : M.1 23 (300 * s + (M.1 22 s + m)) = 0 := by
      have := h1.2.2.2.1
      by_cases h : M.1 23 (300 * s + (M.1 22 s + m)) = 0
      · exact h
      · have := this.mpr h; omega
    rw [show M.1 22 s + (m + 1) = (M.1 22 s + m) + 1 from rfl, cLc, ih (by omega), h1.1.1, h0, if_neg (by omega)]
    exact Nat.add_zero _
theorem K_strike {x : Int32} (h : RR e S F n C M ρ f T) (hr : RO ρ M T A B) (hT : T < 512) (hg : g 21 = some q) : CO1 e S F n am A B M ρ T (s_No_strike g S x (cW S n C ρ)) (s_Mo_strike g am x) := by
  have hn := h.n6
  rcases h.uO with ⟨u1, u2, u3⟩ | ⟨u1, u2, u3⟩
  · rcases ix x n with hx | ⟨b, hb, rfl⟩
    · exact CO1.same h hr hT (Y_strike0 hn u1 hx) (fun τ => M_strike0 h.m6 u2 (by rw [h.2.1.2.2]; exact hx))
    · have hb2 : b < M.2.2.2.1 1 := by rw [h.2.1.2.2]; exact hb
      have hst := h.St u3 hb
      have h28 := mOK.b2 h.2.1.1 (j := 28) (by omega) b
      by_cases h1 : M.1 28 b = 1
      · exact CO1.same h hr hT (Y_strikeC hn hb u1 (Y_strikeOut1 hb hn (by omega))) (fun τ => M_strike1 h.m6 u2 hb2 h1)
      · have hO := fun s (hs : s < 3) => h.o0 u3 hs
        have hf : ∀ s, s < 3 → ∀ k, k < 300 → C.1 (oFa n 0 s) k < 128 := fun s hs k hk => by
          rw [((hO s hs).2.2.1 k hk).1.1]; exact mOK.b128 h.2.1.1 (j := 23) (by omega) _
        have hh : ∀ s, s < 3 → ∀ k, k < 300 → C.1 (oHo n 0 s) k < 128 := fun s hs k hk => by
          rw [((hO s hs).2.2.1 k hk).1.2]; exact mOK.b128 h.2.1.1 (j := 24) (by omega) _
        have h2 := Y_strikeC (g := g) hn hb u1 (Y_strikeOut (S := S) (ρ := ρ) hb hn (by omega) (fun s hs => by rw [(hO s hs).1.2.2]; exact (hO s hs).2.1.2.2) hf hh)
        have hcnt : cSt M b 900 = cStc C n b := by
          have c0 := cSt_cLc (b := b) (hO 0 (by omega)) 300 (Nat.le_refl _)
          have c1 := cSt_cLc (b := b) (hO 1 (by omega)) 300 (Nat.le_refl _)
          have c2 := cSt_cLc (b := b) (hO 2 (by omega)) 300 (Nat.le_refl _)
          have e : ∀ s, s < 3 → cLc C n s b 300 = cLc C n s b (C.1 (oSb n 0 s) 2) := fun s hs => by
            have := cLc_end (b := b) (hO s hs) (300 - M.1 22 s) (by have := (hO s hs).2.1.2.2; omega)
            rw [show M.1 22 s + (300 - M.1 22 s) = 300 by have := (hO s hs).2.1.2.2; omega] at this
            rw [this, (hO s hs).1.2.2]
          rw [e 0 (by omega)] at c0
          rw [e 1 (by omega)] at c1
          rw [e 2 (by omega)] at c2
          rw [show 300 * 0 + 300 = 300 from rfl, show 300 * 0 = 0 from rfl] at c0
          rw [show 300 * 1 + 300 = 600 from rfl, show 300 * 1 = 300 from rfl] at c1
          rw [show 300 * 2 + 300 = 900 from rfl, show 300 * 2 = 600 from rfl] at c2
          have z : cSt M b 0 = 0 := rfl
          unfold cStc
          omega
        have hrow : ∀ r, ¬ r = 23 → ¬ r = 28 → (mSt (mSN (mSs M 0 0) 28 b 1) b 900).1 r = M.1 r := fun r k1 k2 => by
          funext c
          rw [mSt_at, if_neg (fun h => k1 h.1), if_neg (fun h => k2 h.1)]
        have h23 : ∀ c, (mSt (mSN (mSs M 0 0) 28 b 1) b 900).1 23 c = if c < 900 ∧ M.1 23 c = 1 ∧ M.1 24 c = b then 4 else M.1 23 c := fun c => by
          rw [mSt_at, if_neg (show ¬ (23 = 28 ∧ c = b) by omega)]
          by_cases hc : c < 900 ∧ M.1 23 c = 1 ∧ M.1 24 c = b
          · rw [if_pos ⟨rfl, hc⟩, if_pos hc]
          · rw [if_neg (fun h => hc h.2), if_neg hc]
        have h28b : ∀ c, (mSt (mSN (mSs M 0 0) 28 b 1) b 900).1 28 c = if c = b then 1 else M.1 28 c := fun c => by
          rw [mSt_at, if_neg (show ¬ (28 = 23 ∧ _) by omega)]
          by_cases hc : c = b
          · rw [if_pos ⟨rfl, hc⟩, if_pos hc]
          · rw [if_neg (fun h => hc h.2), if_neg hc]
        have hok : mOK (mSt (mSN (mSs M 0 0) 28 b 1) b 900) := by
          intro a c
          rw [mSt_at]
          split
          · rename_i h3; rw [h3.1]; decide
          · split
            · rename_i h3; rw [h3.1]; decide
            · exact h.2.1.1 a c
        have hv : vO (mSt (mSN (mSs M 0 0) 28 b 1) b 900) n = 0 := by unfold vO at u3 ⊢; rw [hrow 1 (by omega) (by omega)]; exact u3
        have hall : ∀ x, x < 2 + 11 * n ∨ x = oPo n → same4 C (cStr C n b) x := fun x hx => cStr_fr (fun s hs => by unfold oPo at hx; unfold oFa; omega) (by unfold oPo at hx; unfold oSt; omega)
        refine ⟨.inl (zi (cStc C n b)), _, _, mSt (mSN (mSs M 0 0) 28 b 1) b 900, ρ, f, h2, fun τ => M_strike h.m6 u2 hb2 (by omega) h.2.1.1, dY.refl, h.T1.off (h.1.ofx hall) hok rfl rfl kp.refl (fun r k1 k2 => hrow r (by omega) (by omega)) (hrow 33 (by omega) (by omega)) (fun i hi => by rw [hrow 1 (by omega) (by omega)]) rfl rfl (fun i hi => sBc.sb (fun x hx => hall x (Or.inl hx)) hi) (by rw [(hall _ (Or.inr rfl)).1]) ?_ (fun s hs => ?_) (fun b' hb' => ?_) (fun b' hb' => ?_) (fun b' hb' => ?_) (fun s hs => ?_), hr.cl hT (cl_row (hrow 20 (by omega) (by omega))) (by omega) (by omega), Or.inl ⟨by rw [hcnt], rfl⟩⟩
        · rw [(cStr_fr (show ∀ s, s < 3 → ¬ oOf n = oFa n 0 s from fun s hs => by unfold oOf oFa; omega) (by unfold oOf oSt; omega)).1, hrow 1 (by omega) (by omega)]
          exact h.2.2.1.2
        · rw [hv, show 3 * 0 + s = s by omega]
          have hsame1 : ∀ x, (x = oSb n 1 s ∨ x = oHo n 1 s ∨ x = oFa n 1 s ∨ x = oCe n 1 s ∨ x = oDe n 1 s) → same4 C (cStr C n b) x := fun x hx => cStr_fr (fun s' hs' => by unfold oSb oHo oFa oCe oDe at hx; unfold oFa; omega) (by unfold oSb oHo oFa oCe oDe at hx; unfold oSt; omega)
          have hs1 : sO M (mSt (mSN (mSs M 0 0) 28 b 1) b 900) (3 + s) (3 + s) := ⟨fun r k1 k2 => by rw [hrow r (by omega) (by omega)], fun k hk => ⟨⟨by rw [h23, if_neg (by omega)], by rw [hrow 24 (by omega) (by omega)], by rw [hrow 27 (by omega) (by omega)]⟩, rfl, rfl⟩⟩
          refine ⟨?_, (h.2.2.2.2.1 s hs).2.fx kp.refl (sOc.of hsame1) hs1⟩
          have hs0 : ∀ x, (x = oSb n 0 s ∨ x = oHo n 0 s ∨ x = oCe n 0 s ∨ x = oDe n 0 s) → same4 C (cStr C n b) x := fun x hx => cStr_fr (fun s' hs' => by unfold oSb oHo oCe oDe at hx; unfold oFa; omega) (by unfold oSb oHo oCe oDe at hx; unfold oSt; omega)
          obtain ⟨⟨c0, c1, c2⟩, ⟨c3, c4, c5⟩, ck, p, hp, ht⟩ := hO s hs
          have hfa : ∀ k, k < 300 → (mSt (mSN (mSs M 0 0) 28 b 1) b 900).1 23 (300 * s + k) = if M.1 23 (300 * s + k) = 1 ∧ M.1 24 (300 * s + k) = b then 4 else M.1 23 (300 * s + k) := fun k hk => by
            rw [h23]
            by_cases hc : M.1 23 (300 * s + k) = 1 ∧ M.1 24 (300 * s + k) = b
            · rw [if_pos ⟨by omega, hc⟩, if_pos hc]
            · rw [if_neg (fun h => hc h.2), if_neg hc]
          refine ⟨⟨?_, ?_, ?_⟩, ?_, fun k hk => ?_, p, ?_, ?_⟩
          · rw [(hs0 _ (Or.inl rfl)).1, hrow 20 (by omega) (by omega)]; exact c0
          · rw [(hs0 _ (Or.inl rfl)).1, hrow 21 (by omega) (by omega)]; exact c1
          · rw [(hs0 _ (Or.inl rfl)).1, hrow 22 (by omega) (by omega)]; exact c2
          · rw [hrow 20 (by omega) (by omega), hrow 21 (by omega) (by omega), hrow 22 (by omega) (by omega)]; exact ⟨c3, c4, c5⟩
          · obtain ⟨⟨k1, k2⟩, k3, k4, k5, k6⟩ := ck k hk
            rw [hfa k hk, cStr_fa hs, hrow 24 (by omega) (by omega), hrow 27 (by omega) (by omega), hrow 22 (by omega) (by omega), (hs0 (oHo n 0 s) (Or.inr (Or.inl rfl))).1, k1, k2, c2]
            by_cases hc : M.1 23 (300 * s + k) = 1 ∧ M.1 24 (300 * s + k) = b
            · have hkg : k < M.1 22 s := k5.mpr (by omega)
              rw [if_pos ⟨hkg, hc⟩, if_pos hc]
              exact ⟨⟨rfl, rfl⟩, fun h => by omega, fun h => by omega, ⟨fun _ => by omega, fun _ => hkg⟩, k6⟩
            · rw [if_neg (fun h => hc h.2), if_neg hc]
              exact ⟨⟨rfl, rfl⟩, k3, k4, k5, k6⟩
          · rw [(hs0 _ (Or.inl rfl)).2.2.2]; exact hp
          · rw [hrow 20 (by omega) (by omega)]
            rcases ht with ht | ⟨t1, t2, t3⟩
            · exact Or.inl ht
            · have hno : ∀ k, k < 300 → ¬ M.1 23 (300 * s + k) = 1 := fun k hk h1 => t3 k ((ck k hk).2.2.2.1.mpr (by omega)) h1
              have hs2 : sO M (mSt (mSN (mSs M 0 0) 28 b 1) b 900) s s := ⟨fun r k1 k2 => by rw [hrow r (by omega) (by omega)], fun k hk => ⟨⟨by rw [hfa k hk, if_neg (fun h => hno k hk h.1)], by rw [hrow 24 (by omega) (by omega)], by rw [hrow 27 (by omega) (by omega)]⟩, rfl, rfl⟩⟩
              refine Or.inr ⟨t1, ?_, fun k hk => ?_⟩
              · rw [tAll_o hs2 c5]; exact t2
              · rw [hrow 22 (by omega) (by omega)] at hk
                rw [hfa k (by omega), if_neg (fun h => hno k (by omega) h.1)]
                exact t3 k hk
        · obtain ⟨⟨a1, a2⟩, ⟨a3, a4⟩, a5⟩ := h.2.2.2.2.2.1 b' hb'
          rw [u3, show 6 * 0 + b' = b' by omega] at a1
          have e1 : (cStr C n b).1 (oSt n 1) = C.1 (oSt n 1) := (cStr_fr (fun s hs => by unfold oSt oFa; omega) (by unfold oSt; omega)).1
          refine ⟨⟨?_, ?_⟩, ⟨a3, fun r k1 k2 => ?_⟩, ?_⟩
          · rw [hv, show 6 * 0 + b' = b' by omega, cStr_st, h28b, a1]
          · rw [e1, h28b, if_neg (by omega)]; exact a2
          · rw [hrow r (by omega) (by omega)]; exact a4 r k1 k2
          · rw [hrow 29 (by omega) (by omega), hrow 30 (by omega) (by omega), hrow 31 (by omega) (by omega), hrow 32 (by omega) (by omega)]; exact a5
        · rw [hrow 14 (by omega) (by omega), hrow 15 (by omega) (by omega), hrow 16 (by omega) (by omega), hrow 29 (by omega) (by omega), hrow 30 (by omega) (by omega), hrow 31 (by omega) (by omega), hrow 32 (by omega) (by omega)]
          exact lK.refl b' hb'
        · obtain ⟨i0, i1, i2⟩ := h.T1.inn hb'
          have := IN.up (M' := mSt (mSN (mSs M 0 0) 28 b 1) b 900) (h.h16 hb') (fun r hr => hrow r (by omega) (by omega)) (fun r k1 k2 => by rw [hrow r (by omega) (by omega)]) (fun s hs => by rw [hrow 22 (by omega) (by omega)]; exact Nat.le_refl _) i0
          exact ⟨this.1, this.2 _ i1, this.2 _ i2⟩
        · have hG := h.2.2.2.2.2.2.2.2 s hs
          rw [u3] at hG
          rw [hv, hrow 22 (by omega) (by omega), hrow 20 (by omega) (by omega)]
          exact hG
  · exact CO1.ex h hr hT (Y_strikeD h.hF u1 hg) (fun τ => M_strikeD h.m6 u2)
theorem least {P : Nat → Prop} : ∀ G, (∃ N, N < G ∧ P N ∧ ∀ k, k < N → ¬ P k) ∨ ∀ k, k < G → ¬ P k := by
  intro G
  induction G with
  | zero => exact Or.inr (fun k hk => absurd hk (Nat.not_lt_zero _))
  | succ G ih =>
    rcases ih with ⟨N, h1, h2, h3⟩ | h
    · exact Or.inl ⟨N, by omega, h2, h3⟩
    · by_cases hp : P G
      · exact Or.inl ⟨G, by omega, hp, h⟩
      · refine Or.inr (fun k hk => ?_)
        by_cases hk2 : k = G
        · subst hk2; exact hp
        · exact h k (by omega)
theorem tI_zl {w : Nat} (hw : w < 9223372036854775808) : tI (zl w) = tN w := by
  have h : 0 ≤ lg_cmp (zl w) (zl 0) := by rw [lg_ge hw (by omega)]; exact Nat.zero_le _
  unfold tI
  rw [zl_l0, if_pos h, zl_nat hw]
theorem cAll_eq (hO : OB S F ρ C M n 0 s s) (hM : mOK M) : cAll C n s = tAll M s := by
  obtain ⟨⟨c0, c1, c2⟩, ⟨c3, c4, c5⟩, ck, -⟩ := hO
  have hl : ∀ k, k ≤ M.1 22 s → cLs C n s k = tLs M s k := by
    intro k
    induction k with
    | zero => intro _; rfl
    | succ k ih =>
      intro hk
      obtain ⟨⟨k1, k2⟩, k3, k4, k5, k6⟩ := ck k (by omega)
      rw [cLs, tLs, ih (by omega)]
      have : cLin C n s k = tLin M s k := by
        unfold cLin tLin
        rw [k1]
        by_cases h2 : M.1 23 (300 * s + k) = 2
        · obtain ⟨⟨j1, j2⟩, -⟩ := k3 h2
          rw [if_pos h2, if_pos h2, j1, j2]
        · rw [if_neg h2, if_neg h2]
          by_cases h3 : M.1 23 (300 * s + k) = 3
          · have hb := mOK.b128 hM (j := 27) (by omega) (300 * s + k)
            rw [if_pos h3, if_pos h3, k4 h3, zi_i64 (by omega), tI_zl (by omega)]
          · rw [if_neg h3, if_neg h3]
      rw [this]
  have ht : ∀ k, k ≤ M.1 22 s → cTo C n s k = mSum M s 6 k := by
    intro k
    induction k with
    | zero => intro _; rfl
    | succ k ih =>
      intro hk
      obtain ⟨⟨k1, k2⟩, k3, k4, k5, k6⟩ := ck k (by omega)
      rw [cTo, mSum, ih (by omega), k1]
      by_cases h2 : M.1 23 (300 * s + k) = 2
      · obtain ⟨⟨j1, j2⟩, -⟩ := k3 h2
        rw [if_pos h2, if_pos ⟨h2, Or.inl rfl⟩, j1]
      · rw [if_neg h2, if_neg (fun h => h2 h.1)]
        exact (Int64.add_zero _).symm
  unfold cAll tAll
  rw [c2, c1, hl _ (Nat.le_refl _), ht _ (Nat.le_refl _)]
theorem tAll_r {j : Nat} (h1 : M'.1 21 j = M.1 21 j) (h2 : M'.1 22 j = M.1 22 j) (h3 : M'.1 23 = M.1 23) (h4 : M'.1 24 = M.1 24) (h5 : M'.1 27 = M.1 27) (h6 : M'.2.1 = M.2.1) (h7 : M'.2.2.1 = M.2.2.1) : tAll M' j = tAll M j := by
  have hl : ∀ k, tLs M' j k = tLs M j k := by
    intro k
    induction k with
    | zero => rfl
    | succ k ih =>
      rw [tLs, tLs, ih]
      unfold tLin
      rw [h3, h5, h6, h7]
  have hm : ∀ k, mSum M' j 6 k = mSum M j 6 k := by
    intro k
    induction k with
    | zero => rfl
    | succ k ih => rw [mSum, mSum, ih, h3, h4, h7]
  unfold tAll
  rw [h1, h2, hl, hm]
theorem K_close {x : Int32} (h : RR e S F n C M ρ f T) (hr : RO ρ M T A B) (hT : T < 512) (hg : g 21 = some q) (htx : txK g S ρ) : CO1 e S F n am A B M ρ T (s_No_close g S x (cW S n C ρ)) (s_Mo_close g am x) := by
  have hn := h.n6
  rcases h.uO with ⟨u1, u2, u3⟩ | ⟨u1, u2, u3⟩
  · rcases ix x 3 with hx | ⟨s, hs, rfl⟩
    · exact CO1.same h hr hT (Y_closeS u1 hx) (fun τ => M_closeS h.m6 u2 hx)
    · have hO := h.o0 u3 hs
      obtain ⟨⟨c0, c1, c2⟩, ⟨c3, c4, c5⟩, ck, p0, hp0, ht⟩ := h.o0 u3 hs
      have hf : ∀ k, k < 300 → C.1 (oFa n 0 s) k < 128 := fun k hk => by
        rw [(ck k hk).1.1]; exact mOK.b128 h.2.1.1 (j := 23) (by omega) _
      by_cases h20 : M.1 20 s = 1
      · rcases least (P := fun k => M.1 23 (300 * s + k) = 1) (M.1 22 s) with ⟨N, n1, n2, n3⟩ | hno
        · refine CO1.same h hr hT (Y_closeF u1 hs (by omega) (by omega) (by rw [c2]; exact n1) (by rw [(ck N (by omega)).1.1]; exact n2) (fun k hk => by rw [(ck k (by omega)).1.1]; exact n3 k hk) hf) (fun τ => M_closeF h.m6 u2 hs h20 c5 n1 n2 h.2.1.1 n3)
        · have hb : bkOK C n s := by
            refine ⟨by omega, by omega, fun k hk => ?_⟩
            rw [c2] at hk
            obtain ⟨⟨k1, k2⟩, k3, k4, k5, k6⟩ := ck k (by omega)
            have hz := k5.mp hk
            have hb := mOK.b128 h.2.1.1 (j := 23) (by omega) (300 * s + k)
            rw [k1]
            refine ⟨by omega, fun h2 => ?_⟩
            obtain ⟨⟨j1, j2⟩, j3⟩ := k3 h2
            rw [j1]; exact j3
          obtain ⟨p, ρ1, y1, y2, y3, y4, y5, y6⟩ := Y_shut (g := g) h.F1 h.F2 hs hb htx
          have hk : kp S F ρ ρ1 := ⟨y4, fun p _ hp _ => y3 p hp⟩
          have hsame : ∀ x, ¬ x = oSb n 0 s → same4 C (cSP (cSN C (oSb n 0 s) 0 2) (oSb n 0 s) 7 (some p)) x := fun x hx => ⟨by funext k; show (cSN C (oSb n 0 s) 0 2).1 x k = _; rw [cSN_at, if_neg (fun h => hx h.1)], rfl, rfl, by funext k; rw [cSP_at, if_neg (fun h => hx h.1)]; rfl⟩
          have hall : ∀ x, x < 2 + 11 * n ∨ x = oPo n → same4 C (cSP (cSN C (oSb n 0 s) 0 2) (oSb n 0 s) 7 (some p)) x := fun x hx => hsame x (by unfold oPo at hx; unfold oSb; omega)
          have hL1 : LLs e S F n (cSP (cSN C (oSb n 0 s) 0 2) (oSb n 0 s) 7 (some p)) ρ1 f := (h.1.ofx hall).mono (fun _ _ _ => ⟨rfl, rfl⟩) y4 (fun p hp _ => y3 p hp)
          have hA : ansR F n (cSP (cSN C (oSb n 0 s) 0 2) (oSb n 0 s) 7 (some p)) ρ1 0 := fun k hk1 p' hp' => by
            rw [(hsame _ (show ¬ oAn n 0 = oSb n 0 s by unfold oAn oSb; omega)).2.2.2] at hp'
            obtain ⟨fs, h1⟩ := h.ansRR.1 k hk1 p' hp'
            exact ⟨fs, hk.ob h1⟩
          have hst2 : ∀ k, k < n → (cSP (cSN C (oSb n 0 s) 0 2) (oSb n 0 s) 7 (some p)).1 (oSt n 0) k < 2 := fun k hk1 => by
            rw [(hsame _ (show ¬ oSt n 0 = oSb n 0 s by unfold oSt oSb; omega)).1]
            exact ((h.2.2.2.2.2.1 k hk1).st2 h.2.1.1).1
          have h1 := Y_close (g := g) h.F1 hn u1 hs (by omega) (by omega) (fun k hk => by rw [c2] at hk; rw [(ck k (by omega)).1.1]; exact hno k hk) hf y1 hA hst2
          have m20 : ∀ c, (mSN (mSs M 0 0) 20 s 2).1 20 c = if c = s then 2 else M.1 20 c := fun c => by
            show (if 20 = 20 ∧ c = s then 2 else M.1 20 c) = _
            by_cases hc : c = s
            · rw [if_pos ⟨rfl, hc⟩, if_pos hc]
            · rw [if_neg (fun h => hc h.2), if_neg hc]
          have hrow : ∀ r, ¬ r = 20 → (mSN (mSs M 0 0) 20 s 2).1 r = M.1 r := fun r hr => by
            funext c
            show (if r = 20 ∧ c = s then 2 else M.1 r c) = _
            rw [if_neg (fun h => hr h.1)]
          have hok : mOK (mSN (mSs M 0 0) 20 s 2) := mOK.set (mOK.set2 h.2.1.1 rfl) (by decide)
          have hnot : ¬ M.1 20 (3 + s) = 2 := fun h2 => by have := (h.g22 u3 hs).2.mp h2; omega
          refine ⟨.inl (zi 0), _, _, mCpO (mSN (mSs M 0 0) 20 s 2) 0 1, ρ1, f, h1, fun τ => M_close h.m6 u2 hs h20 c5 h.2.1.1 hno, ⟨y4, fun p hp _ => y3 p hp⟩, h.T1.saveO hL1 hok rfl rfl hk (fun r k1 k2 => hrow r (by omega)) (hrow 33 (by omega)) rfl rfl (fun i hi => sBc.sb (fun x hx => hall x (Or.inl hx)) hi) (by rw [(hall _ (Or.inr rfl)).1]) (by rw [(hsame _ (show ¬ oOf n = oSb n 0 s by unfold oOf oSb; omega)).1]) u3 (fun s' hs' => ?_) (fun b hb => ?_) (fun b hb => ?_) (fun b hb => ?_) (fun s' hs' => by rw [hrow 22 (by omega)]; exact Nat.le_of_eq (h.g22 u3 hs').1.symm) (fun b hb => IN.cp (by omega) (h.h16 hb) (fun r k1 k2 => hrow r (by omega)) (fun r k1 k2 => by rw [hrow r (by omega)]) (fun s' hs' => by rw [hrow 22 (by omega)]; exact Nat.le_of_eq (h.g22 u3 hs').1.symm) (h.T1.inn hb).1 (h.T1.inn hb).2.1 (h.T1.inn hb).2.2), ?_, Or.inl ⟨rfl, rfl⟩⟩
          · by_cases hss : s' = s
            · subst hss
              refine ⟨⟨?_, ?_, ?_⟩, ?_, fun k hk => ?_, p, ?_, Or.inr ⟨?_, ?_, fun k hk => ?_⟩⟩
              · rw [m20, if_pos rfl]
                show (cSN C (oSb n 0 s') 0 2).1 (oSb n 0 s') 0 = 2
                rw [cSN_at, if_pos ⟨rfl, rfl⟩]
              · rw [hrow 21 (by omega)]
                show (cSN C (oSb n 0 s') 0 2).1 (oSb n 0 s') 1 = _
                rw [cSN_at, if_neg (by omega)]; exact c1
              · rw [hrow 22 (by omega)]
                show (cSN C (oSb n 0 s') 0 2).1 (oSb n 0 s') 2 = _
                rw [cSN_at, if_neg (by omega)]; exact c2
              · rw [m20, if_pos rfl, hrow 21 (by omega), hrow 22 (by omega)]; omega
              · rw [hrow 23 (by omega), hrow 24 (by omega), hrow 22 (by omega), hrow 27 (by omega), (hsame _ (show ¬ oFa n 0 s' = oSb n 0 s' by unfold oFa oSb; omega)).1, (hsame _ (show ¬ oHo n 0 s' = oSb n 0 s' by unfold oHo oSb; omega)).1, (hsame _ (show ¬ oCe n 0 s' = oSb n 0 s' by unfold oCe oSb; omega)).2.2.1, (hsame _ (show ¬ oDe n 0 s' = oSb n 0 s' by unfold oDe oSb; omega)).2.1]
                exact ck k hk
              · rw [cSP_at, if_pos ⟨rfl, rfl⟩]
              · rw [m20, if_pos rfl]
              · rw [tAll_r (M := M) (by rw [hrow 21 (by omega)]) (by rw [hrow 22 (by omega)]) (hrow 23 (by omega)) (hrow 24 (by omega)) (hrow 27 (by omega)) rfl rfl, ← cAll_eq hO h.2.1.1]
                exact y2
              · rw [hrow 22 (by omega)] at hk
                rw [hrow 23 (by omega)]; exact hno k hk
            · refine (h.o0 u3 hs').fx hk (sOc.of (fun x hx => hsame x (sb_ne hs hs' hss hx))) ⟨fun r k1 k2 => ?_, fun k hk => ⟨⟨by rw [hrow 23 (by omega)], by rw [hrow 24 (by omega)], by rw [hrow 27 (by omega)]⟩, rfl, rfl⟩⟩
              by_cases hr20 : r = 20
              · subst hr20; rw [m20, if_neg hss]
              · rw [hrow r hr20]
          · rw [(hsame _ (show ¬ oSt n 0 = oSb n 0 s by unfold oSt oSb; omega)).1, hrow 28 (by omega)]
            exact h.St u3 hb
          · unfold AN
            rw [(hsame _ (show ¬ oAn n 0 = oSb n 0 s by unfold oAn oSb; omega)).2.2.2, hrow 29 (by omega), hrow 30 (by omega), hrow 31 (by omega), hrow 32 (by omega)]
            rcases h.ANN hb with ha | ⟨ha, p', ha2, ha3⟩
            · exact Or.inl ha
            · exact Or.inr ⟨ha, p', ha2, ha3.mono hk⟩
          · rw [hrow 14 (by omega), hrow 15 (by omega), hrow 16 (by omega), hrow 29 (by omega), hrow 30 (by omega), hrow 31 (by omega), hrow 32 (by omega)]
            exact lK.refl b hb
          · have hcl : cl (mCpO (mSN (mSs M 0 0) 20 s 2) 0 1) = cl M + 1 := by
              have e : ∀ s', s' < 3 → (mCpO (mSN (mSs M 0 0) 20 s 2) 0 1).1 20 (3 + s') = if s' = s then 2 else M.1 20 s' := fun s' hs' => by
                rw [mCpO_B (by omega), if_pos (by omega), show 3 * 0 + (3 + s' - 3 * 1) = s' by omega, m20]
              have e0 := e 0 (by omega)
              have e1 := e 1 (by omega)
              have e2 := e 2 (by omega)
              have g0 := (h.g22 u3 (show 0 < 3 by omega)).2
              have g1 := (h.g22 u3 (show 1 < 3 by omega)).2
              have g2 := (h.g22 u3 (show 2 < 3 by omega)).2
              rw [show 3 + 0 = 3 from rfl] at e0 g0
              rw [show 3 + 1 = 4 from rfl] at e1 g1
              rw [show 3 + 2 = 5 from rfl] at e2 g2
              rcases (show s = 0 ∨ s = 1 ∨ s = 2 by omega) with rfl | rfl | rfl
              · rw [if_pos rfl] at e0
                rw [if_neg (by omega)] at e1 e2
                have g3 : ¬ M.1 20 3 = 2 := hnot
                unfold cl
                rw [e0, e1, e2]
                simp only [g3, ← g1, ← g2, ↓reduceIte]
                omega
              · rw [if_pos rfl] at e1
                rw [if_neg (by omega)] at e0 e2
                have g3 : ¬ M.1 20 4 = 2 := hnot
                unfold cl
                rw [e0, e1, e2]
                simp only [g3, ← g0, ← g2, ↓reduceIte]
                omega
              · rw [if_pos rfl] at e2
                rw [if_neg (by omega)] at e0 e1
                have g3 : ¬ M.1 20 5 = 2 := hnot
                unfold cl
                rw [e0, e1, e2]
                simp only [g3, ← g0, ← g1, ↓reduceIte]
            obtain ⟨r1, r2, r3⟩ := hr
            unfold RO
            rw [hcl]
            omega
      · exact CO1.same h hr hT (Y_closeO u1 hs (by omega) (by omega)) (fun τ => M_closeO h.m6 u2 hs h20 h.2.1.1)
  · exact CO1.ex h hr hT (Y_closeD h.hF u1 hg) (fun τ => M_closeD h.m6 u2)
end CALL7
