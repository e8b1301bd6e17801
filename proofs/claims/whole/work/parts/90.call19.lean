section CALL19
variable {g : zG} {e S F n am A B T i s q b x y u v j k : Nat} {C C' C1 : cS} {M M' M1 : mS} {ρ ρ' ρ1 : zS} {f f' : Nat → Nat → Nat}
theorem mN_row {m w r k' : Nat} (h : ¬ r = k') : (mSN M k' m w).1 r = M.1 r := by
  funext c
  rw [mSN_at, if_neg (fun h2 => h h2.1)]
theorem sK.r18 {j' : Nat} (h : ∀ r, ¬ r = 18 → ¬ r = 19 → M'.1 r = M.1 r) (h2 : M'.2 = M.2) : sK M M' j' j' :=
  ⟨fun r k1 k2 => by rw [h r (by omega) (by omega)], fun _ _ => ⟨⟨by rw [h 7 (by omega) (by omega)], by rw [h 8 (by omega) (by omega)], by rw [h 9 (by omega) (by omega)], by rw [h 12 (by omega) (by omega)]⟩, by rw [h2], by rw [h2]⟩, fun _ _ => by rw [h 13 (by omega) (by omega)]⟩
theorem K_read {p r2 r3 r4 r5 : Nat} (h : RR e S F n C M ρ f T) (hT : T ≤ 600) (hg0 : g 0 = some e) (hg2 : ∃ mi, g 10 = some mi) (hE : PE F ρ C M f n p 3 b r2 r3 r4 r5) (hu : C.1 (oBr b) 8 = 1) (h1 : M.1 1 b = 0) (hv : vw M b = b) : ∃ C' M' ρ' f', s_No_bringToBranch g S (some p) (cW S n C ρ) = some (cW S n C' ρ') ∧ (∀ τ, s_Mo_answered g am (zi b) (zi r2) (zi r3) (zi r4) (zi r5) (mW am M τ) = some (mW am M' τ)) ∧ dX ρ ρ' ∧ ρ'.1 ≤ ρ.1 + 4 ∧ ρ'.2.1 ≤ ρ.2.1 + 1020 ∧ cl M' = cl M ∧ RR e S F n C' M' ρ' f' T := by
  have hn := h.n6
  obtain ⟨hb, hr2, ⟨-, hA, hle, heq⟩ | ⟨hr0, -⟩⟩ := hE
  · obtain ⟨⟨hl1, hl2, hl3⟩, hIa⟩ := (h.inn hb).1
    have hw := h.w2 hv hb
    obtain ⟨st, bl, hAns, hcase⟩ := hA
    have b18 := mOK.b2 h.2.1.1 (j := 18) (by omega) b
    have b19 := mOK.b2 h.2.1.1 (j := 19) (by omega) b
    have hBR := h.2.2.2.1 b hb
    have hnow := h.now hv hb
    have hinow := h.inow hv hb
    by_cases h18 : M.1 18 b = 0
    · exact ⟨C, M, ρ, f, Y_bringB h.F1 hn hb hAns hu (Y_read0 hb (by omega)), fun τ => M_answered0 (by omega) h.2.1.1 (Or.inl h18) (by omega), dX.refl, by omega, by omega, rfl, h⟩
    · have h18' : M.1 18 b = 1 := by omega
      have hl5 := hBR.2.2.2.2
      rw [hv] at hl5
      rcases hl5 with ⟨p1, p2, p3, p4⟩ | ⟨p1, lq, fr, p2, p3, p4, p5⟩
      · omega
      · obtain ⟨⟨hs, -⟩, w, ev, hL, hkind⟩ := p3
        by_cases hnum : r2 = M.1 14 b
        · have ht : M.1 29 b = M.1 14 b := by omega
          obtain ⟨q3, q4, q5⟩ := heq (by omega)
          obtain ⟨hI1, hI2, hI3⟩ := hIa p1 ht
          rw [hnum] at hAns
          have hu3 : C.1 (oBr b) 3 = 1 := by omega
          have nBs : ∀ s, s < 3 → ¬ oBs b s = oBr b := fun s hs => by unfold oBs oBr; omega
          have nLs : ∀ s k, s < 3 → k < 2 → ¬ oLs b s k = oBr b := fun s k hs hk => by unfold oLs oBr; omega
          rcases hcase with ⟨a1, a2⟩ | ⟨a1, a2⟩ | ⟨a1, a2, a3⟩
          · subst a2
            have hrd := Y_readS (g := g) h.F1 hb hu3 p2 hL hs hAns
            have hrow : ∀ r, ¬ r = 18 → ¬ r = 19 → (mSN (mSN M 18 b 0) 19 b 1).1 r = M.1 r := fun r k1 k2 => by rw [mN_row k2, mN_row k1]
            have v18 : ∀ c, (mSN (mSN M 18 b 0) 19 b 1).1 18 c = if c = b then 0 else M.1 18 c := fun c => by
              rw [mN_row (by omega), mSN_at]
              by_cases hc : c = b
              · rw [if_pos ⟨rfl, hc⟩, if_pos hc]
              · rw [if_neg (fun h => hc h.2), if_neg hc]
            have v19 : ∀ c, (mSN (mSN M 18 b 0) 19 b 1).1 19 c = if c = b then 1 else M.1 19 c := fun c => by
              rw [mSN_at]
              by_cases hc : c = b
              · rw [if_pos ⟨rfl, hc⟩, if_pos hc]
              · rw [if_neg (fun h => hc h.2), if_neg hc, mN_row (by omega)]
            have hc2 : ∀ x, ¬ x = oBr b → same4 C (cSN (cSN C (oBr b) 3 0) (oBr b) 4 1) x := fun x hx => ⟨by funext k; rw [cSN_at, cSN_at, if_neg (fun h => hx h.1), if_neg (fun h => hx h.1)], rfl, rfl, rfl⟩
            have hck : ∀ k, 5 ≤ k → (cSN (cSN C (oBr b) 3 0) (oBr b) 4 1).1 (oBr b) k = C.1 (oBr b) k := fun k hk => by rw [cSN_at, cSN_at, if_neg (by omega), if_neg (by omega)]
            have hoB : oB b M (mSN (mSN M 18 b 0) 19 b 1) := (oB.N (by omega)).trans (oB.N (by omega))
            have hok : mOK (mSN (mSN M 18 b 0) 19 b 1) := mOK.set (mOK.set h.2.1.1 (by decide)) (by decide)
            have hfin := h.rd (C' := cSN (cSN C (oBr b) 3 0) (oBr b) 4 1) (M' := mSN (mSN M 18 b 0) 19 b 1) (ρ' := ρ) (f' := f) hT hb hu h1 hv h18' ht hok hoB (by rw [hrow 1 (by omega) (by omega)]; exact h1) (fun r k1 k2 => by rw [hrow r (by omega) (by omega)]; exact ⟨rfl, rfl⟩) (by rw [v18, if_pos rfl]) ⟨by rw [v18, if_neg (by omega)], by rw [v19, if_neg (by omega)]⟩ (fun s hs => sK.r18 hrow rfl) kp.refl (h.1.br hb hc2) (fun x hx => hc2 x (by unfold oBr; omega)) (fun _ _ => rfl) (fun k hk => hck k (by omega)) rfl (fun s hs k hk => by rw [(hc2 _ (nBs s hs)).1]) (fun s hs => by rw [(hc2 _ (nLs s 0 hs (by omega))).1, (hc2 _ (nLs s 1 hs (by omega))).1]; exact ⟨Nat.le_refl _, Nat.le_refl _⟩) (fun s hs => ⟨fun _ _ => rfl, fun _ _ => rfl⟩) (by
                refine ⟨⟨?_, ?_⟩, fun s' hs' => ?_⟩
                · rw [v18, if_pos rfl, cSN_at, cSN_at, if_neg (by omega), if_pos ⟨rfl, rfl⟩]
                · rw [v19, if_pos rfl, cSN_at, if_pos ⟨rfl, rfl⟩]
                · rw [(hc2 _ (nBs s' hs')).1, (hc2 _ (nLs s' 0 hs' (by omega))).1, (hc2 _ (nLs s' 1 hs' (by omega))).1]
                  exact (hnow.2 s' hs').k (sK.r18 hrow rfl)) (fun s' hs' => by
                rw [hrow 5 (by omega) (by omega), hrow 2 (by omega) (by omega), hrow 7 (by omega) (by omega)]
                exact hinow.2.1 s' hs')
            refine ⟨_, _, ρ, f, Y_bringB h.F1 hn hb hAns hu hrd, fun τ => ?_, dX.refl, by omega, by omega, cl_oB hoB, hfin⟩
            rw [a1]
            exact M_answered3 (by omega) h.2.1.1 h18' hnum.symm hs
          · subst a2
            have hk15 : M.1 15 b = 2 := hI2 (by omega)
            rw [hk15] at hL hkind
            rcases hkind with ⟨k1, -⟩ | ⟨-, k2, k3, k4⟩
            · omega
            · have hrd := Y_readF (g := g) h.F1 hb hu3 p2 hL hs hAns k2
              have hfr := p4 hk15 h18'
              obtain ⟨⟨bf, bc, hbk⟩, he⟩ := hnow.2 (M.1 16 b) hs
              obtain ⟨e5, e6, e7⟩ := he.1
              have hsz6 := (hBR.2.2.1 (M.1 16 b) hs).2
              have at_ : ∀ r c, (mSN (mSN M 18 b 0) 6 (3 * b + M.1 16 b) (M.1 6 (3 * b + M.1 16 b) + M.1 17 b)).1 r c = if r = 6 ∧ c = 3 * b + M.1 16 b then M.1 6 (3 * b + M.1 16 b) + M.1 17 b else if r = 18 ∧ c = b then 0 else M.1 r c := fun r c => rfl
              generalize hM' : mSN (mSN M 18 b 0) 6 (3 * b + M.1 16 b) (M.1 6 (3 * b + M.1 16 b) + M.1 17 b) = M' at at_
              have h2' : M'.2 = M.2 := by rw [← hM']; rfl
              have hrow : ∀ r, ¬ r = 6 → ¬ r = 18 → M'.1 r = M.1 r := fun r k1 k2 => by funext c; rw [at_, if_neg (fun h => k1 h.1), if_neg (fun h => k2 h.1)]
              have v18 : ∀ c, M'.1 18 c = if c = b then 0 else M.1 18 c := fun c => by
                rw [at_, if_neg (by omega)]
                by_cases hc : c = b
                · rw [if_pos ⟨rfl, hc⟩, if_pos hc]
                · rw [if_neg (fun h => hc h.2), if_neg hc]
              have v6 : ∀ c, ¬ c = 3 * b + M.1 16 b → M'.1 6 c = M.1 6 c := fun c hc => by rw [at_, if_neg (fun h => hc h.2), if_neg (by omega)]
              have v6' : M'.1 6 (3 * b + M.1 16 b) = M.1 6 (3 * b + M.1 16 b) + M.1 17 b := by rw [at_, if_pos ⟨rfl, rfl⟩]
              have hoB : oB b M M' := by rw [← hM']; exact (oB.N (by omega)).trans (oB.N (by omega))
              have hok : mOK M' := by
                rw [← hM']
                refine mOK.set (mOK.set h.2.1.1 (by decide)) ?_
                rw [show mbd 6 = 2147483648 by decide]; have := (hinow.2.1 _ hs).1; omega
              have hsk : ∀ j', ¬ j' = 3 * b + M.1 16 b → sK M M' j' j' := fun j' hj => ⟨fun r k1 k2 => by
                by_cases hr6 : r = 6
                · subst hr6; exact v6 j' hj
                · rw [hrow r hr6 (by omega)], fun _ _ => ⟨⟨by rw [hrow 7 (by omega) (by omega)], by rw [hrow 8 (by omega) (by omega)], by rw [hrow 9 (by omega) (by omega)], by rw [hrow 12 (by omega) (by omega)]⟩, by rw [h2'], by rw [h2']⟩, fun _ _ => by rw [hrow 13 (by omega) (by omega)]⟩
              have hc2 : ∀ x, ¬ x = oBr b → ¬ x = oBs b (M.1 16 b) → same4 C (cSN (cSN C (oBr b) 3 0) (oBs b (M.1 16 b)) 4 (C.1 (oBs b (M.1 16 b)) 4 + M.1 17 b)) x := fun x hx hx2 => ⟨by funext k; rw [cSN_at, cSN_at, if_neg (fun h => hx2 h.1), if_neg (fun h => hx h.1)], rfl, rfl, rfl⟩
              have hcb : ∀ k, (cSN (cSN C (oBr b) 3 0) (oBs b (M.1 16 b)) 4 (C.1 (oBs b (M.1 16 b)) 4 + M.1 17 b)).1 (oBr b) k = if k = 3 then 0 else C.1 (oBr b) k := fun k => by
                rw [cSN_at, if_neg (fun h => nBs _ hs h.1.symm), cSN_at]
                by_cases hk : k = 3
                · rw [if_pos ⟨rfl, hk⟩, if_pos hk]
                · rw [if_neg (fun h => hk h.2), if_neg hk]
              have hcs : ∀ k, (cSN (cSN C (oBr b) 3 0) (oBs b (M.1 16 b)) 4 (C.1 (oBs b (M.1 16 b)) 4 + M.1 17 b)).1 (oBs b (M.1 16 b)) k = if k = 4 then C.1 (oBs b (M.1 16 b)) 4 + M.1 17 b else C.1 (oBs b (M.1 16 b)) k := fun k => by
                rw [cSN_at]
                by_cases hk : k = 4
                · rw [if_pos ⟨rfl, hk⟩, if_pos hk]
                · rw [if_neg (fun h => hk h.2), if_neg hk, cSN_at, if_neg (fun h => nBs _ hs h.1)]
              generalize hC' : cSN (cSN C (oBr b) 3 0) (oBs b (M.1 16 b)) 4 (C.1 (oBs b (M.1 16 b)) 4 + M.1 17 b) = C' at hrd hc2 hcb hcs
              have hCp : C'.2.2.2 = C.2.2.2 := by rw [← hC']; rfl
              have nLB : ∀ s k, s < 3 → k < 2 → ¬ oLs b s k = oBs b (M.1 16 b) := fun s k hs' hk => by unfold oLs oBs; omega
              have nBB : ∀ s, s < 3 → ¬ s = M.1 16 b → ¬ oBs b s = oBs b (M.1 16 b) := fun s hs' hne => by unfold oBs; omega
              have hLL : LLs e S F n C' ρ f := h.1.same (fun j hj hj2 => by
                have := hc2 j (ne_Br hb hj) (ne_Bs hb hs hj)
                exact ⟨this.1, this.2.2.2⟩)
              have hfin := h.rd (C' := C') (M' := M') (ρ' := ρ) (f' := f) hT hb hu h1 hv h18' ht hok hoB (by rw [hrow 1 (by omega) (by omega)]; exact h1) (fun r k1 k2 => by rw [hrow r (by omega) (by omega)]; exact ⟨rfl, rfl⟩) (by rw [v18, if_pos rfl]) ⟨by rw [v18, if_neg (by omega)], by rw [hrow 19 (by omega) (by omega)]⟩ (fun s' hs' => hsk _ (by omega)) kp.refl hLL (fun x hx => hc2 x (by unfold oBr; omega) (by unfold oBs; omega)) (fun _ _ => rfl) (fun k hk => by rw [hcb, if_neg (by omega)]) (by rw [hCp]) (fun s' hs' k hk => by
                  by_cases hss : s' = M.1 16 b
                  · subst hss; rw [hcs, if_neg (by omega)]
                  · rw [(hc2 _ (nBs s' hs') (nBB s' hs' hss)).1]) (fun s' hs' => by rw [(hc2 _ (nLs s' 0 hs' (by omega)) (nLB s' 0 hs' (by omega))).1, (hc2 _ (nLs s' 1 hs' (by omega)) (nLB s' 1 hs' (by omega))).1]; exact ⟨Nat.le_refl _, Nat.le_refl _⟩) (fun s' hs' => ⟨fun _ _ => rfl, fun _ _ => rfl⟩) (by
                  refine ⟨⟨?_, ?_⟩, fun s' hs' => ?_⟩
                  · rw [v18, if_pos rfl, hcb, if_pos rfl]
                  · rw [hrow 19 (by omega) (by omega), hcb, if_neg (by omega)]; exact hnow.1.2
                  · rw [(hc2 _ (nLs s' 0 hs' (by omega)) (nLB s' 0 hs' (by omega))).1, (hc2 _ (nLs s' 1 hs' (by omega)) (nLB s' 1 hs' (by omega))).1]
                    by_cases hss : s' = M.1 16 b
                    · subst hss
                      rw [hcs, hcs, hcs, if_neg (by omega), if_neg (by omega), if_pos rfl]
                      refine ⟨⟨bf, bc, hbk.same (S := S) kp.refl (fun r hr => by rcases hr with rfl | rfl | rfl <;> rw [hrow _ (by omega) (by omega)]) (hrow 7 (by omega) (by omega)) (hrow 8 (by omega) (by omega)) (fun _ _ => rfl)⟩, he.rp_ (fun r k1 k2 _ => hrow r k1 k2) h2' (by rw [v6', e6]) (by omega)⟩
                    · rw [(hc2 _ (nBs s' hs') (nBB s' hs' hss)).1]
                      exact (hnow.2 s' hs').k (hsk _ (by omega))) (fun s' hs' => by
                  rw [hrow 5 (by omega) (by omega), hrow 2 (by omega) (by omega), hrow 7 (by omega) (by omega)]
                  exact hinow.2.1 s' hs')
              refine ⟨C', M', ρ, f, Y_bringB h.F1 hn hb hAns hu hrd, fun τ => ?_, dX.refl, by omega, by omega, cl_oB hoB, hfin⟩
              rw [a1, ← hM']
              exact M_answered2 (by omega) h.2.1.1 h18' hnum.symm hs
          · subst a2
            have hk15 : M.1 15 b = 1 := hI1 (by omega)
            rw [hk15] at hL hkind
            rcases a3 with ⟨c1, c2⟩ | ⟨c1, bq, c2, c3⟩
            · subst c2
              have hrd := Y_readZ (g := g) h.F1 hb hu3 p2 hL hs hAns
              have hrow : ∀ r, ¬ r = 18 → ¬ r = 19 → (mSN M 18 b 0).1 r = M.1 r := fun r k1 k2 => mN_row k1
              have v18 : ∀ c, (mSN M 18 b 0).1 18 c = if c = b then 0 else M.1 18 c := fun c => by
                rw [mSN_at]
                by_cases hc : c = b
                · rw [if_pos ⟨rfl, hc⟩, if_pos hc]
                · rw [if_neg (fun h => hc h.2), if_neg hc]
              have hc2 : ∀ x, ¬ x = oBr b → same4 C (cSN C (oBr b) 3 0) x := fun x hx => ⟨by funext k; rw [cSN_at, if_neg (fun h => hx h.1)], rfl, rfl, rfl⟩
              have hck : ∀ k, ¬ k = 3 → (cSN C (oBr b) 3 0).1 (oBr b) k = C.1 (oBr b) k := fun k hk => by rw [cSN_at, if_neg (fun h => hk h.2)]
              have hoB : oB b M (mSN M 18 b 0) := oB.N (by omega)
              have hok : mOK (mSN M 18 b 0) := mOK.set h.2.1.1 (by decide)
              have hfin := h.rd (C' := cSN C (oBr b) 3 0) (M' := mSN M 18 b 0) (ρ' := ρ) (f' := f) hT hb hu h1 hv h18' ht hok hoB (by rw [hrow 1 (by omega) (by omega)]; exact h1) (fun r k1 k2 => by rw [hrow r (by omega) (by omega)]; exact ⟨rfl, rfl⟩) (by rw [v18, if_pos rfl]) ⟨by rw [v18, if_neg (by omega)], by rw [mN_row (by omega)]⟩ (fun s hs => sK.r18 hrow rfl) kp.refl (h.1.br hb hc2) (fun x hx => hc2 x (by unfold oBr; omega)) (fun _ _ => rfl) (fun k hk => hck k (by omega)) rfl (fun s hs k hk => by rw [(hc2 _ (nBs s hs)).1]) (fun s hs => by rw [(hc2 _ (nLs s 0 hs (by omega))).1, (hc2 _ (nLs s 1 hs (by omega))).1]; exact ⟨Nat.le_refl _, Nat.le_refl _⟩) (fun s hs => ⟨fun _ _ => rfl, fun _ _ => rfl⟩) (by
                  refine ⟨⟨?_, ?_⟩, fun s' hs' => ?_⟩
                  · rw [v18, if_pos rfl, cSN_at, if_pos ⟨rfl, rfl⟩]
                  · rw [mN_row (by omega), hck 4 (by omega)]; exact hnow.1.2
                  · rw [(hc2 _ (nBs s' hs')).1, (hc2 _ (nLs s' 0 hs' (by omega))).1, (hc2 _ (nLs s' 1 hs' (by omega))).1]
                    exact (hnow.2 s' hs').k (sK.r18 hrow rfl)) (fun s' hs' => by
                  rw [hrow 5 (by omega) (by omega), hrow 2 (by omega) (by omega), hrow 7 (by omega) (by omega)]
                  exact hinow.2.1 s' hs')
              refine ⟨_, _, ρ, f, Y_bringB h.F1 hn hb hAns hu hrd, fun τ => ?_, dX.refl, by omega, by omega, cl_oB hoB, hfin⟩
              rw [a1, c1]
              exact M_answered1z (by omega) h.2.1.1 h18' hnum.symm hs
            · subst c2
              obtain ⟨⟨bf, bc, hbk⟩, he⟩ := hnow.2 (M.1 16 b) hs
              have hown := hbk.own
              have hlt := hinow.2.2 p1 ht (by omega) (by omega) h18'
              rw [← q4] at hlt
              have hfit := hbk.fit c1 hlt
              have hmx := hI3 (by omega) (by omega)
              obtain ⟨C', ρ', r1, y1, y2, y3, y4, y5, y6⟩ := Y_readB (g := g) h.1 hg0 hg2 hb hu3 p2 hL hs hAns c3 (by have := hbk.2.2.1.1; omega)
              have hkp : kp S F ρ ρ' := kp.dx y4
              have at_ := fun r c => rdB_at (M := M) (b := b) (j := 3 * b + M.1 16 b) (fi := r4) (z := r5) (m := M.1 4 (3 * b + M.1 16 b) + 1) (r := r) (c := c)
              have hbl := hbk.blk (b := b) (f' := fSet f (oLs b (M.1 16 b) 0) (C.1 (oLs b (M.1 16 b) 0) 1) bq) c1 hlt c3 hkp (fun b' hb' => by unfold fSet; rw [if_neg (fun h => by omega)]) (by unfold fSet; rw [if_pos ⟨rfl, rfl⟩])
              have hbe := he.blk (b := b) (fi := r4) (z := r5) (m := M.1 4 (3 * b + M.1 16 b) + 1) (f' := fSet f (oLs b (M.1 16 b) 0) (C.1 (oLs b (M.1 16 b) 0) 1) bq) hown.2 hkp (fun t _ => by rw [fSet_ne (by unfold oLs; omega)])
              have hmo : ∀ τ, s_Mo_answered g am (zi b) (zi r2) (zi r3) (zi r4) (zi r5) (mW am M τ) = some (mW am (mSN (mAn (mSN M 18 b 0) (3 * b + M.1 16 b) r4 r5) 4 (3 * b + M.1 16 b) (M.1 4 (3 * b + M.1 16 b) + 1)) τ) := fun τ => by
                rw [a1]
                exact M_answered1 (by omega) h.2.1.1 h18' hnum.symm hs (by omega) hfit.1 (by omega) (by omega)
              have h2' : (mSN (mAn (mSN M 18 b 0) (3 * b + M.1 16 b) r4 r5) 4 (3 * b + M.1 16 b) (M.1 4 (3 * b + M.1 16 b) + 1)).2 = M.2 := rfl
              generalize hM' : mSN (mAn (mSN M 18 b 0) (3 * b + M.1 16 b) r4 r5) 4 (3 * b + M.1 16 b) (M.1 4 (3 * b + M.1 16 b) + 1) = M' at at_ hbl hbe hmo h2'
              have hrow : ∀ r, ¬ r = 2 → ¬ r = 4 → ¬ r = 7 → ¬ r = 8 → ¬ r = 9 → ¬ r = 18 → M'.1 r = M.1 r := fun r x1 x2 x3 x4 x5 x6 => by
                funext c
                rw [at_, if_neg (by omega), if_neg (by omega), if_neg (by omega), if_neg (by omega), if_neg (by omega), if_neg (by omega)]
              have v18 : ∀ c, M'.1 18 c = if c = b then 0 else M.1 18 c := fun c => by
                rw [at_, if_neg (by omega), if_neg (by omega), if_neg (by omega), if_neg (by omega), if_neg (by omega)]
                by_cases hc : c = b
                · rw [if_pos ⟨rfl, hc⟩, if_pos hc]
                · rw [if_neg (fun h => hc h.2), if_neg hc]
              have hoK : ∀ r c, ¬ r = 18 → (2 ≤ r ∧ r ≤ 6 → ¬ c = 3 * b + M.1 16 b) → ((r = 7 ∨ r = 8 ∨ r = 9) → ¬ c / 300 = 3 * b + M.1 16 b) → M'.1 r c = M.1 r c := fun r c x1 x2 x3 => by
                rw [at_, if_neg (by omega), if_neg (by omega), if_neg (by omega), if_neg (by omega), if_neg (by omega), if_neg (by omega)]
              have hoB : oB b M M' := by
                refine ⟨fun k hk => hoK 1 k (by omega) (by omega) (by omega), fun r k x1 x2 x3 x4 => hoK r k (by omega) (fun _ => by omega) (by omega), fun r k x1 x2 x3 => hoK r k (by omega) (by omega) (fun _ => by omega), fun k x1 x2 => hoK 13 k (by omega) (by omega) (by omega), fun r k x1 x2 x3 x4 => ?_, fun r x1 x2 => hrow r (by omega) (by omega) (by omega) (by omega) (by omega) (by omega), fun k _ _ => by rw [h2'], by rw [h2'], fun k _ _ => by rw [h2'], by rw [h2'], by rw [h2'], by rw [h2']⟩
                by_cases hr18 : r = 18
                · subst hr18; rw [v18, if_neg x3]
                · exact hoK r k hr18 (by omega) (by omega)
              have hok : mOK M' := by
                intro r c
                rw [at_]
                split
                · rename_i hx; rw [hx.1, show mbd 4 = 2147483648 by decide]; omega
                · split
                  · rename_i hx; rw [hx.1, show mbd 2 = 2147483648 by decide]; omega
                  · split
                    · rename_i hx; rw [hx.1]; decide
                    · split
                      · rename_i hx; rw [hx.1, show mbd 8 = 32768 by decide]; omega
                      · split
                        · rename_i hx; rw [hx.1, show mbd 7 = 32768 by decide]; omega
                        · split
                          · rename_i hx; rw [hx.1]; decide
                          · exact h.2.1.1 r c
              have hsk : ∀ j', ¬ j' = 3 * b + M.1 16 b → bd M j' → sK M M' j' j' := fun j' hj hbd => by
                obtain ⟨d1, d2⟩ := hbd
                exact ⟨fun r k1 k2 => hoK r j' (by omega) (fun _ => hj) (by omega), fun k hk => ⟨⟨hoK 7 _ (by omega) (by omega) (fun _ => by omega), hoK 8 _ (by omega) (by omega) (fun _ => by omega), hoK 9 _ (by omega) (by omega) (fun _ => by omega), hoK 12 _ (by omega) (by omega) (by omega)⟩, by rw [h2'], by rw [h2']⟩, fun t _ => hoK 13 _ (by omega) (by omega) (by omega)⟩
              have hbdn : ∀ s', s' < 3 → bd M (3 * b + s') := fun s' hs' => by have := h.bdn hT hv hb hs'; exact ⟨this.1, this.2.2⟩
              have hbd6 : ∀ s', s' < 3 → bd M (3 * (b + 6) + s') := fun s' hs' => by have := h.bdd hT hb hs' (Or.inr rfl); exact ⟨this.1, this.2.2⟩
              have hc2 : ∀ x, ¬ x = oBr b → ¬ x = oLs b (M.1 16 b) 0 → same4 C C' x := fun x hx hx2 => (show same4 C (cSN C (oBr b) 3 0) x from ⟨by funext k; rw [cSN_at, if_neg (fun h => hx h.1)], rfl, rfl, rfl⟩).trans (y3 x hx2)
              have hcb : ∀ k, C'.1 (oBr b) k = if k = 3 then 0 else C.1 (oBr b) k := fun k => by
                rw [(y3 (oBr b) (by unfold oBr oLs; omega)).1, cSN_at]
                by_cases hk : k = 3
                · rw [if_pos ⟨rfl, hk⟩, if_pos hk]
                · rw [if_neg (fun h => hk h.2), if_neg hk]
              have hcp : C'.2.2.2 (oBr b) = C.2.2.2 (oBr b) := (y3 (oBr b) (by unfold oBr oLs; omega)).2.2.2
              have nBL : ∀ s', s' < 3 → ¬ oBs b s' = oLs b (M.1 16 b) 0 := fun s' hs' => by unfold oBs oLs; omega
              have nLL : ∀ s' k, s' < 3 → k < 2 → ¬ (s' = M.1 16 b ∧ k = 0) → ¬ oLs b s' k = oLs b (M.1 16 b) 0 := fun s' k hs' hk hne => by unfold oLs; omega
              have hfn : ∀ o, ¬ o = oLs b (M.1 16 b) 0 → fSet f (oLs b (M.1 16 b) 0) (C.1 (oLs b (M.1 16 b) 0) 1) bq o = f o := fun o ho => fSet_ne ho
              have hfin := h.rd (C' := C') (M' := M') (ρ' := ρ') (f' := fSet f (oLs b (M.1 16 b) 0) (C.1 (oLs b (M.1 16 b) 0) 1) bq) hT hb hu h1 hv h18' ht hok hoB (by rw [hrow 1 (by omega) (by omega) (by omega) (by omega) (by omega) (by omega)]; exact h1) (fun r k1 k2 => by rw [hrow r (by omega) (by omega) (by omega) (by omega) (by omega) (by omega)]; exact ⟨rfl, rfl⟩) (by rw [v18, if_pos rfl]) ⟨by rw [v18, if_neg (by omega)], by rw [hrow 19 (by omega) (by omega) (by omega) (by omega) (by omega) (by omega)]⟩ (fun s' hs' => hsk _ (by omega) (hbd6 s' hs')) hkp y1 (fun x hx => hc2 x (by unfold oBr; omega) (by unfold oLs; omega)) (fun o ho => hfn o (by unfold oLs; omega)) (fun k hk => by rw [hcb, if_neg (by omega)]) hcp (fun s' hs' k hk => by rw [(hc2 _ (nBs s' hs') (nBL s' hs')).1]) (fun s' hs' => by
                  rw [(hc2 (oLs b s' 1) (nLs s' 1 hs' (by omega)) (nLL s' 1 hs' (by omega) (by omega))).1]
                  refine ⟨?_, Nat.le_refl _⟩
                  by_cases hss : s' = M.1 16 b
                  · subst hss; rw [y2]; omega
                  · rw [(hc2 (oLs b s' 0) (nLs s' 0 hs' (by omega)) (nLL s' 0 hs' (by omega) (by omega))).1]; exact Nat.le_refl _) (fun s' hs' => by
                  refine ⟨fun b' hb' => ?_, fun b' _ => by rw [hfn _ (nLL s' 1 hs' (by omega) (by omega))]⟩
                  by_cases hss : s' = M.1 16 b
                  · subst hss; unfold fSet; rw [if_neg (fun h => by omega)]
                  · rw [hfn _ (nLL s' 0 hs' (by omega) (by omega))]) (by
                  refine ⟨⟨?_, ?_⟩, fun s' hs' => ?_⟩
                  · rw [v18, if_pos rfl, hcb, if_pos rfl]
                  · rw [hrow 19 (by omega) (by omega) (by omega) (by omega) (by omega) (by omega), hcb, if_neg (by omega)]; exact hnow.1.2
                  · rw [(hc2 _ (nBs s' hs') (nBL s' hs')).1, (hc2 (oLs b s' 1) (nLs s' 1 hs' (by omega)) (nLL s' 1 hs' (by omega) (by omega))).1]
                    by_cases hss : s' = M.1 16 b
                    · subst hss
                      rw [y2]
                      exact ⟨⟨_, _, hbl⟩, hbe⟩
                    · rw [(hc2 (oLs b s' 0) (nLs s' 0 hs' (by omega)) (nLL s' 0 hs' (by omega) (by omega))).1]
                      refine (((hnow.2 s' hs').k (hsk _ (by omega) (hbdn s' hs'))).kp hkp).ff (fun b' _ => ?_) (fun b' _ => ?_)
                      · rw [hfn _ (nLL s' 0 hs' (by omega) (by omega))]
                      · rw [hfn _ (nLL s' 1 hs' (by omega) (by omega))]) (fun s' hs' => by
                  rw [hrow 5 (by omega) (by omega) (by omega) (by omega) (by omega) (by omega)]
                  refine ⟨(hinow.2.1 s' hs').1, fun k hk => ?_⟩
                  by_cases hss : s' = M.1 16 b
                  · subst hss
                    rw [at_, if_neg (by omega), if_pos ⟨rfl, rfl⟩] at hk
                    rw [at_, if_neg (by omega), if_neg (by omega), if_neg (by omega), if_neg (by omega)]
                    by_cases hkl : k < M.1 2 (3 * b + M.1 16 b)
                    · rw [if_neg (by omega), if_neg (by omega)]
                      exact (hinow.2.1 _ hs).2 k hkl
                    · rw [if_pos ⟨rfl, by omega, by omega⟩]
                      omega
                  · rw [hoK 2 _ (by omega) (fun _ => by omega) (by omega)] at hk
                    have := (hbdn s' hs').1
                    rw [hoK 7 _ (by omega) (by omega) (fun _ => by omega)]
                    exact (hinow.2.1 s' hs').2 k hk)
              exact ⟨C', M', ρ', _, Y_bringB h.F1 hn hb hAns hu r1, hmo, y4, by omega, by omega, cl_oB hoB, hfin⟩
        · have hlT : M.1 14 b < 2147483648 := by omega
          exact ⟨C, M, ρ, f, Y_bringB h.F1 hn hb hAns hu (Y_readN h.F1 hb (by omega) p2 hL hAns hnum (by omega)), fun τ => M_answered0 (by omega) h.2.1.1 (Or.inr (fun h => hnum h.symm)) (by omega), dX.refl, by omega, by omega, rfl, h⟩
  · omega
theorem K_deliver {x : Int32} (h : RR e S F n C M ρ f T) (hr : RO ρ M T A B) (hT : T < 512) (hg0 : g 0 = some e) (hg2 : ∃ mi, g 10 = some mi) : CO0 e S F n am A B M ρ T (s_No_deliver g S x (cW S n C ρ)) (s_Mo_deliver g am x) := by
  have hn := h.n6
  obtain ⟨⟨hp, h64⟩, hpe⟩ := h.2.2.2.2.2.2.1
  rcases ix x (M.2.2.2.1 34) with hx | ⟨k, hk, rfl⟩
  · exact CO0.same h hr hT (Y_deliverN (by omega) (by rw [hp]; exact hx)) (fun τ => M_deliverN h64 hx)
  · have hPE := hpe k hk
    have hE : ∀ (C1 : cS) (ρ1 : zS), drp e S F n k C ρ f C1 ρ1 → PE F ρ1 C1 (mTak M k) (fDel f (oPo n) k) n (f (oPo n) k) (M.1 33 (8 * k)) (M.1 33 (8 * k + 1)) (M.1 33 (8 * k + 2)) (M.1 33 (8 * k + 3)) (M.1 33 (8 * k + 4)) (M.1 33 (8 * k + 5)) := fun C1 ρ1 hd => hPE.mono (kp.dx (S := S) hd.2.2.2.1) (evK.po hd.2.2.1 (fun o ho => fDel_ne ho)) (lK.row (fun r hr => tak_row hr))
    have hcl : cl (mTak M k) = cl M := cl_row (tak_row (by omega))
    obtain ⟨hb, -, hcase⟩ := hpe k hk
    rcases hcase with ⟨r0, ⟨st, bl, hA, -⟩, -⟩ | ⟨r0, ⟨-, w, ev, hL, -⟩, -⟩
    · obtain ⟨C1, ρ1, hd, hrun⟩ := Y_deliverA (g := g) h.1 (by rw [hp]; exact hk) hA
      have hR := (h.tak hk hd).T1
      have hPE1 := hE C1 ρ1 hd
      rw [r0] at hPE1
      rcases hR.uB hb with ⟨u1, u2, u3⟩ | ⟨u1, u2, u3⟩
      · obtain ⟨C', M', ρ', f', z1, z2, z3, z4, z5, z6, z7⟩ := K_read (g := g) (am := am) hR (by omega) hg0 hg2 hPE1 u1 u2 u3
        have u2' : M.1 1 (M.1 33 (8 * k + 1)) = 0 := by rw [tak_row (by omega)] at u2; exact u2
        refine ⟨1, C', M', ρ', f', hrun _ z1, fun τ => M_deliverA hk h64 h.2.1.1 r0 rfl (by omega) u2' (z2 τ), dY.dx (hd.2.2.2.1.trans z3), z7, hr.cl hT (z6.trans hcl) (by have := hd.2.2.2.2.1; omega) (by have := hd.2.2.2.2.2; omega)⟩
      · obtain ⟨-, -, ⟨-, ⟨st', bl', hA', -⟩, -⟩ | ⟨r0', -⟩⟩ := hPE1
        · have u2' : M.1 1 (M.1 33 (8 * k + 1)) = 1 := by rw [tak_row (by omega)] at u2; exact u2
          refine ⟨1, C1, mTak M k, ρ1, _, hrun _ (Y_bringB0 h.F1 hn hb hA' u1), fun τ => M_deliverA1 hk h64 h.2.1.1 r0 rfl (by omega) u2', dY.dx hd.2.2.2.1, hR, hr.cl hT hcl (by have := hd.2.2.2.2.1; omega) (by have := hd.2.2.2.2.2; omega)⟩
        · omega
    · obtain ⟨C1, ρ1, hd, hrun⟩ := Y_deliverL (g := g) h.1 (by rw [hp]; exact hk) hL
      have hR := (h.tak hk hd).T1
      have hPE1 := hE C1 ρ1 hd
      have e34 : (mTak M k).2.2.2.1 1 = M.2.2.2.1 1 := rfl
      rcases hR.uO with ⟨u1, u2, u3⟩ | ⟨u1, u2, u3⟩
      · obtain ⟨C', M', ρ', f', z1, z2, z3, z4, z5, z6, z7⟩ := K_office (g := g) (am := am) hR (by omega) hg0 hg2 hPE1 r0 u3 u1 ⟨tak_34 (c := 0) (by omega), tak_34 (by omega), tak_34 (by omega), tak_34 (by omega), tak_34 (by omega), tak_34 (by omega)⟩
        have u2' : M.1 1 (M.2.2.2.1 1) = 0 := by rw [tak_row (by omega), e34] at u2; exact u2
        refine ⟨1, C', M', ρ', f', hrun _ z1, fun τ => M_deliverL hk h64 h.m6 r0 u2' (z2 τ), dY.dx (hd.2.2.2.1.trans z3), z7, hr.cl hT (z6.trans hcl) (by have := hd.2.2.2.2.1; omega) (by have := hd.2.2.2.2.2; omega)⟩
      · have u2' : M.1 1 (M.2.2.2.1 1) = 1 := by rw [tak_row (by omega), e34] at u2; exact u2
        refine ⟨1, C1, mTak M k, ρ1, _, hrun _ (Y_bringO0 u1), fun τ => M_deliverL1 hk h64 h.m6 r0 u2', dY.dx hd.2.2.2.1, hR, hr.cl hT hcl (by have := hd.2.2.2.2.1; omega) (by have := hd.2.2.2.2.2; omega)⟩
end CALL19
