section CALL10
variable {g : zG} {e S F n am A B T i s q b x y u v j : Nat} {C C' : cS} {M M' : mS} {ρ ρ' : zS} {f f' : Nat → Nat → Nat}
theorem BR.lp (h : BR F ρ C M f n i) (hv : vw M i = i) (hi : i < n) : LPn F ρ (cSv C i) M f n i i (C.2.2.2 (oBr i) 2) := by
  obtain ⟨h1, h2, h3, h4, h5⟩ := h
  rw [hv] at h5
  rcases h5 with ⟨p1, p2, p3, p4⟩ | ⟨p1, p, fr, p2, p3, p4, p5⟩
  · exact Or.inl ⟨p1, p2, p3⟩
  · refine Or.inr ⟨p1, p, fr, p2, p3.mono (S := 0) (C' := cSv C i) (f' := f) kp.refl ?_, p4⟩
    intro b s hb hs
    refine ⟨?_, fun _ _ => rfl⟩
    by_cases hbi : b = i
    · subst hbi
      rw [(cSv_bs (C := C) (i := b) hs).2.1]; exact (h3 s hs).2
    · rw [(cSv_out (C := C) (i := i) (x := oBs b s) (by unfold oBs; omega)).1]; exact Nat.le_refl _
theorem RR.now (h : RR e S F n C M ρ f T) (hv : vw M i = i) (hi : i < n) : nowV C F ρ M f i i := by
  have := (h.2.2.2.1 i hi).1
  rw [hv] at this
  exact this
theorem RR.inow (h : RR e S F n C M ρ f T) (hv : vw M i = i) (hi : i < n) : INv M i i T := by
  have := (h.inn hi).2.1
  rw [hv] at this
  exact this
theorem RR.ev0 (h : RR e S F n C M ρ f T) (hi : i < n) : ∀ s, s < 3 → C.1 (oBs i s) 6 ≤ C.1 (oLs i s 1) 1 ∧ ∀ t, t < C.1 (oBs i s) 6 → f (oLs i s 1) t = f (oLs i s 1) t := fun s hs => ⟨((h.2.2.2.1 i hi).2.2.1 s hs).2, fun _ _ => rfl⟩
theorem cl_oB (h : oB i M M') : cl M' = cl M := cl_row (h.2.2.2.2.2.1 20 (by omega) (by omega))
theorem RR.sv (h : RR e S F n C M ρ f T) (hT : T ≤ 600) (hi : i < n) (hu : C.1 (oBr i) 8 = 1) (h1 : M.1 1 i = 0) (hv : vw M i = i) : RR e S F n (cSv C i) (mCpR M i (i + 6)) ρ f T :=
  h.saveB hT hi h.1 h.2.1.1 kp.refl oB.refl (fun _ _ => same4.refl) (fun _ _ => rfl) h1 hu (h.now hv hi) (h.ev0 hi) ((h.2.2.2.1 i hi).lp hv hi) (Or.inl ⟨rfl, rfl, rfl⟩) (h.inn hi).1 (h.inow hv hi)
theorem RR.w2 (h : RR e S F n C M ρ f T) (hv : vw M i = i) (hi : i < n) : C.1 (oBr i) 3 = M.1 18 i ∧ C.1 (oBr i) 4 = M.1 19 i ∧ C.1 (oBr i) 3 < 2 ∧ C.1 (oBr i) 4 < 2 := by
  have h1 := (h.now hv hi).1
  have b18 := mOK.b2 h.2.1.1 (j := 18) (by omega) i
  have b19 := mOK.b2 h.2.1.1 (j := 19) (by omega) i
  omega
theorem RR.bdn (h : RR e S F n C M ρ f T) (hT : T ≤ 600) (hv : vw M i = i) (hi : i < n) (hs : s < 3) : M.1 2 (3 * i + s) ≤ 300 ∧ M.1 3 (3 * i + s) ≤ M.1 2 (3 * i + s) ∧ M.1 5 (3 * i + s) ≤ 600 := h.bdd hT hi hs (Or.inl hv.symm)
theorem oB.bdr (h : RR e S F n C M ρ f T) (hT : T ≤ 600) (hv : vw M i = i) (hi : i < n) : oB i M (mCpR M i (i + 6)) := oB.r (Or.inr rfl) (by omega) (fun s hs => by have := h.bdn hT hv hi hs; exact ⟨this.1, this.2.2⟩)
theorem K_flush {x : Int32} (h : RR e S F n C M ρ f T) (hr : RO ρ M T A B) (hT : T < 512) : CO0 e S F n am A B M ρ T (s_No_flush g S x (cW S n C ρ)) (s_Mo_flush g am x) := by
  have hn := h.n6
  rcases ix x (n + 1) with hx | ⟨i, hi, rfl⟩
  · exact CO0.same h hr hT (Y_flushN hn hx) (fun τ => M_flushN h.m6 (by rw [h.2.1.2.2]; exact hx))
  · have hle : i ≤ M.2.2.2.1 1 := by rw [h.2.1.2.2]; omega
    by_cases hin : i = n
    · subst hin
      rcases h.uO with ⟨u1, u2, u3⟩ | ⟨u1, u2, u3⟩
      · exact K_flushO h hr hT u1
      · exact CO0.same h hr hT (Y_flushXO hn u1) (fun τ => M_flushX h.m6 hle (by rw [← h.2.1.2.2]; rw [h.2.1.2.2] at u2; rw [h.2.1.2.2]; exact u2))
    · have hi2 : i < n := by omega
      rcases h.uB hi2 with ⟨u1, u2, u3⟩ | ⟨u1, u2, u3⟩
      · have hw := h.w2 u3 hi2
        have hh := (h.T1.th (x := 0)).sv (by omega) hi2 u1 u2 u3
        refine ⟨zi 1, cSv C i, mCpR (mSs M 0 0) i (i + 6), ρ, f, Y_flushB hn hi2 u1 hw.2.2.1 hw.2.2.2, fun τ => M_flushB h.m6 (by rw [h.2.1.2.2]; exact hi2) u2 h.2.1.1 (fun s hs => (h.bdn (by omega) u3 hi2 hs).1) (fun s hs => (h.bdn (by omega) u3 hi2 hs).2.2), dY.refl, hh, hr.cl hT ?_ (by omega) (by omega)⟩
        have ec : cl (mCpR (mSs M 0 0) i (i + 6)) = cl (mSs M 0 0) := cl_oB (oB.bdr (h.th (x := 0)) (by omega) u3 hi2)
        have ec2 : cl (mSs M 0 0) = cl M := rfl
        rw [ec, ec2]
      · exact CO0.same h hr hT (Y_flushXB hn hi2 u1) (fun τ => M_flushX h.m6 hle u2)
theorem sK.r1 {k w : Nat} : sK M (mSN (mSs M 0 0) 1 k w) j j := by
  have hr : ∀ r, ¬ r = 1 → (mSN (mSs M 0 0) 1 k w).1 r = M.1 r := fun r hr => row_set hr
  exact ⟨fun r h1 h2 => by rw [hr r (by omega)], fun _ _ => ⟨⟨by rw [hr 7 (by omega)], by rw [hr 8 (by omega)], by rw [hr 9 (by omega)], by rw [hr 12 (by omega)]⟩, rfl, rfl⟩, fun _ _ => by rw [hr 13 (by omega)]⟩
theorem oB.r1 {w : Nat} : oB i M (mSN (mSs M 0 0) 1 i w) := (oB.th (Or.inl rfl)).trans (oB.N (Or.inl ⟨rfl, rfl⟩))
theorem r1_at {w : Nat} : (mSN (mSs M 0 0) 1 i w).1 1 i = w := if_pos ⟨rfl, rfl⟩
theorem LLs.br (h : LLs e S F n C ρ f) (hi : i < n) (hc : ∀ x, ¬ x = oBr i → same4 C C' x) : LLs e S F n C' ρ f := h.same (fun j hj _ => by
  have := hc j (ne_Br hi hj)
  exact ⟨this.1, this.2.2.2⟩)
theorem K_crash {x : Int32} (h : RR e S F n C M ρ f T) (hr : RO ρ M T A B) (hT : T < 512) : CO0 e S F n am A B M ρ T (s_No_crash g S x (cW S n C ρ)) (s_Mo_crash g am x) := by
  have hn := h.n6
  rcases ix x (n + 1) with hx | ⟨i, hi, rfl⟩
  · exact CO0.same h hr hT (Y_crashN hn hx) (fun τ => M_crashN h.m6 (by rw [h.2.1.2.2]; exact hx))
  · have hle : i ≤ M.2.2.2.1 1 := by rw [h.2.1.2.2]; omega
    by_cases hin : i = n
    · subst hin
      rcases h.uO with ⟨u1, u2, u3⟩ | ⟨u1, u2, u3⟩
      · exact K_crashO h hr hT u1
      · rw [h.2.1.2.2] at u2
        exact CO0.same h hr hT (Y_crashXO hn u1) (fun τ => M_crashX h.m6 hle u2)
    · have hi2 : i < n := by omega
      rcases h.uB hi2 with ⟨u1, u2, u3⟩ | ⟨u1, u2, u3⟩
      · have hB := h.2.2.2.1 i hi2
        have h8 : ∀ x, ¬ x = oBr i → same4 C (cSN C (oBr i) 8 0) x := fun x hx => ⟨by funext k; rw [cSN_at, if_neg (fun h => hx h.1)], rfl, rfl, rfl⟩
        have h8b : ∀ k, ¬ k = 8 → (cSN C (oBr i) 8 0).1 (oBr i) k = C.1 (oBr i) k := fun k hk => by rw [cSN_at, if_neg (fun h => hk h.2)]
        have nBs : ∀ s, s < 3 → ¬ oBs i s = oBr i := fun s hs => by unfold oBs oBr; omega
        have nLs : ∀ s k, s < 3 → k < 2 → ¬ oLs i s k = oBr i := fun s k hs hk => by unfold oLs oBr; omega
        have b18 := mOK.b2 h.2.1.1 (j := 18) (by omega) (i + 6)
        have b19 := mOK.b2 h.2.1.1 (j := 19) (by omega) (i + 6)
        obtain ⟨w6, w7⟩ := hB.2.1.1
        obtain ⟨C2, ρ2, f2, ⟨g1, g2, g3, g4, g5, g6⟩, h1⟩ := Y_forgetB (g := g) (h.1.br hi2 h8) hi2 (fun s hs => by rw [(h8 _ (nBs s hs)).1, (h8 _ (nLs s 0 hs (by omega))).1]; exact (hB.2.2.1 s hs).1) (fun s hs => by rw [(h8 _ (nBs s hs)).1, (h8 _ (nLs s 1 hs (by omega))).1]; exact (hB.2.2.1 s hs).2) (by rw [h8b 6 (by omega)]; omega) (by rw [h8b 7 (by omega)]; omega)
        have hrun := Y_crashB hn hi2 u1 h1
        have g5' : same4 (cSN C (oBr i) 8 0) C2 (oBr i) := g5 _ (fun s hs => ⟨fun h => nBs s hs h.symm, fun h => nLs s 0 hs (by omega) h.symm, fun h => nLs s 1 hs (by omega) h.symm⟩)
        rw [h8b 6 (by omega), h8b 7 (by omega)] at hrun
        have e2 : (cSN C (oBr i) 8 0).2.2.2 (oBr i) 5 = C.2.2.2 (oBr i) 5 := rfl
        rw [e2] at hrun
        generalize hC3 : cSN (cSN (cSP C2 (oBr i) 2 (C.2.2.2 (oBr i) 5)) (oBr i) 3 (C.1 (oBr i) 6)) (oBr i) 4 (C.1 (oBr i) 7) = C3 at hrun
        have c3o : ∀ x, ¬ x = oBr i → same4 C2 C3 x := fun x hx => by
          rw [← hC3]
          refine ⟨funext (fun k => ?_), rfl, rfl, funext (fun k => ?_)⟩
          · rw [cSN_at, cSN_at, if_neg (fun h => hx h.1), if_neg (fun h => hx h.1)]; rfl
          · show (cSP C2 (oBr i) 2 (C.2.2.2 (oBr i) 5)).2.2.2 x k = _
            rw [cSP_at, if_neg (fun h => hx h.1)]
        have c33 : C3.1 (oBr i) 3 = C.1 (oBr i) 6 := by rw [← hC3, cSN_at, cSN_at, if_neg (by omega), if_pos ⟨rfl, rfl⟩]
        have c34 : C3.1 (oBr i) 4 = C.1 (oBr i) 7 := by rw [← hC3, cSN_at, if_pos ⟨rfl, rfl⟩]
        have c3k : ∀ k, ¬ k = 3 → ¬ k = 4 → C3.1 (oBr i) k = (cSN C (oBr i) 8 0).1 (oBr i) k := fun k k3 k4 => by
          rw [← hC3, cSN_at, cSN_at, if_neg (fun h => k4 h.2), if_neg (fun h => k3 h.2)]
          show C2.1 (oBr i) k = _
          rw [g5'.1]
        have c3p : C3.2.2.2 (oBr i) 2 = C.2.2.2 (oBr i) 5 ∧ C3.2.2.2 (oBr i) 5 = C.2.2.2 (oBr i) 5 := by
          rw [← hC3]
          constructor
          · show (cSP C2 (oBr i) 2 (C.2.2.2 (oBr i) 5)).2.2.2 (oBr i) 2 = _
            rw [cSP_at, if_pos ⟨rfl, rfl⟩]
          · show (cSP C2 (oBr i) 2 (C.2.2.2 (oBr i) 5)).2.2.2 (oBr i) 5 = _
            rw [cSP_at, if_neg (by omega), g5'.2.2.2]
            exact e2
        have fg : ∀ s, s < 3 → C3.1 (oLs i s 0) 1 = C.1 (oBs i s) 5 ∧ C3.1 (oLs i s 1) 1 = C.1 (oBs i s) 6 ∧ C3.1 (oBs i s) 2 = C.1 (oBs i s) 7 ∧ C3.1 (oBs i s) 3 = C.1 (oBs i s) 8 ∧ C3.1 (oBs i s) 4 = C.1 (oBs i s) 9 ∧ ∀ k, 5 ≤ k → C3.1 (oBs i s) k = C.1 (oBs i s) k := fun s hs => by
          obtain ⟨q1, q2, q3, q4, q5, q6⟩ := g4 s hs
          rw [(h8 _ (nBs s hs)).1] at q1 q2 q3 q4 q5 q6
          rw [(c3o _ (nLs s 0 hs (by omega))).1, (c3o _ (nLs s 1 hs (by omega))).1, (c3o _ (nBs s hs)).1]
          exact ⟨q1, q2, q3, q4, q5, q6⟩
        have ff0 : ∀ s, s < 3 → ∀ b, b < C.1 (oBs i s) 5 → f2 (oLs i s 0) b = f (oLs i s 0) b := fun s hs b hb => g6 _ _ (fun s' hs' => by
          rw [(h8 _ (nBs s' hs')).1]
          refine ⟨fun h => ?_, fun h => ?_⟩
          · have : s = s' := by unfold oLs at h; omega
            subst this; exact hb
          · exact absurd h (by unfold oLs; omega))
        have ff1 : ∀ s, s < 3 → ∀ b, b < C.1 (oBs i s) 6 → f2 (oLs i s 1) b = f (oLs i s 1) b := fun s hs b hb => g6 _ _ (fun s' hs' => by
          rw [(h8 _ (nBs s' hs')).1]
          refine ⟨fun h => ?_, fun h => ?_⟩
          · exact absurd h (by unfold oLs; omega)
          · have : s = s' := by unfold oLs at h; omega
            subst this; exact hb)
        have hout : ∀ x, ¬ (2 + 11 * i ≤ x ∧ x < 13 + 11 * i) → same4 C C3 x := fun x hx => by
          have nx : ¬ x = oBr i := by unfold oBr; omega
          exact ((h8 x nx).trans (g5 x (fun s hs => by unfold oBs oLs; omega))).trans (c3o x nx)
        have hfo : ∀ o, ¬ (2 + 11 * i ≤ o ∧ o < 13 + 11 * i) → f2 o = f o := fun o ho => funext (fun k => g6 _ _ (fun s hs => by unfold oLs; omega))
        have hv : vw (mSN (mSs M 0 0) 1 i 1) i = i + 6 := by unfold vw; rw [r1_at, if_neg (by omega)]
        have hrow : ∀ r, ¬ r = 1 → (mSN (mSs M 0 0) 1 i 1).1 r = M.1 r := fun r hr => row_set hr
        have hk : kp S F ρ ρ2 := kp.dx g2
        have hok : mOK (mSN (mSs M 0 0) 1 i 1) := mOK.set (mOK.set2 h.2.1.1 rfl) (by decide)
        have hsafe : ∀ s, s < 3 → BK F ρ2 (mSN (mSs M 0 0) 1 i 1) f2 (oLs i s 0) (oLs i s 1) (C.1 (oBs i s) 5) (C.1 (oBs i s) 6) (C.1 (oBs i s) 7) (C.1 (oBs i s) 8) (C.1 (oBs i s) 9) (3 * (i + 6) + s) := fun s hs => (((hB.2.1.2 s hs).k sK.r1).kp hk).ff (ff0 s hs) (ff1 s hs)
        obtain ⟨i0, i1, i2⟩ := h.T1.inn hi2
        have hIN := IN.up (M' := mSN (mSs M 0 0) 1 i 1) (h.h16 hi2) (fun r hr => hrow r (by omega)) (fun r k1 k2 => by rw [hrow r (by omega)]) (fun s hs => by rw [hrow 22 (by omega)]; exact Nat.le_refl _) i0
        refine ⟨zi 1, C3, mSN (mSs M 0 0) 1 i 1, ρ2, f2, hrun, fun τ => M_crash h.m6 hle u2, dY.dx g2, h.T1.brn (by omega) hi2 (g1.br hi2 c3o) hok hk oB.r1 hout hfo ⟨⟨?_, fun s hs => ?_⟩, ⟨?_, fun s hs => ?_⟩, fun s hs => ?_, ⟨?_, fun r k1 k2 => ?_⟩, ?_⟩ ?_ (fun s hs => ?_) (Or.inl ⟨by rw [hrow 14 (by omega)], by rw [hrow 15 (by omega)], by rw [hrow 16 (by omega)]⟩) (by rw [hv]; exact ⟨hIN.1, hIN.2 _ i2, hIN.2 _ i2⟩), hr.cl hT (cl_oB oB.r1) (by rw [g3.1]; omega) (by rw [g3.2]; omega)⟩
        · rw [hv, c33, c34, hrow 18 (by omega), hrow 19 (by omega)]; exact ⟨w6, w7⟩
        · obtain ⟨q1, q2, q3, q4, q5, q6⟩ := fg s hs
          rw [hv, q1, q2, q3, q4, q5]; exact hsafe s hs
        · rw [c3k 6 (by omega) (by omega), c3k 7 (by omega) (by omega), h8b 6 (by omega), h8b 7 (by omega), hrow 18 (by omega), hrow 19 (by omega)]; exact ⟨w6, w7⟩
        · obtain ⟨q1, q2, q3, q4, q5, q6⟩ := fg s hs
          rw [q6 5 (by omega), q6 6 (by omega), q6 7 (by omega), q6 8 (by omega), q6 9 (by omega)]; exact hsafe s hs
        · obtain ⟨q1, q2, q3, q4, q5, q6⟩ := fg s hs
          rw [q1, q2, q6 5 (by omega), q6 6 (by omega)]; exact ⟨Nat.le_refl _, Nat.le_refl _⟩
        · rw [c3p.1, c3p.2]
        · rw [hrow r (by omega)]; exact hB.2.2.2.1.2 r k1 k2
        · rw [hv, c3p.1, hB.2.2.2.1.1, hrow 14 (by omega), hrow 15 (by omega), hrow 16 (by omega), hrow 17 (by omega), hrow 18 (by omega)]
          rcases hB.2.2.2.2 with ⟨p1, p2, p3, p4⟩ | ⟨p1, p, fr, p2, p3, p4, p5⟩
          · exact Or.inl ⟨p1, p2, p4, p4⟩
          · have hl : LTv (mSN (mSs M 0 0) 1 i 1) i (i + 6) fr := by
              unfold LTv at *
              rw [hrow 15 (by omega), hrow 16 (by omega), hrow 18 (by omega), hrow 6 (by omega)]; exact p5
            refine Or.inr ⟨p1, p, fr, p2, p3.mono hk (fun b s hb hs => ?_), hl, hl⟩
            by_cases hbi : b = i
            · subst hbi
              rw [(fg s hs).2.2.2.2.2 6 (by omega)]
              exact ⟨Nat.le_refl _, ff1 s hs⟩
            · rw [(hout (oBs b s) (by unfold oBs; omega)).1]
              refine ⟨Nat.le_refl _, fun t _ => by rw [hfo (oLs b s 1) (by unfold oLs; omega)]⟩
        · rw [r1_at, c3k 8 (by omega) (by omega), cSN_at, if_pos ⟨rfl, rfl⟩]
        · rw [(fg s hs).2.2.2.2.2 6 (by omega)]; exact ⟨Nat.le_refl _, ff1 s hs⟩
      · exact CO0.same h hr hT (Y_crashXB hn hi2 u1) (fun τ => M_crashX h.m6 hle u2)
theorem K_mount {x : Int32} (h : RR e S F n C M ρ f T) (hr : RO ρ M T A B) (hT : T < 512) : CO0 e S F n am A B M ρ T (s_No_mount g S x (cW S n C ρ)) (s_Mo_mount g am x) := by
  have hn := h.n6
  rcases ix x (n + 1) with hx | ⟨i, hi, rfl⟩
  · exact CO0.same h hr hT (Y_mountN hn hx) (fun τ => M_mountN h.m6 (by rw [h.2.1.2.2]; exact hx))
  · have hle : i ≤ M.2.2.2.1 1 := by rw [h.2.1.2.2]; omega
    by_cases hin : i = n
    · subst hin
      rcases h.uO with ⟨u1, u2, u3⟩ | ⟨u1, u2, u3⟩
      · rw [h.2.1.2.2] at u2
        exact CO0.same h hr hT (Y_mountXO hn u1) (fun τ => M_mountX h.m6 hle u2)
      · exact K_mountO h hr hT u1
    · have hi2 : i < n := by omega
      rcases h.uB hi2 with ⟨u1, u2, u3⟩ | ⟨u1, u2, u3⟩
      · exact CO0.same h hr hT (Y_mountXB hn hi2 u1) (fun τ => M_mountX h.m6 hle u2)
      · have hB := h.2.2.2.1 i hi2
        have h8 : ∀ x, ¬ x = oBr i → same4 C (cSN C (oBr i) 8 1) x := fun x hx => ⟨by funext k; rw [cSN_at, if_neg (fun h => hx h.1)], rfl, rfl, rfl⟩
        have h8b : ∀ k, ¬ k = 8 → (cSN C (oBr i) 8 1).1 (oBr i) k = C.1 (oBr i) k := fun k hk => by rw [cSN_at, if_neg (fun h => hk h.2)]
        have nBs : ∀ s, s < 3 → ¬ oBs i s = oBr i := fun s hs => by unfold oBs oBr; omega
        have nLs : ∀ s k, s < 3 → k < 2 → ¬ oLs i s k = oBr i := fun s k hs hk => by unfold oLs oBr; omega
        have hbd : ∀ s, s < 3 → bd M (3 * (i + 6) + s) := fun s hs => by have := h.bdd (by omega) hi2 hs (Or.inr rfl); exact ⟨this.1, this.2.2⟩
        have hbd1 : ∀ s, s < 3 → bd (mSN (mSs M 0 0) 1 i 0) (3 * (i + 6) + s) := fun s hs => (hbd s hs).k sK.r1
        have hcp := fun s (hs : s < 3) => cpR_k (M := mSN (mSs M 0 0) 1 i 0) (x := i + 6) (y := i) (by omega) hbd1 hs
        have hoB : oB i M (mCpR (mSN (mSs M 0 0) 1 i 0) (i + 6) i) := oB.r1.trans (oB.r (Or.inl rfl) (by omega) hbd1)
        have hok : mOK (mCpR (mSN (mSs M 0 0) 1 i 0) (i + 6) i) := by
          have hok0 : mOK (mSN (mSs M 0 0) 1 i 0) := mOK.set (mOK.set2 h.2.1.1 rfl) (by decide)
          exact mOK.r hok0
        have r1i : (mCpR (mSN (mSs M 0 0) 1 i 0) (i + 6) i).1 1 i = 0 := by rw [cpR_r (by omega), if_neg (by omega)]; exact r1_at
        have hv : vw (mCpR (mSN (mSs M 0 0) 1 i 0) (i + 6) i) i = i := by unfold vw; rw [r1i, if_pos rfl]
        have hrr : ∀ r, 14 ≤ r → r ≤ 19 → (mCpR (mSN (mSs M 0 0) 1 i 0) (i + 6) i).1 r i = M.1 r (i + 6) ∧ (mCpR (mSN (mSs M 0 0) 1 i 0) (i + 6) i).1 r (i + 6) = M.1 r (i + 6) := fun r k1 k2 => by
          rw [cpR_r (by omega), cpR_r (by omega), if_pos ⟨⟨k1, k2⟩, rfl⟩, if_neg (by omega), row_set (by omega)]
          exact ⟨rfl, rfl⟩
        have h1417 := hB.2.2.2.1.2
        have hro : ∀ r k, 20 ≤ r → (mCpR (mSN (mSs M 0 0) 1 i 0) (i + 6) i).1 r k = M.1 r k := fun r k k1 => by rw [cpR_r (by omega), if_neg (by omega), row_set (by omega)]
        have hnow := hB.1
        rw [u3] at hnow
        obtain ⟨i0, i1, i2⟩ := h.T1.inn hi2
        have key : ∀ x, (mCpR (mSN (mSs M 0 0) 1 i 0) (i + 6) i).1 18 x = M.1 18 (i + 6) → (∀ s, s < 3 → sK (mSN (mSs M 0 0) 1 i 0) (mCpR (mSN (mSs M 0 0) 1 i 0) (i + 6) i) (3 * (i + 6) + s) (3 * x + s)) → INv (mCpR (mSN (mSs M 0 0) 1 i 0) (i + 6) i) i x (T + 1) := fun x e18 hk => by
          have h16 := h.h16 hi2
          unfold INv at *
          rw [e18, hro 29 i (by omega), hro 30 i (by omega), hro 31 i (by omega), hro 32 i (by omega), (hrr 14 (by omega) (by omega)).1, (hrr 16 (by omega) (by omega)).1, h1417 14 (by omega) (by omega), h1417 16 (by omega) (by omega)]
          refine ⟨i2.1, fun s hs => ?_, fun k0 k1 k2 k3 k4 k hk1 => ?_⟩
          · obtain ⟨s1, s2, s3⟩ := (sK.r1 (k := i) (w := 0)).trans (hk s hs)
            rw [s1 5 (by omega) (by omega), s1 2 (by omega) (by omega), hro 22 _ (by omega)]
            refine ⟨(i2.2.1 s hs).1, fun k hk => ?_⟩
            rw [(s2 k hk).1.1]; exact (i2.2.1 s hs).2 k hk
          · obtain ⟨s1, s2, s3⟩ := (sK.r1 (k := i) (w := 0)).trans (hk _ (h16 k0))
            rw [s1 2 (by omega) (by omega)] at hk1
            rw [(s2 k hk1).1.1]; exact i2.2.2 k0 k1 k2 k3 k4 k hk1
        refine ⟨zi 1, cSN C (oBr i) 8 1, mCpR (mSN (mSs M 0 0) 1 i 0) (i + 6) i, ρ, f, Y_mountB hn hi2 u1, fun τ => M_mountB h.m6 (by rw [h.2.1.2.2]; exact hi2) u2 h.2.1.1 (fun s hs => (hbd s hs).1) (fun s hs => (hbd s hs).2), dY.refl, h.T1.brn (by omega) hi2 (h.1.br hi2 h8) hok kp.refl hoB (fun x hx => h8 x (by unfold oBr; omega)) (fun _ _ => rfl) ⟨⟨?_, fun s hs => ?_⟩, ⟨?_, fun s hs => ?_⟩, fun s hs => ?_, ⟨hB.2.2.2.1.1, fun r k1 k2 => ?_⟩, ?_⟩ ?_ (fun s hs => ?_) (Or.inl ⟨?_, ?_, ?_⟩) ?_, hr.cl hT (cl_oB hoB) (by omega) (by omega)⟩
        · rw [hv, h8b 3 (by omega), h8b 4 (by omega), (hrr 18 (by omega) (by omega)).1, (hrr 19 (by omega) (by omega)).1]; exact hnow.1
        · rw [hv, (h8 _ (nBs s hs)).1, (h8 _ (nLs s 0 hs (by omega))).1, (h8 _ (nLs s 1 hs (by omega))).1]
          exact ((hnow.2 s hs).k sK.r1).k (hcp s hs).1
        · rw [h8b 6 (by omega), h8b 7 (by omega), (hrr 18 (by omega) (by omega)).2, (hrr 19 (by omega) (by omega)).2]; exact hB.2.1.1
        · rw [(h8 _ (nBs s hs)).1]
          exact ((hB.2.1.2 s hs).k sK.r1).k (hcp s hs).2
        · rw [(h8 _ (nBs s hs)).1, (h8 _ (nLs s 0 hs (by omega))).1, (h8 _ (nLs s 1 hs (by omega))).1]
          exact hB.2.2.1 s hs
        · rw [(hrr r k1 (by omega)).1, (hrr r k1 (by omega)).2]
        · rw [hv, (hrr 18 (by omega) (by omega)).1, (hrr 18 (by omega) (by omega)).2, (hrr 14 (by omega) (by omega)).1, (hrr 15 (by omega) (by omega)).1, (hrr 16 (by omega) (by omega)).1, (hrr 17 (by omega) (by omega)).1, h1417 14 (by omega) (by omega), h1417 15 (by omega) (by omega), h1417 16 (by omega) (by omega), h1417 17 (by omega) (by omega)]
          rcases hB.2.2.2.2 with ⟨p1, p2, p3, p4⟩ | ⟨p1, p, fr, p2, p3, p4, p5⟩
          · exact Or.inl ⟨p1, p2, p4, p4⟩
          · have hl : ∀ x, (mCpR (mSN (mSs M 0 0) 1 i 0) (i + 6) i).1 18 x = M.1 18 (i + 6) → (∀ s, s < 3 → sK (mSN (mSs M 0 0) 1 i 0) (mCpR (mSN (mSs M 0 0) 1 i 0) (i + 6) i) (3 * (i + 6) + s) (3 * x + s)) → LTv (mCpR (mSN (mSs M 0 0) 1 i 0) (i + 6) i) i x fr := fun x e18 hk => by
              intro k1 k2
              rw [(hrr 15 (by omega) (by omega)).1, h1417 15 (by omega) (by omega)] at k1
              rw [e18] at k2
              rw [(hrr 16 (by omega) (by omega)).1, h1417 16 (by omega) (by omega), ((sK.r1 (k := i) (w := 0)).trans (hk _ p3.1.1)).1 6 (by omega) (by omega)]
              exact p5 k1 k2
            refine Or.inr ⟨p1, p, fr, p2, p3.mono (S := S) kp.refl (fun b s hb hs => ?_), hl i (hrr 18 (by omega) (by omega)).1 (fun s hs => (hcp s hs).1), hl (i + 6) (hrr 18 (by omega) (by omega)).2 (fun s hs => (hcp s hs).2)⟩
            rw [(h8 (oBs b s) (by unfold oBs oBr; omega)).1]
            exact ⟨Nat.le_refl _, fun _ _ => rfl⟩
        · rw [r1i, cSN_at, if_pos ⟨rfl, rfl⟩]
        · rw [(h8 _ (nBs s hs)).1]; exact ⟨Nat.le_refl _, fun _ _ => rfl⟩
        · rw [(hrr 14 (by omega) (by omega)).1, h1417 14 (by omega) (by omega)]
        · rw [(hrr 15 (by omega) (by omega)).1, h1417 15 (by omega) (by omega)]
        · rw [(hrr 16 (by omega) (by omega)).1, h1417 16 (by omega) (by omega)]
        · rw [hv]
          refine ⟨?_, key i (hrr 18 (by omega) (by omega)).1 (fun s hs => (hcp s hs).1), key (i + 6) (hrr 18 (by omega) (by omega)).2 (fun s hs => (hcp s hs).2)⟩
          unfold IN0 at *
          rw [hro 29 i (by omega), hro 30 i (by omega), hro 31 i (by omega), hro 32 i (by omega), (hrr 14 (by omega) (by omega)).1, (hrr 15 (by omega) (by omega)).1, (hrr 16 (by omega) (by omega)).1, h1417 14 (by omega) (by omega), h1417 15 (by omega) (by omega), h1417 16 (by omega) (by omega), hro 22 _ (by omega)]
          exact i0
end CALL10
