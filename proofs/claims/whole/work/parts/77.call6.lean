section CALL6
variable {g : zG} {e S F n am A B T i s q b x : Nat} {C C' : cS} {M M' : mS} {ρ ρ' : zS} {f f' : Nat → Nat → Nat}
theorem RR.h16 (h : RR e S F n C M ρ f T) (hb : b < n) : 1 ≤ M.1 14 b → M.1 16 b < 3 := (h.2.2.2.1 b hb).s16
theorem RR.inn (h : RR e S F n C M ρ f T) (hb : b < n) : IN0 M b T ∧ INv M b (vw M b) T ∧ INv M b (b + 6) T := h.2.2.2.2.2.2.2.1 b hb
theorem RR.ANN (h : RR e S F n C M ρ f T) (hb : b < n) : AN F ρ C M n b := (h.2.2.2.2.2.1 b hb).2.2
theorem RR.St (h : RR e S F n C M ρ f T) (hv : vO M n = 0) (hb : b < n) : C.1 (oSt n 0) b = M.1 28 b := by
  have := (h.2.2.2.2.2.1 b hb).1.1
  rw [hv, show 6 * 0 + b = b by omega] at this
  exact this
theorem RR.g22 (h : RR e S F n C M ρ f T) (hv : vO M n = 0) (hs : s < 3) : M.1 22 s = M.1 22 (3 + s) ∧ (M.1 20 (3 + s) = 2 ↔ M.1 20 s = 2) := by
  have := h.2.2.2.2.2.2.2.2 s hs
  rw [hv, show 3 * 0 + s = s by omega] at this
  exact this
/-- rows 29 to 32 and 22 of what the office writes down -/
theorem IN.cp {M0 : mS} (hn : b < 6) (h16 : 1 ≤ M0.1 14 b → M0.1 16 b < 3) (hrow : ∀ r, 1 ≤ r → r < 20 → M.1 r = M0.1 r) (hA : ∀ r, 29 ≤ r → r ≤ 32 → M.1 r b = M0.1 r b) (h22 : ∀ s, s < 3 → M0.1 22 (3 + s) ≤ M.1 22 s) (h0 : IN0 M0 b T) (h1 : INv M0 b (vw M0 b) T) (h2 : INv M0 b (b + 6) T) : IN0 (mCpO M 0 1) b T ∧ INv (mCpO M 0 1) b (vw M0 b) T ∧ INv (mCpO M 0 1) b (b + 6) T := by
  have := IN.up (M := M0) (M' := mCpO M 0 1) h16 (fun r hr => by rw [mCpO_row (by omega), hrow r (by omega) (by omega)]) (fun r k1 k2 => by rw [mCpO_A (by omega), if_neg (by omega), hA r k1 k2]) (fun s hs => by rw [mCpO_B (by omega), if_pos (by omega), show 3 * 0 + (3 + s - 3 * 1) = s by omega]; exact h22 s hs) h0
  exact ⟨this.1, this.2 _ h1, this.2 _ h2⟩
theorem cl_ext (h : ∀ s, s < 3 → (M'.1 20 (3 + s) = 2 ↔ M.1 20 (3 + s) = 2)) : cl M' = cl M := by
  have h0 := h 0 (by omega)
  have h1 := h 1 (by omega)
  have h2 := h 2 (by omega)
  rw [show 3 + 0 = 3 from rfl] at h0
  rw [show 3 + 1 = 4 from rfl] at h1
  rw [show 3 + 2 = 5 from rfl] at h2
  unfold cl
  simp only [h0, h1, h2]
theorem cl_cp {M0 : mS} (h : ∀ s, s < 3 → (M.1 20 s = 2 ↔ M0.1 20 (3 + s) = 2)) : cl (mCpO M 0 1) = cl M0 := by
  refine cl_ext (fun s hs => ?_)
  rw [mCpO_B (by omega), if_pos (by omega), show 3 * 0 + (3 + s - 3 * 1) = s by omega]
  exact h s hs
theorem K_flushO (h : RR e S F n C M ρ f T) (hr : RO ρ M T A B) (hT : T < 512) (hu : C.1 (oOf n) 6 = 1) : CO0 e S F n am A B M ρ T (s_No_flush g S (zi n) (cW S n C ρ)) (s_Mo_flush g am (zi n)) := by
  have hn := h.n6
  rcases h.uO with ⟨u1, u2, u3⟩ | ⟨u1, u2, u3⟩
  · have hh := h.T1.th (x := 0)
    have h1 := Y_flushO (g := g) h.F1 hn u1 h.ansRR.1 (fun k hk => ((h.2.2.2.2.2.1 k hk).st2 h.2.1.1).1)
    refine ⟨_, _, mCpO (mSs M 0 0) 0 1, ρ, f, h1, fun τ => M_flushO h.m6 h.2.1.2.2.symm (by rw [← h.2.1.2.2]; exact u2) h.2.1.1, dY.refl, hh.saveO (C := C) (M := mSs M 0 0) hh.1 hh.2.1.1 rfl rfl kp.refl (fun _ _ _ => rfl) rfl rfl rfl (fun _ _ => sBc.refl) rfl rfl u3 (fun s hs => hh.o0 u3 hs) (fun b hb => hh.St u3 hb) (fun b hb => hh.ANN hb) lK.refl (fun s hs => Nat.le_of_eq (hh.g22 u3 hs).1.symm) (fun b hb => IN.cp (by omega) (hh.h16 hb) (fun _ _ _ => rfl) (fun _ _ _ => rfl) (fun s hs => Nat.le_of_eq (hh.g22 u3 hs).1.symm) (hh.inn hb).1 (hh.inn hb).2.1 (hh.inn hb).2.2), hr.cl hT ?_ (by omega) (by omega)⟩
    exact cl_cp (fun s hs => (h.g22 u3 hs).2.symm)
  · omega
theorem vO_set {v : Nat} : vO (mSN (mSs M 0 0) 1 n v) n = if v = 0 then 0 else 1 := by
  unfold vO
  show (if (if 1 = 1 ∧ n = n then v else M.1 1 n) = 0 then 0 else 1) = _
  rw [if_pos (⟨rfl, rfl⟩ : 1 = 1 ∧ n = n)]
theorem row_set {v r : Nat} (h : ¬ r = 1) : (mSN (mSs M 0 0) 1 n v).1 r = M.1 r := by
  funext b
  show (if r = 1 ∧ b = n then v else M.1 r b) = _
  rw [if_neg (fun h2 => h h2.1)]
theorem row1_set {v : Nat} (hi : i < n) : (mSN (mSs M 0 0) 1 n v).1 1 i = M.1 1 i := by
  show (if 1 = 1 ∧ i = n then v else M.1 1 i) = _
  rw [if_neg (by omega)]
theorem K_crashO (h : RR e S F n C M ρ f T) (hr : RO ρ M T A B) (hT : T < 512) (hu : C.1 (oOf n) 6 = 1) : CO0 e S F n am A B M ρ T (s_No_crash g S (zi n) (cW S n C ρ)) (s_Mo_crash g am (zi n)) := by
  have hn := h.n6
  rcases h.uO with ⟨u1, u2, u3⟩ | ⟨u1, u2, u3⟩
  · have hsame : ∀ x, ¬ x = oOf n → same4 C (cSN C (oOf n) 6 0) x := fun x hx => ⟨by funext k; rw [cSN_at, if_neg (fun h => hx h.1)], rfl, rfl, rfl⟩
    have hA1 : ansR F n (cSN C (oOf n) 6 0) ρ 1 := fun k hk p hp => h.ansRR.2 k hk p hp
    have e1 : (cSN C (oOf n) 6 0).1 (oSt n 1) = C.1 (oSt n 1) := (hsame _ (by unfold oSt oOf; omega)).1
    have h1 := Y_crashO (g := g) (S := S) (ρ := ρ) hn u1 (Y_forgetO h.F1 hn hA1 (fun k hk => by rw [e1]; exact ((h.2.2.2.2.2.1 k hk).st2 h.2.1.1).2))
    have hok : mOK (mSN (mSs M 0 0) 1 n 1) := mOK.set (mOK.set2 h.2.1.1 rfl) (by decide)
    have hv : vO (mSN (mSs M 0 0) 1 n 1) n = 1 := by rw [vO_set]; rfl
    have hall : ∀ x, x < 2 + 11 * n ∨ x = oPo n → same4 C (cCpO (cSN C (oOf n) 6 0) n 1 0) x := fun x hx => by
      refine (hsame x (by unfold oPo at hx; unfold oOf; omega)).trans (cCpO_fr (fun s' hs' => ?_) ?_ ?_)
      · unfold oPo at hx; unfold oSb oHo oFa oCe oDe; omega
      · unfold oPo at hx; unfold oSt; omega
      · unfold oPo at hx; unfold oAn; omega
    refine ⟨_, _, mSN (mSs M 0 0) 1 n 1, ρ, f, h1, fun τ => M_crash h.m6 (by rw [h.2.1.2.2]; omega) (by rw [← h.2.1.2.2]; exact u2), dY.refl, h.T1.off (h.1.ofx hall) hok rfl rfl kp.refl (fun r k1 k2 => row_set (by omega)) (row_set (by omega)) (fun i hi => row1_set hi) rfl rfl (fun i hi => sBc.sb (fun x hx => hall x (Or.inl hx)) hi) (by rw [(hall _ (Or.inr rfl)).1]) ?_ (fun s hs => ?_) (fun b hb => ?_) (fun b hb => ?_) (fun b hb => ?_) (fun s hs => ?_), hr.cl hT (cl_row (row_set (by omega))) (by omega) (by omega)⟩
    · rw [(cCpO_P (c := 1) (d := 0) (by omega)).2.1, cSN_at, if_pos ⟨rfl, rfl⟩]
      show 0 = 1 - (if 1 = 1 ∧ n = n then 1 else M.1 1 n)
      rw [if_pos (⟨rfl, rfl⟩ : 1 = 1 ∧ n = n)]
    · rw [hv]
      have hold := (h.2.2.2.2.1 s hs).2
      have m0 : sO M (mSN (mSs M 0 0) 1 n 1) (3 + s) (3 + s) := sO.eqr (fun r k1 k2 => row_set (by omega)) rfl rfl
      have c1 : sOc C (cSN C (oOf n) 6 0) n 1 1 s := sOc.of (fun x hx => hsame x (by unfold oSb oHo oFa oCe oDe at hx; unfold oOf; omega))
      have o1 := hold.fx kp.refl c1 m0
      refine ⟨o1.fx kp.refl (cCpO_bk (by omega) (by omega) (by omega) hs) sO.refl, o1.fx kp.refl (sOc.of (fun x hx => ?_)) sO.refl⟩
      have := ofc_ne (c := 1) (d := 0) (by omega) (by omega) (by omega) hs hx
      exact cCpO_fr this.1 this.2.1 this.2.2
    · obtain ⟨⟨a1, a2⟩, ⟨a3, a4⟩, a5⟩ := h.2.2.2.2.2.1 b hb
      obtain ⟨t1, t2⟩ := cCpO_st (C := cSN C (oOf n) 6 0) (n := n) (c := 1) (d := 0) (by omega) (by omega) (by omega) hb
      have t0 : same4 (cSN C (oOf n) 6 0) (cCpO (cSN C (oOf n) 6 0) n 1 0) (oSt n 1) := cCpO_fr (st_ne (by omega) (by omega)) (by unfold oSt; omega) (by unfold oSt oAn; omega)
      have t3 : same4 (cSN C (oOf n) 6 0) (cCpO (cSN C (oOf n) 6 0) n 1 0) (oAn n 1) := cCpO_fr (an_ne (by omega) (by omega)) (by unfold oSt oAn; omega) (by unfold oAn; omega)
      have hr : ∀ r, 28 ≤ r → r ≤ 32 → (mSN (mSs M 0 0) 1 n 1).1 r = M.1 r := fun r k1 k2 => row_set (by omega)
      refine ⟨⟨?_, ?_⟩, ⟨?_, fun r k1 k2 => ?_⟩, ?_⟩
      · rw [t1, e1, hv, hr 28 (by omega) (by omega), show 6 * 1 + b = 6 + b by omega]; exact a2
      · rw [t0.1, e1, hr 28 (by omega) (by omega)]; exact a2
      · rw [t2, t3.2.2.2]
      · rw [hr r (by omega) (by omega)]; exact a4 r k1 k2
      · rw [t2, hr 29 (by omega) (by omega), hr 30 (by omega) (by omega), hr 31 (by omega) (by omega), hr 32 (by omega) (by omega)]
        have e2 : (cSN C (oOf n) 6 0).2.2.2 (oAn n 1) b = C.2.2.2 (oAn n 0) b := a3
        rw [e2]; exact a5
    · rw [row_set (by omega), row_set (by omega), row_set (by omega), row_set (by omega), row_set (by omega), row_set (by omega), row_set (by omega)]
      exact lK.refl b hb
    · obtain ⟨i0, i1, i2⟩ := h.T1.inn hb
      have := IN.up (M' := mSN (mSs M 0 0) 1 n 1) (h.h16 hb) (fun r hr => row_set (by omega)) (fun r k1 k2 => by rw [row_set (by omega)]) (fun s hs => by rw [row_set (by omega)]; exact Nat.le_refl _) i0
      exact ⟨this.1, this.2 _ i1, this.2 _ i2⟩
    · rw [hv, row_set (by omega), row_set (by omega)]
      exact ⟨rfl, Iff.rfl⟩
  · omega
theorem K_mountO (h : RR e S F n C M ρ f T) (hr : RO ρ M T A B) (hT : T < 512) (hu : C.1 (oOf n) 6 = 0) : CO0 e S F n am A B M ρ T (s_No_mount g S (zi n) (cW S n C ρ)) (s_Mo_mount g am (zi n)) := by
  have hn := h.n6
  rcases h.uO with ⟨u1, u2, u3⟩ | ⟨u1, u2, u3⟩
  · omega
  · have hsame : ∀ x, ¬ x = oOf n → same4 C (cSN C (oOf n) 6 1) x := fun x hx => ⟨by funext k; rw [cSN_at, if_neg (fun h => hx h.1)], rfl, rfl, rfl⟩
    have h1 := Y_mountO (g := g) (S := S) (ρ := ρ) hn u1
    have hok : mOK (mSN (mSs M 0 0) 1 n 0) := mOK.set (mOK.set2 h.2.1.1 rfl) (by decide)
    have hall : ∀ x, x < 2 + 11 * n ∨ x = oPo n → same4 C (cSN C (oOf n) 6 1) x := fun x hx => hsame x (by unfold oPo at hx; unfold oOf; omega)
    have hrr : ∀ r, ¬ r = 1 → (r < 20 ∨ 32 < r) → (mCpO (mSN (mSs M 0 0) 1 n 0) 1 0).1 r = M.1 r := fun r k1 k2 => by rw [mCpO_row k2, row_set k1]
    have hv : vO (mCpO (mSN (mSs M 0 0) 1 n 0) 1 0) n = 0 := by
      have : vO (mSN (mSs M 0 0) 1 n 0) n = 0 := by rw [vO_set]; rfl
      unfold vO at this ⊢
      rw [mCpO_row (Or.inl (by omega))]; exact this
    have rA : ∀ r b, 28 ≤ r → r ≤ 32 → b < n → (mCpO (mSN (mSs M 0 0) 1 n 0) 1 0).1 r b = M.1 r (6 + b) ∧ (mCpO (mSN (mSs M 0 0) 1 n 0) 1 0).1 r (6 + b) = M.1 r (6 + b) := fun r b k1 k2 hb => by
      rw [mCpO_A ⟨k1, k2⟩, mCpO_A ⟨k1, k2⟩, if_pos (by omega), if_neg (by omega), row_set (by omega), show 6 * 1 + (b - 6 * 0) = 6 + b by omega]
      exact ⟨rfl, rfl⟩
    have rB : ∀ r s, 20 ≤ r → r ≤ 22 → s < 3 → (mCpO (mSN (mSs M 0 0) 1 n 0) 1 0).1 r s = M.1 r (3 + s) ∧ (mCpO (mSN (mSs M 0 0) 1 n 0) 1 0).1 r (3 + s) = M.1 r (3 + s) := fun r s k1 k2 hs => by
      rw [mCpO_B ⟨k1, k2⟩, mCpO_B ⟨k1, k2⟩, if_pos (by omega), if_neg (by omega), row_set (by omega), show 3 * 1 + (s - 3 * 0) = 3 + s by omega]
      exact ⟨rfl, rfl⟩
    have rR : ∀ r b, 29 ≤ r → r ≤ 32 → b < n → (mCpO (mSN (mSs M 0 0) 1 n 0) 1 0).1 r b = M.1 r b := fun r b k1 k2 hb => by
      rw [(rA r b (by omega) k2 hb).1]; exact (h.2.2.2.2.2.1 b hb).2.1.2 r k1 k2
    refine ⟨_, _, mCpO (mSN (mSs M 0 0) 1 n 0) 1 0, ρ, f, h1, fun τ => M_mountO h.m6 h.2.1.2.2.symm (by rw [← h.2.1.2.2]; exact u2) h.2.1.1, dY.refl, h.T1.off (h.1.ofx hall) (mCpO_ok hok) rfl rfl kp.refl (fun r k1 k2 => hrr r (by omega) (Or.inl k2)) (hrr 33 (by omega) (by omega)) (fun i hi => by rw [mCpO_row (Or.inl (by omega)), row1_set hi]) mCpO_IL.1 mCpO_IL.2 (fun i hi => sBc.sb (fun x hx => hall x (Or.inl hx)) hi) (by rw [(hall _ (Or.inr rfl)).1]) ?_ (fun s hs => ?_) (fun b hb => ?_) (fun b hb => ?_) (fun b hb => ?_) (fun s hs => ?_), hr.cl hT ?_ (by omega) (by omega)⟩
    · rw [cSN_at, if_pos ⟨rfl, rfl⟩, mCpO_row (Or.inl (by omega))]
      show 1 = 1 - (if 1 = 1 ∧ n = n then 0 else M.1 1 n)
      rw [if_pos (⟨rfl, rfl⟩ : 1 = 1 ∧ n = n)]
    · rw [hv, show 3 * 0 + s = s by omega]
      obtain ⟨o0, o1⟩ := h.2.2.2.2.1 s hs
      rw [u3, show 3 * 1 + s = 3 + s by omega] at o0
      have m0 : sO M (mSN (mSs M 0 0) 1 n 0) (3 + s) (3 + s) := sO.eqr (fun r k1 k2 => row_set (by omega)) rfl rfl
      have m1 := mCpO_to (M := mSN (mSs M 0 0) 1 n 0) (u := 1) (v := 0) (by omega) (by omega) hs
      have m2 := mCpO_st (M := mSN (mSs M 0 0) 1 n 0) (u := 1) (v := 0) (by omega) (by omega) (by omega) hs
      rw [show 3 * 1 + s = 3 + s by omega] at m1 m2
      rw [show 3 * 0 + s = s by omega] at m1
      refine ⟨(o0.fx kp.refl (sOc.of (fun x hx => hsame x ?_)) m0).fx kp.refl sOc.refl m1, (o1.fx kp.refl (sOc.of (fun x hx => hsame x ?_)) m0).fx kp.refl sOc.refl m2⟩
      · unfold oSb oHo oFa oCe oDe at hx; unfold oOf; omega
      · unfold oSb oHo oFa oCe oDe at hx; unfold oOf; omega
    · obtain ⟨⟨a1, a2⟩, ⟨a3, a4⟩, a5⟩ := h.2.2.2.2.2.1 b hb
      rw [u3, show 6 * 1 + b = 6 + b by omega] at a1
      have e0 : (cSN C (oOf n) 6 1).1 (oSt n 0) = C.1 (oSt n 0) := (hsame _ (by unfold oSt oOf; omega)).1
      have e1 : (cSN C (oOf n) 6 1).1 (oSt n 1) = C.1 (oSt n 1) := (hsame _ (by unfold oSt oOf; omega)).1
      refine ⟨⟨?_, ?_⟩, ⟨a3, fun r k1 k2 => ?_⟩, ?_⟩
      · rw [hv, e0, show 6 * 0 + b = b by omega, (rA 28 b (by omega) (by omega) hb).1]; exact a1
      · rw [e1, (rA 28 b (by omega) (by omega) hb).2]; exact a2
      · rw [(rA r b (by omega) (by omega) hb).1, (rA r b (by omega) (by omega) hb).2]
      · rw [rR 29 b (by omega) (by omega) hb, rR 30 b (by omega) (by omega) hb, rR 31 b (by omega) (by omega) hb, rR 32 b (by omega) (by omega) hb]
        exact a5
    · rw [hrr 14 (by omega) (by omega), hrr 15 (by omega) (by omega), hrr 16 (by omega) (by omega), rR 29 b (by omega) (by omega) hb, rR 30 b (by omega) (by omega) hb, rR 31 b (by omega) (by omega) hb, rR 32 b (by omega) (by omega) hb]
      exact lK.refl b hb
    · obtain ⟨i0, i1, i2⟩ := h.T1.inn hb
      have := IN.up (M' := mCpO (mSN (mSs M 0 0) 1 n 0) 1 0) (h.h16 hb) (fun r hr => hrr r (by omega) (by omega)) (fun r k1 k2 => rR r b k1 k2 hb) (fun s hs => by rw [(rB 22 s (by omega) (by omega) hs).2]; exact Nat.le_refl _) i0
      exact ⟨this.1, this.2 _ i1, this.2 _ i2⟩
    · rw [hv, show 3 * 0 + s = s by omega, (rB 22 s (by omega) (by omega) hs).1, (rB 22 s (by omega) (by omega) hs).2, (rB 20 s (by omega) (by omega) hs).1, (rB 20 s (by omega) (by omega) hs).2]
      exact ⟨rfl, Iff.rfl⟩
    · unfold cl
      have q0 := (rB 20 0 (by omega) (by omega) (by omega)).2
      have q1 := (rB 20 1 (by omega) (by omega) (by omega)).2
      have q2 := (rB 20 2 (by omega) (by omega) (by omega)).2
      rw [show 3 + 0 = 3 from rfl] at q0
      rw [show 3 + 1 = 4 from rfl] at q1
      rw [show 3 + 2 = 5 from rfl] at q2
      rw [q0, q1, q2]
end CALL6
