section CALL11
variable {g : zG} {e S F n am A B T i s q b x y u v j : Nat} {C C' : cS} {M M' : mS} {ρ ρ' : zS} {f f' : Nat → Nat → Nat}
theorem BKb.us {o0 nb bu uu : Nat} {bf bc : Nat → Nat} (h : BKb F ρ M f o0 nb bu uu j bf bc) : ((bu < nb ∧ uu < bc bu) ∧ M.1 3 j < M.1 2 j ∧ M.1 8 (300 * j + M.1 3 j) = bu ∧ M.1 7 (300 * j + M.1 3 j) = bf bu + uu) ∨ (bu = nb ∧ uu = 0 ∧ M.1 3 j = M.1 2 j) := by
  obtain ⟨h1, h2, ⟨e4, e2, e3, hu⟩, h7⟩ := h
  rcases hu with ⟨u1, u2⟩ | ⟨u1, u2⟩
  · have := pS_mono (bc := bc) (show bu + 1 ≤ nb by omega)
    have e : pS bc (bu + 1) = pS bc bu + bc bu := rfl
    have := h7 bu u1 uu u2
    rw [← e3] at this
    exact Or.inl ⟨⟨u1, u2⟩, by omega, this.2, this.1⟩
  · refine Or.inr ⟨u1, u2, ?_⟩
    rw [e2, e3, u1, u2]; rfl
theorem RR.opn (h : RR e S F n C M ρ f T) (hv : vw M i = i) (hi : i < n) (hs : s < 3) : C.1 (oBs i s) 2 ≤ C.1 (oLs i s 0) 1 ∧ (¬ M.1 3 (3 * i + s) = M.1 2 (3 * i + s) → M.1 8 (300 * (3 * i + s) + M.1 3 (3 * i + s)) ≤ M.1 4 (3 * i + s)) ∧ (if M.1 3 (3 * i + s) = M.1 2 (3 * i + s) then 0 else M.1 4 (3 * i + s) - M.1 8 (300 * (3 * i + s) + M.1 3 (3 * i + s))) = C.1 (oLs i s 0) 1 - C.1 (oBs i s) 2 := by
  obtain ⟨⟨bf, bc, hb⟩, he⟩ := h.nb hi hv hs
  have e4 := hb.2.2.1.1
  rcases hb.us with ⟨⟨u1, u2⟩, u3, u4, u5⟩ | ⟨u1, u2, u3⟩
  · rw [if_neg (by omega)]; omega
  · rw [if_pos u3]; omega
def mQ (M : mS) (b s z kd : Nat) : mS := mSN (mSN (mSN (mSN (mSN (mSs M 0 0) 14 b (M.1 14 b + 1)) 15 b kd) 16 b s) 17 b z) 18 b 1
theorem mQ_at {z kd r k : Nat} : (mQ M b s z kd).1 r k = if r = 18 ∧ k = b then 1 else if r = 17 ∧ k = b then z else if r = 16 ∧ k = b then s else if r = 15 ∧ k = b then kd else if r = 14 ∧ k = b then M.1 14 b + 1 else M.1 r k := rfl
theorem mQ_o {z kd r k : Nat} (h : r < 14 ∨ 18 < r ∨ ¬ k = b) : (mQ M b s z kd).1 r k = M.1 r k := by
  rw [mQ_at, if_neg (by omega), if_neg (by omega), if_neg (by omega), if_neg (by omega), if_neg (by omega)]
theorem mQ_v {z kd : Nat} : (mQ M b s z kd).1 14 b = M.1 14 b + 1 ∧ (mQ M b s z kd).1 15 b = kd ∧ (mQ M b s z kd).1 16 b = s ∧ (mQ M b s z kd).1 17 b = z ∧ (mQ M b s z kd).1 18 b = 1 := by
  refine ⟨?_, ?_, ?_, ?_, ?_⟩
  · rw [mQ_at, if_neg (by omega), if_neg (by omega), if_neg (by omega), if_neg (by omega), if_pos ⟨rfl, rfl⟩]
  · rw [mQ_at, if_neg (by omega), if_neg (by omega), if_neg (by omega), if_pos ⟨rfl, rfl⟩]
  · rw [mQ_at, if_neg (by omega), if_neg (by omega), if_pos ⟨rfl, rfl⟩]
  · rw [mQ_at, if_neg (by omega), if_pos ⟨rfl, rfl⟩]
  · rw [mQ_at, if_pos ⟨rfl, rfl⟩]
theorem mQ_ok {z kd : Nat} (h : mOK M) (h1 : M.1 14 b + 1 < 2147483648 ∧ kd < 2147483648 ∧ s < 2147483648 ∧ z < 2147483648) : mOK (mQ M b s z kd) := by
  unfold mQ
  refine mOK.set (mOK.set (mOK.set (mOK.set (mOK.set (mOK.set2 h rfl) ?_) ?_) ?_) ?_) (by decide)
  · rw [show mbd 14 = 2147483648 by decide]; omega
  · rw [show mbd 15 = 2147483648 by decide]; omega
  · rw [show mbd 16 = 2147483648 by decide]; omega
  · rw [show mbd 17 = 2147483648 by decide]; omega
theorem mQ_k {z kd : Nat} : sK M (mQ M b s z kd) j j := ⟨fun r h1 h2 => mQ_o (by omega), fun _ _ => ⟨⟨mQ_o (by omega), mQ_o (by omega), mQ_o (by omega), mQ_o (by omega)⟩, rfl, rfl⟩, fun _ _ => mQ_o (by omega)⟩
theorem oB.mq {z kd : Nat} : oB b M (mQ M b s z kd) := by
  unfold mQ
  exact (((((oB.th (Or.inl rfl)).trans (oB.N (by omega))).trans (oB.N (by omega))).trans (oB.N (by omega))).trans (oB.N (by omega))).trans (oB.N (by omega))
/-- a branch writes a letter, writes everything down and sends it -/
theorem RR.write {ρf : zS} {z kd : Nat} (h : RR e S F n C M ρ f T) (hT : T < 512) (hi : i < n) (hu : C.1 (oBr i) 8 = 1) (h1 : M.1 1 i = 0) (hv : vw M i = i) (hw : M.1 18 i = 0) (hs : s < 3) (hz : z < 2147483648) (hkd : kd = 1 ∨ kd = 2) (hx : dX ρ ρf) (hLf : LLs e S F n C ρf f) (hlet : LET F ρf f (cWr C i ρ.1) n ρ.1 kd i (M.1 14 i + 1) s z (M.1 6 (3 * i + s))) (hsn : snt e S F n ρ.1 (cWr C i ρ.1) ρf f C' ρ' f') : RR e S F n C' (mSLt (mQ M i s z kd) i) ρ' f' (T + 1) := by
  have hn := h.n6
  have hlT := (h.inn hi).1.1
  obtain ⟨v14, v15, v16, v17, v18⟩ := mQ_v (M := M) (b := i) (s := s) (z := z) (kd := kd)
  have c1o : ∀ x, ¬ x = oBr i → same4 C (cSN (cSP C (oBr i) 2 (some ρ.1)) (oBr i) 3 1) x := fun x hx => ⟨by funext k; rw [cSN_at, if_neg (fun h => hx h.1)]; rfl, rfl, rfl, by funext k; show (cSP C (oBr i) 2 (some ρ.1)).2.2.2 x k = _; rw [cSP_at, if_neg (fun h => hx h.1)]⟩
  have c13 : (cSN (cSP C (oBr i) 2 (some ρ.1)) (oBr i) 3 1).1 (oBr i) 3 = 1 := by rw [cSN_at, if_pos ⟨rfl, rfl⟩]
  have c1k : ∀ k, ¬ k = 3 → (cSN (cSP C (oBr i) 2 (some ρ.1)) (oBr i) 3 1).1 (oBr i) k = C.1 (oBr i) k := fun k hk => by rw [cSN_at, if_neg (fun h => hk h.2)]; rfl
  have c1p : (cSN (cSP C (oBr i) 2 (some ρ.1)) (oBr i) 3 1).2.2.2 (oBr i) 2 = some ρ.1 := by show (cSP C (oBr i) 2 (some ρ.1)).2.2.2 (oBr i) 2 = _; rw [cSP_at, if_pos ⟨rfl, rfl⟩]
  have nBs : ∀ s, s < 3 → ¬ oBs i s = oBr i := fun s hs => by unfold oBs oBr; omega
  have nLs : ∀ s k, s < 3 → k < 2 → ¬ oLs i s k = oBr i := fun s k hs hk => by unfold oLs oBr; omega
  have hnow := h.now hv hi
  have hinv := h.T1.inow hv hi
  have h29 := hinv.1 hw
  have hdef : cWr C i ρ.1 = cSv (cSN (cSP C (oBr i) 2 (some ρ.1)) (oBr i) 3 1) i := rfl
  rw [hdef] at hlet hsn
  have hb31 := mOK.b31 h.2.1.1
  have hok : mOK (mQ M i s z kd) := mQ_ok h.2.1.1 (by omega)
  have hR := h.T1.saveB (C := cSN (cSP C (oBr i) 2 (some ρ.1)) (oBr i) 3 1) (M := mQ M i s z kd) (ρ' := ρf) (f := f) (by omega) hi (hLf.br hi c1o) hok (kp.dx hx) oB.mq (fun x hx2 => c1o x (by unfold oBr; omega)) (fun _ _ => rfl) (by rw [mQ_o (by omega)]; exact h1) (by rw [c1k 8 (by omega)]; exact hu)
    (by
      refine ⟨⟨?_, ?_⟩, fun s' hs' => ?_⟩
      · rw [c13, v18]
      · rw [c1k 4 (by omega), mQ_o (by omega)]; exact hnow.1.2
      · rw [(c1o _ (nBs s' hs')).1, (c1o _ (nLs s' 0 hs' (by omega))).1, (c1o _ (nLs s' 1 hs' (by omega))).1]
        exact ((hnow.2 s' hs').k mQ_k).kp (kp.dx (S := S) hx))
    (fun s' hs' => by rw [(c1o _ (nLs s' 1 hs' (by omega))).1]; exact h.ev0 hi s' hs')
    (by
      refine Or.inr ⟨by omega, ρ.1, M.1 6 (3 * i + s), c1p, ?_, ?_⟩
      · rw [v14, v15, v16, v17]; exact hlet
      · intro k1 k2
        rw [v16, mQ_o (by omega)])
    (Or.inr (by omega))
    (by
      unfold IN0
      rw [v14, mQ_o (r := 29) (by omega)]
      exact ⟨by omega, fun k1 k2 => absurd k2 (by omega)⟩)
    (by
      unfold INv at hinv ⊢
      rw [v14, v18, mQ_o (r := 29) (by omega)]
      refine ⟨fun k => absurd k (by omega), fun s' hs' => ?_, fun k0 k1 => absurd k1 (by omega)⟩
      rw [mQ_o (r := 5) (by omega), mQ_o (r := 2) (by omega), mQ_o (r := 22) (by omega)]
      refine ⟨(hinv.2.1 s' hs').1, fun k hk => ?_⟩
      rw [mQ_o (r := 7) (by omega)]
      exact (hinv.2.1 s' hs').2 k hk)
  have r14 : ∀ r, 14 ≤ r → r ≤ 18 → (mCpR (mQ M i s z kd) i (i + 6)).1 r i = (mQ M i s z kd).1 r i := fun r k1 k2 => by rw [cpR_r (by omega), if_neg (by omega)]
  have hPE : PE F ρf (cSv (cSN (cSP C (oBr i) 2 (some ρ.1)) (oBr i) 3 1) i) (mCpR (mQ M i s z kd) i (i + 6)) f n ρ.1 kd i (M.1 14 i + 1) s z (M.1 6 (3 * i + s)) := by
    refine ⟨hi, by omega, Or.inr ⟨hkd, hlet, ?_, fun _ => ?_⟩⟩
    · rw [r14 14 (by omega) (by omega), v14]; exact Nat.le_refl _
    · rw [r14 15 (by omega) (by omega), r14 16 (by omega) (by omega), v15, v16]; exact ⟨rfl, rfl⟩
  have hfin := hR.send hsn ⟨by omega, by omega, by omega, by omega, hz, hb31 _ _⟩ hPE
  unfold mSLt
  rw [v15, v14, v16, v17, mQ_o (r := 6) (by omega)]
  exact hfin
theorem mSendQ_cl {a c d e2 f2 : Nat} : cl (mSendQ M a b c d e2 f2) = cl M := cl_row mSendQ_20
theorem LET.kd1 {p b num ser much fr fr' : Nat} (h : LET F ρ f C n p 1 b num ser much fr) : LET F ρ f C n p 1 b num ser much fr' := by
  obtain ⟨h1, w, ev, h2, h3 | ⟨h3, -⟩⟩ := h
  · exact ⟨h1, w, ev, h2, Or.inl h3⟩
  · exact absurd h3 (by omega)
theorem K_again {x : Int32} (h : RR e S F n C M ρ f T) (hr : RO ρ M T A B) (hT : T < 512) (hg0 : g 0 = some e) (hg2 : ∃ mi, g 10 = some mi) : CO0 e S F n am A B M ρ T (s_No_again g S x (cW S n C ρ)) (s_Mo_again g am x) := by
  have hn := h.n6
  have hb31 := mOK.b31 h.2.1.1
  rcases ix x n with hx | ⟨i, hi, rfl⟩
  · exact CO0.same h hr hT (Y_againB hn hx) (fun τ => M_again0 h.m6 (by rw [h.2.1.2.2]; exact hx))
  · have hb : i < M.2.2.2.1 1 := by rw [h.2.1.2.2]; exact hi
    rcases h.uB hi with ⟨u1, u2, u3⟩ | ⟨u1, u2, u3⟩
    · have hw := h.w2 u3 hi
      by_cases h18 : M.1 18 i = 0
      · exact CO0.same h hr hT (Y_again0 hn hi u1 (by omega)) (fun τ => M_again1 h.m6 hb h.2.1.1 (Or.inr h18))
      · have hB := h.2.2.2.1 i hi
        have h18' : M.1 18 i = 1 := by omega
        rcases hB.2.2.2.2 with ⟨p1, p2, p3, p4⟩ | ⟨p1, p, fr, p2, p3, p4, p5⟩
        · rw [u3] at p3; omega
        · rw [u3] at p4
          obtain ⟨hp1, w, ev, hp2, hp3⟩ := p3
          obtain ⟨C', ρ', f', r1, r2⟩ := Y_again (g := g) h.1 hg0 hg2 hn hi u1 (by omega) hw.2.2.2 p2 hp2 (by have := h.2.2.2.2.2.2.1.1; omega)
          have hh := (h.T1.th (x := 0)).sv (by omega) hi u1 u2 u3
          have p3 : LET F ρ f C n p (M.1 15 i) i (M.1 14 i) (M.1 16 i) (M.1 17 i) fr := ⟨hp1, w, ev, hp2, hp3⟩
          have hkd : M.1 15 i = 1 ∨ M.1 15 i = 2 := by
            rcases hp3 with ⟨k1, -⟩ | ⟨k1, -⟩
            · exact Or.inl k1
            · exact Or.inr k1
          have p3' : LET F ρ f C n p (M.1 15 i) i (M.1 14 i) (M.1 16 i) (M.1 17 i) (M.1 6 (3 * i + M.1 16 i)) := by
            rcases hkd with k1 | k1
            · rw [k1] at p3 ⊢; exact p3.kd1
            · rw [p4 k1 h18']; exact p3
          have hev : evK n C f (cSv C i) f := fun b s hb2 hs => by
            refine ⟨?_, fun _ _ => rfl⟩
            by_cases hbi : b = i
            · subst hbi; rw [(cSv_bs (C := C) (i := b) hs).2.1]; exact (hB.2.2.1 s hs).2
            · rw [(cSv_out (C := C) (i := i) (x := oBs b s) (by unfold oBs; omega)).1]; exact Nat.le_refl _
          have r14 : ∀ r, 14 ≤ r → r ≤ 18 → (mCpR (mSs M 0 0) i (i + 6)).1 r i = M.1 r i := fun r k1 k2 => by rw [cpR_r (by omega), if_neg (by omega)]; rfl
          have hPE : PE F ρ (cSv C i) (mCpR (mSs M 0 0) i (i + 6)) f n p (M.1 15 i) i (M.1 14 i) (M.1 16 i) (M.1 17 i) (M.1 6 (3 * i + M.1 16 i)) := by
            refine ⟨hi, p1, Or.inr ⟨hkd, p3'.mono (S := S) kp.refl hev, ?_, fun _ => ?_⟩⟩
            · rw [r14 14 (by omega) (by omega)]; exact Nat.le_refl _
            · rw [r14 15 (by omega) (by omega), r14 16 (by omega) (by omega)]; exact ⟨rfl, rfl⟩
          have hfin := hh.send r2 ⟨hb31 _ _, by omega, hb31 _ _, hb31 _ _, hb31 _ _, hb31 _ _⟩ hPE
          have hmo : ∀ τ, s_Mo_again g am (zi i) (mW am M τ) = some (zi 1, mW am (mSendQ (mCpR (mSs M 0 0) i (i + 6)) (M.1 15 i) i (M.1 14 i) (M.1 16 i) (M.1 17 i) (M.1 6 (3 * i + M.1 16 i))) τ) := fun τ => M_again h.m6 hb h.2.1.1 u2 h18' (fun s hs => (h.bdn (by omega) u3 hi hs).1) (fun s hs => (h.bdn (by omega) u3 hi hs).2.2) (by have := h.2.2.2.2.2.2.1.1; omega) hp1.1
          refine ⟨zi 1, C', mSendQ (mCpR (mSs M 0 0) i (i + 6)) (M.1 15 i) i (M.1 14 i) (M.1 16 i) (M.1 17 i) (M.1 6 (3 * i + M.1 16 i)), ρ', f', r1, hmo, dY.dx r2.2.1, hfin, hr.cl hT ?_ (by have := r2.2.2.1; omega) (by have := r2.2.2.2.1; omega)⟩
          have ec : cl (mCpR (mSs M 0 0) i (i + 6)) = cl (mSs M 0 0) := cl_oB (oB.bdr (h.th (x := 0)) (by omega) u3 hi)
          have ec2 : cl (mSs M 0 0) = cl M := rfl
          rw [mSendQ_cl, ec, ec2]
    · exact CO0.same h hr hT (Y_againD hn hi u1) (fun τ => M_again1 h.m6 hb h.2.1.1 (Or.inl u2))
theorem cl_slt {z kd : Nat} (h : RR e S F n C M ρ f T) (hT : T ≤ 600) (hv : vw M i = i) (hi : i < n) : cl (mSLt (mQ M i s z kd) i) = cl M := by
  unfold mSLt
  have hb : ∀ s', s' < 3 → bd (mQ M i s z kd) (3 * i + s') := fun s' hs' => by
    have := h.bdn hT hv hi hs'
    exact (show bd M (3 * i + s') from ⟨this.1, this.2.2⟩).k mQ_k
  have ec : cl (mCpR (mQ M i s z kd) i (i + 6)) = cl (mQ M i s z kd) := cl_oB (oB.r (Or.inr rfl) (by omega) hb)
  have ec2 : cl (mQ M i s z kd) = cl M := cl_oB oB.mq
  rw [mSendQ_cl, ec, ec2]
theorem K_request {x y z : Int32} (h : RR e S F n C M ρ f T) (hr : RO ρ M T A B) (hT : T < 512) (hg : g 21 = some q) (hg0 : g 0 = some e) (hg2 : ∃ mi, g 10 = some mi) : CO1 e S F n am A B M ρ T (s_No_request g S x y z (cW S n C ρ)) (s_Mo_request g am x y z) := by
  have hn := h.n6
  rcases ix x n with hx | ⟨i, hi, rfl⟩
  · exact CO1.same h hr hT (Y_requestB hn hx) (fun τ => M_requestB h.m6 (by rw [h.2.1.2.2]; exact hx))
  · have hb : i < M.2.2.2.1 1 := by rw [h.2.1.2.2]; exact hi
    rcases h.uB hi with ⟨u1, u2, u3⟩ | ⟨u1, u2, u3⟩
    · rcases ix y 3 with hy | ⟨s, hs, rfl⟩
      · exact CO1.same h hr hT (Y_requestS hn hi u1 hy) (fun τ => M_requestS h.m6 hb u2 h.2.1.1 hy)
      · have hzc : (z < 1 ∨ 100 < z) ∨ ∃ w, (1 ≤ w ∧ w ≤ 100) ∧ z = zi w := by
          rcases zi_cases z with h0 | ⟨k, hk, rfl⟩
          · exact Or.inl (Or.inl (Int32.lt_trans h0 (by decide)))
          · by_cases h1 : k < 1
            · refine Or.inl (Or.inl ?_); show zi k < zi 1; rw [zi_lt hk (by omega)]; exact h1
            · by_cases h2 : 100 < k
              · refine Or.inl (Or.inr ?_); show zi 100 < zi k; rw [zi_lt (by omega) hk]; exact h2
              · exact Or.inr ⟨k, by omega, rfl⟩
        rcases hzc with hz | ⟨w, hz, rfl⟩
        · exact CO1.same h hr hT (Y_requestN hn hi u1 hs hz) (fun τ => M_requestN h.m6 hb u2 h.2.1.1 hs hz)
        · have hw := h.w2 u3 hi
          have hop := h.opn u3 hi hs
          have hbd := fun s hs => h.bdn (s := s) (by omega) u3 hi hs
          by_cases h18 : M.1 18 i = 0 ∧ M.1 19 i = 0
          · by_cases ho : 2 ≤ C.1 (oLs i s 0) 1 - C.1 (oBs i s) 2
            · have h6 := (h.1.2.1 _ (ck_Ls hi hs (show 0 < 2 by decide)) (lt_Ls hi hs (by decide))).1
              exact CO1.same h hr hT (Y_requestO hn hi u1 hs hz (by omega) hop.1 h6 ho) (fun τ => M_requestO h.m6 hb u2 h.2.1.1 hs hz h18 (hbd s hs).2.1 (hbd s hs).1 hop.2.1 (by rw [hop.2.2]; exact ho))
            · have hlat := (h.2.2.2.1 i hi).lat
              have hP64 := h.2.2.2.2.2.2.1.1
              have hlT := (h.inn hi).1.1
              obtain ⟨C', ρ', f', ρf, r1, r2, r3, r4, r5, r6⟩ := Y_request (g := g) h.1 hg0 hg2 hn hi u1 hs hz (by omega) hop.1 (by omega) hlat (by omega)
              have hlet : LET F ρf f (cWr C i ρ.1) n ρ.1 1 i (M.1 14 i + 1) s w (M.1 6 (3 * i + s)) := ⟨⟨hs, hi⟩, w, ρ.1 + 1, r2, Or.inl ⟨rfl, rfl, hz.1, hz.2⟩⟩
              have hfin := h.write hT hi u1 u2 u3 h18.1 hs (by omega) (Or.inl rfl) r3 r5 hlet r6
              have hmo : ∀ τ, s_Mo_request g am (zi i) (zi s) (zi w) (mW am M τ) = some (zi (M.1 14 i + 1), mW am (mSLt (mQ M i s w 1) i) τ) := fun τ => M_request h.m6 hb u2 h.2.1.1 hs hz h18 (hbd s hs).2.1 (fun s hs => (hbd s hs).1) (fun s hs => (hbd s hs).2.2) hop.2.1 (by rw [hop.2.2]; omega) (by omega) (by omega)
              have hsc : (mSLt (mQ M i s w 1) i).2.2.2.1 0 = 0 := by
                unfold mSLt mSendQ
                split <;> rfl
              refine ⟨_, _, C', _, ρ', f', r1, hmo, dY.dx (r3.trans r6.2.1), hfin, hr.cl hT (cl_slt h (by omega) u3 hi) ?_ ?_, Or.inl ⟨rfl, hsc⟩⟩
              · have := r6.2.2.1; omega
              · have := r6.2.2.2.1; omega
          · have b18 := mOK.b2 h.2.1.1 (j := 18) (by omega) i
            have b19 := mOK.b2 h.2.1.1 (j := 19) (by omega) i
            exact CO1.same h hr hT (Y_requestW hn hi u1 hs hz hw.2.2.1 hw.2.2.2 (by omega)) (fun τ => M_requestW h.m6 hb u2 h.2.1.1 hs hz (by omega))
    · exact CO1.ex h hr hT (Y_requestD h.hF hn hi u1 hg) (fun τ => M_requestD h.m6 hb u2 h.2.1.1)
theorem K_report {x y : Int32} (h : RR e S F n C M ρ f T) (hr : RO ρ M T A B) (hT : T < 512) (hg : g 21 = some q) (hg0 : g 0 = some e) (hg2 : ∃ mi, g 10 = some mi) : CO1 e S F n am A B M ρ T (s_No_report g S x y (cW S n C ρ)) (s_Mo_report g am x y) := by
  have hn := h.n6
  rcases ix x n with hx | ⟨i, hi, rfl⟩
  · exact CO1.same h hr hT (Y_reportB hn hx) (fun τ => M_reportB h.m6 (by rw [h.2.1.2.2]; exact hx))
  · have hb : i < M.2.2.2.1 1 := by rw [h.2.1.2.2]; exact hi
    rcases h.uB hi with ⟨u1, u2, u3⟩ | ⟨u1, u2, u3⟩
    · rcases ix y 3 with hy | ⟨s, hs, rfl⟩
      · exact CO1.same h hr hT (Y_reportS hn hi u1 hy) (fun τ => M_reportS h.m6 hb u2 h.2.1.1 hy)
      · have hw := h.w2 u3 hi
        have hbd := fun s hs => h.bdn (s := s) (by omega) u3 hi hs
        obtain ⟨⟨bf, bc, hbk⟩, he⟩ := h.nb hi u3 hs
        obtain ⟨e5, e6, e7⟩ := he.1
        by_cases h18 : M.1 18 i = 0 ∧ M.1 19 i = 0
        · by_cases ho : C.1 (oBs i s) 4 = C.1 (oLs i s 1) 1
          · exact CO1.same h hr hT (Y_reportE hn hi u1 hs (by omega) ho) (fun τ => M_reportE h.m6 hb u2 h.2.1.1 hs h18 (by omega))
          · have hlat := (h.2.2.2.1 i hi).lat
            have hP64 := h.2.2.2.2.2.2.1.1
            have hlT := (h.inn hi).1.1
            generalize hc : min 30 (M.1 5 (3 * i + s) - M.1 6 (3 * i + s)) = c
            obtain ⟨C', ρ', f', ρf, r1, r2, r2b, r3, r4, r5, r6⟩ := Y_report (g := g) (c := c) h.1 hg0 hg2 hn hi u1 hs (by omega) (by omega) (fun t ht => (he.hE hbk t ht).1) (by omega) hlat (by omega)
            have hB := h.2.2.2.1 i hi
            have c6 : (cWr C i ρ.1).1 (oBs i s) 6 = C.1 (oLs i s 1) 1 := by
              unfold cWr
              rw [(cSv_bs hs).2.1, cSN_at, if_neg (by unfold oLs oBr; omega)]
              rfl
            have hlet : LET F ρf f (cWr C i ρ.1) n ρ.1 2 i (M.1 14 i + 1) s c (M.1 6 (3 * i + s)) := ⟨⟨hs, hi⟩, 0, ρ.1 + 1, r2, Or.inr ⟨rfl, by rw [e6]; exact r2b, by omega, by rw [c6]; omega⟩⟩
            have hfin := h.write hT hi u1 u2 u3 h18.1 hs (by omega) (Or.inr rfl) r3 r5 hlet r6
            have hmo : ∀ τ, s_Mo_report g am (zi i) (zi s) (mW am M τ) = some (zi (M.1 14 i + 1), mW am (mSLt (mQ M i s c 2) i) τ) := fun τ => by
              have := M_report (g := g) (am := am) (ρ := τ) h.m6 hb u2 h.2.1.1 hs h18 (fun s hs => (hbd s hs).1) (fun s hs => (hbd s hs).2.2) (by omega) (by omega) (by omega)
              rw [hc] at this
              exact this
            have hsc : (mSLt (mQ M i s c 2) i).2.2.2.1 0 = 0 := by
              unfold mSLt mSendQ
              split <;> rfl
            refine ⟨_, _, C', _, ρ', f', r1, hmo, dY.dx (r3.trans r6.2.1), hfin, hr.cl hT (cl_slt h (by omega) u3 hi) ?_ ?_, Or.inl ⟨rfl, hsc⟩⟩
            · have := r6.2.2.1; omega
            · have := r6.2.2.2.1; omega
        · have b18 := mOK.b2 h.2.1.1 (j := 18) (by omega) i
          have b19 := mOK.b2 h.2.1.1 (j := 19) (by omega) i
          exact CO1.same h hr hT (Y_reportW hn hi u1 hs hw.2.2.1 hw.2.2.2 (by omega)) (fun τ => M_reportW h.m6 hb u2 h.2.1.1 hs (by omega))
    · exact CO1.ex h hr hT (Y_reportD h.hF hn hi u1 hg) (fun τ => M_reportD h.m6 hb u2 h.2.1.1)
end CALL11
