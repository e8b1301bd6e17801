section CALL14
variable {g : zG} {e S F n am A B T i s q b x y u v j k : Nat} {C C' : cS} {M M' : mS} {ρ ρ' : zS} {f f' : Nat → Nat → Nat}
theorem cost_nat {c : Int64} (h : ¬ lg_cmp c 1 < 0 ∧ ¬ 0 < lg_cmp c 1000000000000) : ∃ p, 1 ≤ p ∧ p ≤ 1000000000000 ∧ c = zl p := by
  obtain ⟨h1, h2⟩ := h
  have a1 : ¬ c > 1000000000000 := by
    intro hc
    unfold lg_cmp at h2
    rw [if_pos hc] at h2
    exact h2 (by decide)
  have a2 : c > 1 ∨ c = 1 := by
    unfold lg_cmp at h1
    by_cases hc : c > 1
    · exact Or.inl hc
    · rw [if_neg hc] at h1
      by_cases hc2 : c = 1
      · exact Or.inr hc2
      · rw [if_neg hc2] at h1
        exact absurd (by decide) h1
  have b1 : ¬ (1000000000000 : Int64).toInt < c.toInt := by rw [← Int64.lt_iff_toInt_lt]; exact a1
  have b1' : (1000000000000 : Int64).toInt = 1000000000000 := by decide
  have b2 : 1 ≤ c.toInt := by
    rcases a2 with h | h
    · have : (1 : Int64).toInt < c.toInt := by rw [← Int64.lt_iff_toInt_lt]; exact h
      have e : (1 : Int64).toInt = 1 := by decide
      omega
    · rw [h]; decide
  refine ⟨c.toInt.toNat, by omega, by omega, ?_⟩
  apply Int64.toInt_inj.mp
  rw [zl_int (by omega)]
  omega
theorem cUse_fr {c : Nat} {x : Nat} (hx : ¬ x = oBs i s) : same4 C (cUse C i s c) x := by
  unfold cUse
  split
  · exact ⟨by funext k; rw [cSN_at, if_neg (fun h => hx h.1)], rfl, rfl, rfl⟩
  · exact ⟨by funext k; rw [cSN_at, cSN_at, cSN_at, if_neg (fun h => hx h.1), if_neg (fun h => hx h.1), if_neg (fun h => hx h.1)], rfl, rfl, rfl⟩
theorem cUse_v {c : Nat} : (cUse C i s c).1 (oBs i s) 2 = (if C.1 (oBs i s) 3 + 1 < c then C.1 (oBs i s) 2 else C.1 (oBs i s) 2 + 1) ∧ (cUse C i s c).1 (oBs i s) 3 = (if C.1 (oBs i s) 3 + 1 < c then C.1 (oBs i s) 3 + 1 else 0) ∧ ∀ k, 4 ≤ k → (cUse C i s c).1 (oBs i s) k = C.1 (oBs i s) k := by
  unfold cUse
  by_cases h : C.1 (oBs i s) 3 + 1 < c
  · rw [if_pos h, if_pos h, if_pos h]
    refine ⟨?_, ?_, fun k hk => ?_⟩
    · rw [cSN_at, if_neg (by omega)]
    · rw [cSN_at, if_pos ⟨rfl, rfl⟩]
    · rw [cSN_at, if_neg (by omega)]
  · rw [if_neg h, if_neg h, if_neg h]
    refine ⟨?_, ?_, fun k hk => ?_⟩
    · rw [cSN_at, if_neg (by omega), cSN_at, if_pos ⟨rfl, rfl⟩]
    · rw [cSN_at, if_pos ⟨rfl, rfl⟩]
    · rw [cSN_at, cSN_at, cSN_at, if_neg (by omega), if_neg (by omega), if_neg (by omega)]
/-- the next number is used or voided -/
theorem RR.use {bf bc : Nat → Nat} (h : RR e S F n C M ρ f T) (hT : T < 512) (hi : i < n) (hu : C.1 (oBr i) 8 = 1) (h1 : M.1 1 i = 0) (hv : vw M i = i) (hs : s < 3) (hb : BKb F ρ M f (oLs i s 0) (C.1 (oLs i s 0) 1) (C.1 (oBs i s) 2) (C.1 (oBs i s) 3) (3 * i + s) bf bc) (hlt : C.1 (oBs i s) 2 < C.1 (oLs i s 0) 1) (hv2 : v < 2) (hH : HA M M' (3 * i + s) (M.1 3 (3 * i + s)) v (M.1 3 (3 * i + s) + 1)) (hok : mOK M') (hL : LLs e S F n C' ρ' (fSet f (oLs i s 1) (C.1 (oLs i s 1) 1) ρ.1)) (hx : dX ρ ρ') (hsz : C'.1 (oLs i s 1) 1 = C.1 (oLs i s 1) 1 + 1) (hsc : sameC (oLs i s 1) (cUse C i s (bc (C.1 (oBs i s) 2))) C') (hv0 : v = 0 → ∃ p, 1 ≤ p ∧ p ≤ 1000000000000 ∧ M'.2.2.1 10 (300 * (3 * i + s) + M.1 3 (3 * i + s)) = zl p) (hc0 : v = 1 → M'.2.2.1 10 (300 * (3 * i + s) + M.1 3 (3 * i + s)) = 0) (hev : isEv F ρ' ρ.1 (bf (C.1 (oBs i s) 2) + C.1 (oBs i s) 3) (1 - v) (evC M' (3 * i + s) (2 * M.1 3 (3 * i + s) + v)) (evD M' (3 * i + s) (2 * M.1 3 (3 * i + s) + v))) : RR e S F n C' M' ρ' (fSet f (oLs i s 1) (C.1 (oLs i s 1) 1) ρ.1) (T + 1) ∧ RR e S F n (cSv C' i) (mCpR M' i (i + 6)) ρ' (fSet f (oLs i s 1) (C.1 (oLs i s 1) 1) ρ.1) (T + 1) := by
  have he := (h.nb hi hv hs).2
  obtain ⟨g1, g2, g3, g4, g5, g6, g7, g8, g9, g10, g11, g12⟩ := hH
  have hown := hb.own
  obtain ⟨e5, e6, e7⟩ := he.1
  have hkp : kp S F ρ ρ' := kp.dx hx
  have hus : M.1 3 (3 * i + s) < M.1 2 (3 * i + s) ∧ M.1 7 (300 * (3 * i + s) + M.1 3 (3 * i + s)) = bf (C.1 (oBs i s) 2) + C.1 (oBs i s) 3 := by
    rcases hb.us with ⟨-, u3, -, u5⟩ | ⟨u1, -⟩
    · exact ⟨u3, u5⟩
    · omega
  have nLs : ∀ s' k', s' < 3 → k' < 2 → ¬ oLs i s' k' = oBs i s := fun s' k' hs' hk' => by unfold oLs oBs; omega
  have c' : ∀ x, ¬ x = oBs i s → ¬ x = oLs i s 1 → same4 C C' x := fun x n1 n2 => (cUse_fr n1).trans (hsc x n2)
  have cb : ∀ k, C'.1 (oBs i s) k = (cUse C i s (bc (C.1 (oBs i s) 2))).1 (oBs i s) k := fun k => by rw [(hsc (oBs i s) (by unfold oBs oLs; omega)).1]
  obtain ⟨v2, v3, v4⟩ := cUse_v (C := C) (i := i) (s := s) (c := bc (C.1 (oBs i s) 2))
  have hl0 : C'.1 (oLs i s 0) 1 = C.1 (oLs i s 0) 1 := by rw [(c' (oLs i s 0) (nLs s 0 hs (by omega)) (by unfold oLs; omega)).1]
  refine h.ev hT hi hu h1 hv hs g1 g2 g5 g8 g4 hok hkp hL (c' (oBr i) (by unfold oBr oBs; omega) (by unfold oBr oLs; omega)) (fun x hx2 => c' x (by unfold oBs; omega) (by unfold oLs; omega)) (fun s' hs' hss => ⟨(c' (oBs i s') (by unfold oBs; omega) (by unfold oBs oLs; omega)).1, (c' (oLs i s' 0) (nLs s' 0 hs' (by omega)) (by unfold oLs; omega)).1, (c' (oLs i s' 1) (nLs s' 1 hs' (by omega)) (by unfold oLs; omega)).1⟩) hl0 hsz (fun k hk => by rw [cb, v4 k (by omega)]) ⟨⟨bf, bc, ?_⟩, ?_⟩
  · rw [hl0, cb, cb, v2, v3]
    exact hb.use hlt hkp (fun r hr => by rcases hr with rfl | rfl <;> simp only [g2, g3]) g7 g5 g6 (fun b _ => by rw [fSet_ne (by unfold oLs; omega)])
  · rw [hsz, cb, v4 4 (by omega)]
    refine he.app (M' := M') (k := M.1 3 (3 * i + s)) (v := v) hown.2 hv2 (by rw [g7]; omega) (by rw [g7]; omega) (fun k' hk' hne => by rw [g7] at hk'; omega) hus.1 (by rw [g2]) (by rw [g8, e5]) (by rw [g4]) (fun t ht => g9 t (by omega)) (by rw [← e5]; exact g10) (fun k' _ hne => (g11 k' hne).1) g12 (fun k' _ => by rw [g5]) (fun k' _ hne => ⟨(g11 k' hne).2.1, (g11 k' hne).2.2.1, (g11 k' hne).2.2.2⟩) (fun t ht hek => ?_) (fun hv => ⟨hv0 hv, Nat.le_refl _⟩) (fun hv hz => absurd (hc0 hv) hz) (fun t ht => ?_) hkp ?_
    · have := (he.2.1 t ht).1
      omega
    · unfold fSet; rw [if_neg (fun h => by omega)]
    · have hfs : fSet f (oLs i s 1) (C.1 (oLs i s 1) 1) ρ.1 (oLs i s 1) (C.1 (oLs i s 1) 1) = ρ.1 := by unfold fSet; rw [if_pos ⟨rfl, rfl⟩]
      rw [hfs, hus.2]
      exact hev
theorem mHap_ok (h : mOK M) (hk : k < 300) (hv : v < 2) (h5 : M.1 5 j < 600) : mOK (mHap M j k v) := by
  unfold mHap
  refine mOK.set (mOK.set (mOK.set h ?_) ?_) ?_
  · rw [show mbd 13 = 32768 by decide]; omega
  · rw [show mbd 5 = 2147483648 by decide]; omega
  · rw [show mbd 9 = 128 by decide]; omega
theorem K_invoice {x y : Int32} {c : Int64} {d : Int32} (h : RR e S F n C M ρ f T) (hr : RO ρ M T A B) (hT : T < 512) (hg : g 21 = some q) (hg0 : g 0 = some e) (hg2 : ∃ mi, g 10 = some mi) : CO1 e S F n am A B M ρ T (s_No_invoice g S x y c d (cW S n C ρ)) (s_Mo_invoice g am x y c d) := by
  have hn := h.n6
  rcases ix x n with hx | ⟨i, hi, rfl⟩
  · exact CO1.same h hr hT (Y_invoiceB hn hx) (fun τ => M_invoiceB h.m6 (by rw [h.2.1.2.2]; exact hx))
  · have hb : i < M.2.2.2.1 1 := by rw [h.2.1.2.2]; exact hi
    rcases h.uB hi with ⟨u1, u2, u3⟩ | ⟨u1, u2, u3⟩
    · rcases ix y 3 with hy | ⟨s, hs, rfl⟩
      · exact CO1.same h hr hT (Y_invoiceS hn hi u1 hy) (fun τ => M_invoiceS h.m6 hb u2 h.2.1.1 hy)
      · obtain ⟨⟨bf, bc, hbk⟩, he⟩ := h.nb hi u3 hs
        have hbd := fun s hs => h.bdn (s := s) (by omega) u3 hi hs
        have hl6 := (h.1.2.1 _ (ck_Ls hi hs (show 0 < 2 by decide)) (lt_Ls hi hs (by decide))).1
        have hT5 := ((h.inow u3 hi).2.1 s hs).1
        obtain ⟨e5, e6, e7⟩ := he.1
        by_cases hc : lg_cmp c 1 < 0 ∨ 0 < lg_cmp c 1000000000000
        · refine CO1.same h hr hT (Y_invoiceC hn hi u1 hs hc) (fun τ => ?_)
          by_cases h23 : M.1 3 (3 * i + s) = M.1 2 (3 * i + s)
          · exact M_invoiceE h.m6 hb u2 h.2.1.1 hs h23
          · exact M_invoiceC h.m6 hb u2 h.2.1.1 hs h23 hc
        · have hc' : ¬ lg_cmp c 1 < 0 ∧ ¬ 0 < lg_cmp c 1000000000000 := ⟨fun h => hc (Or.inl h), fun h => hc (Or.inr h)⟩
          rcases hbk.us with ⟨⟨w1, w2⟩, w3, w4, w5⟩ | ⟨w1, w2, w3⟩
          · have hq := (hbk.1 _ w1)
            have hown := hbk.own
            rcases fits_eq hbk he w1 (d := d) with ⟨t1, t2⟩ | ⟨t1, t2⟩
            · have hw := h.w2 u3 hi
              obtain ⟨C', ρ', r1, r2, r3, r4, r5, r6, r7, r8⟩ := Y_invoice (g := g) (c := c) (d := d) h.1 hg0 hg2 hn hi u1 hs hc' w1 hq.1 (by omega) (he.hE hbk) t1 w2 (by omega) hw.2.2.1 hw.2.2.2
              obtain ⟨hH, hH1, hH2⟩ := mInv_HA (M := M) (j := 3 * i + s) (c := c) (d := d) (by omega) (by omega)
              obtain ⟨p, p1, p2, p3⟩ := cost_nat hc'
              have hok : mOK (mInv M (3 * i + s) c d) := by
                unfold mInv
                have h0 : mOK (mSI (mSL (mSs M 0 0) 10 (300 * (3 * i + s) + M.1 3 (3 * i + s)) c) 11 (300 * (3 * i + s) + M.1 3 (3 * i + s)) d) := mOK.set2 h.2.1.1 rfl
                have h1 : mOK (mSN (mSI (mSL (mSs M 0 0) 10 (300 * (3 * i + s) + M.1 3 (3 * i + s)) c) 11 (300 * (3 * i + s) + M.1 3 (3 * i + s)) d) 3 (3 * i + s) (M.1 3 (3 * i + s) + 1)) := mOK.set h0 (by rw [show mbd 3 = 2147483648 by decide]; omega)
                exact mHap_ok h1 (by omega) (by omega) (show M.1 5 (3 * i + s) < 600 by omega)
              have hfin := (h.use hT hi u1 u2 u3 hs hbk w1 (v := 0) (by omega) hH hok r2 r6 r4 r5 (fun _ => ⟨p, p1, p2, by rw [hH1]; exact p3⟩) (fun h => absurd h (by omega)) (by
                have e1 : evC (mInv M (3 * i + s) c d) (3 * i + s) (2 * M.1 3 (3 * i + s) + 0) = c := by
                  unfold evC
                  rw [if_pos (by omega), show (2 * M.1 3 (3 * i + s) + 0) / 2 = M.1 3 (3 * i + s) by omega]; exact hH1
                have e2 : evD (mInv M (3 * i + s) c d) (3 * i + s) (2 * M.1 3 (3 * i + s) + 0) = d := by
                  unfold evD
                  rw [if_pos (by omega), show (2 * M.1 3 (3 * i + s) + 0) / 2 = M.1 3 (3 * i + s) by omega]; exact hH2
                rw [e1, e2]; exact r3)).2
              have hbd' : ∀ s', s' < 3 → bd (mInv M (3 * i + s) c d) (3 * i + s') := fun s' hs' => by
                have := hbd s' hs'
                have h5' := ((h.inow u3 hi).2.1 s' hs').1
                refine ⟨by rw [hH.2.1]; exact this.1, ?_⟩
                by_cases hss : s' = s
                · subst hss; rw [hH.2.2.2.2.2.2.2.1]; omega
                · rw [hH.1.2.1 5 _ (by omega) (by omega) (by omega)]; omega
              have hnum : (mCpR (mInv M (3 * i + s) c d) i (i + 6)).1 7 (300 * (3 * i + s) + M.1 3 (3 * i + s)) = bf (C.1 (oBs i s) 2) + C.1 (oBs i s) 3 := by
                rw [((cpR_k (M := mInv M (3 * i + s) c d) (x := i) (y := i + 6) (by omega) hbd' hs).2.2.1 _ (by rw [hH.2.1]; exact w3)).1.1, hH.2.2.2.2.1]
                exact w5
              have hmo : ∀ τ, s_Mo_invoice g am (zi i) (zi s) c d (mW am M τ) = some (zi (bf (C.1 (oBs i s) 2) + C.1 (oBs i s) 3), mW am (mCpR (mInv M (3 * i + s) c d) i (i + 6)) τ) := fun τ => by
                have := M_invoice (g := g) (am := am) (ρ := τ) h.m6 hb u2 h.2.1.1 hs w3 (fun s hs => (hbd s hs).1) (fun s' hs' => by have := ((h.inow u3 hi).2.1 s' hs').1; omega) hc' t2
                rw [hnum] at this
                exact this
              refine ⟨.inl (zi (bf (C.1 (oBs i s) 2) + C.1 (oBs i s) 3)), zi (bf (C.1 (oBs i s) 2) + C.1 (oBs i s) 3), cSv C' i, mCpR (mInv M (3 * i + s) c d) i (i + 6), ρ', _, r1, hmo, dY.dx r6, hfin, hr.cl hT ?_ (by omega) (by omega), Or.inl ⟨rfl, rfl⟩⟩
              have ec : cl (mCpR (mInv M (3 * i + s) c d) i (i + 6)) = cl (mInv M (3 * i + s) c d) := cl_oB (oB.r (Or.inr rfl) (by omega) hbd')
              have ec2 : cl (mInv M (3 * i + s) c d) = cl M := cl_oB (hH.1.toB (i := i) (by omega))
              rw [ec, ec2]
            · exact CO1.same h hr hT (Y_invoiceT h.1 hn hi u1 hs hc' w1 hq.1 (by omega) (he.hE hbk) t1) (fun τ => M_invoiceT h.m6 hb u2 h.2.1.1 hs w3 (hbd s hs).1 hc' t2)
          · exact CO1.same h hr hT (Y_invoiceE h.1 hn hi u1 hs hc' (by omega) (by omega)) (fun τ => M_invoiceE h.m6 hb u2 h.2.1.1 hs w3)
    · exact CO1.ex h hr hT (Y_invoiceD h.hF hn hi u1 hg) (fun τ => M_invoiceD h.m6 hb u2 h.2.1.1)
theorem rsn (r : Int32) : (r < 1 ∨ ¬ r ≤ 99) ∨ ∃ w, (1 ≤ w ∧ w ≤ 99) ∧ r = zi w := by
  rcases zi_cases r with h0 | ⟨k, hk, rfl⟩
  · exact Or.inl (Or.inl (Int32.lt_trans h0 (by decide)))
  · by_cases h1 : k < 1
    · refine Or.inl (Or.inl ?_); show zi k < zi 1; rw [zi_lt hk (by omega)]; exact h1
    · by_cases h2 : 99 < k
      · refine Or.inl (Or.inr ?_); show ¬ zi k ≤ zi 99; rw [zi_le hk (by omega)]; omega
      · exact Or.inr ⟨k, by omega, rfl⟩
theorem K_voidNext {x y r : Int32} (h : RR e S F n C M ρ f T) (hr : RO ρ M T A B) (hT : T < 512) (hg : g 21 = some q) (hg0 : g 0 = some e) (hg2 : ∃ mi, g 10 = some mi) : CO1 e S F n am A B M ρ T (s_No_voidNext g S x y r (cW S n C ρ)) (s_Mo_voidNext g am x y r) := by
  have hn := h.n6
  rcases ix x n with hx | ⟨i, hi, rfl⟩
  · exact CO1.same h hr hT (Y_voidNextB hn hx) (fun τ => M_voidNextB h.m6 (by rw [h.2.1.2.2]; exact hx))
  · have hb : i < M.2.2.2.1 1 := by rw [h.2.1.2.2]; exact hi
    rcases h.uB hi with ⟨u1, u2, u3⟩ | ⟨u1, u2, u3⟩
    · rcases ix y 3 with hy | ⟨s, hs, rfl⟩
      · exact CO1.same h hr hT (Y_voidNextS hn hi u1 hy) (fun τ => M_voidNextS h.m6 hb u2 h.2.1.1 hy)
      · obtain ⟨⟨bf, bc, hbk⟩, he⟩ := h.nb hi u3 hs
        have hbd := fun s hs => h.bdn (s := s) (by omega) u3 hi hs
        have hl6 := (h.1.2.1 _ (ck_Ls hi hs (show 0 < 2 by decide)) (lt_Ls hi hs (by decide))).1
        have hT5 := ((h.inow u3 hi).2.1 s hs).1
        obtain ⟨e5, e6, e7⟩ := he.1
        rcases rsn r with hrr | ⟨w, hw, rfl⟩
        · refine CO1.same h hr hT (Y_voidNextR hn hi u1 hs hrr) (fun τ => ?_)
          by_cases h23 : M.1 3 (3 * i + s) = M.1 2 (3 * i + s)
          · exact M_voidNextE h.m6 hb u2 h.2.1.1 hs h23
          · exact M_voidNextR h.m6 hb u2 h.2.1.1 hs h23 hrr
        · rcases hbk.us with ⟨⟨w1, w2⟩, w3, w4, w5⟩ | ⟨w1, w2, w3⟩
          · have hq := (hbk.1 _ w1)
            have hown := hbk.own
            obtain ⟨C', ρ', r1, r2, r3, r4, r5, r6, r7, r8⟩ := Y_voidNext (g := g) h.1 hg0 hg2 hn hi u1 hs hw w1 hq.1 (by omega) w2 (by omega)
            obtain ⟨hH, hH1, hH2⟩ := mVn_HA (M := M) (j := 3 * i + s) (r := w) (by omega) (by omega)
            have hok : mOK (mVn M (3 * i + s) w) := by
              unfold mVn
              have h0 : mOK (mSL (mSs M 0 0) 10 (300 * (3 * i + s) + M.1 3 (3 * i + s)) 0) := mOK.set2 h.2.1.1 rfl
              have h1 : mOK (mSN (mSL (mSs M 0 0) 10 (300 * (3 * i + s) + M.1 3 (3 * i + s)) 0) 12 (300 * (3 * i + s) + M.1 3 (3 * i + s)) w) := mOK.set h0 (by rw [show mbd 12 = 128 by decide]; omega)
              have h2 : mOK (mSN (mSN (mSL (mSs M 0 0) 10 (300 * (3 * i + s) + M.1 3 (3 * i + s)) 0) 12 (300 * (3 * i + s) + M.1 3 (3 * i + s)) w) 3 (3 * i + s) (M.1 3 (3 * i + s) + 1)) := mOK.set h1 (by rw [show mbd 3 = 2147483648 by decide]; omega)
              exact mHap_ok h2 (by omega) (by omega) (show M.1 5 (3 * i + s) < 600 by omega)
            have hfin := (h.use hT hi u1 u2 u3 hs hbk w1 (v := 1) (by omega) hH hok r2 r6 r4 r5 (fun h => absurd h (by omega)) (fun _ => hH1) (by
              have e1 : evC (mVn M (3 * i + s) w) (3 * i + s) (2 * M.1 3 (3 * i + s) + 1) = 0 := by
                unfold evC
                rw [if_neg (by omega)]
              have e2 : evD (mVn M (3 * i + s) w) (3 * i + s) (2 * M.1 3 (3 * i + s) + 1) = zi w := by
                unfold evD
                rw [if_neg (by omega), show (2 * M.1 3 (3 * i + s) + 1) / 2 = M.1 3 (3 * i + s) by omega, hH2]
              rw [e1, e2]; exact r3)).1
            have hmo : ∀ τ, s_Mo_voidNext g am (zi i) (zi s) (zi w) (mW am M τ) = some (zi (bf (C.1 (oBs i s) 2) + C.1 (oBs i s) 3), mW am (mVn M (3 * i + s) w) τ) := fun τ => by
              have := M_voidNext (g := g) (am := am) (ρ := τ) h.m6 hb u2 h.2.1.1 hs w3 (hbd s hs).1 (by omega) hw
              rw [w5] at this
              exact this
            refine ⟨.inl (zi (bf (C.1 (oBs i s) 2) + C.1 (oBs i s) 3)), zi (bf (C.1 (oBs i s) 2) + C.1 (oBs i s) 3), C', mVn M (3 * i + s) w, ρ', _, r1, hmo, dY.dx r6, hfin, hr.cl hT (cl_oB (hH.1.toB (i := i) (by omega))) (by omega) (by omega), Or.inl ⟨rfl, rfl⟩⟩
          · exact CO1.same h hr hT (Y_voidNextE h.1 hn hi u1 hs hw (by omega) (by omega)) (fun τ => M_voidNextE h.m6 hb u2 h.2.1.1 hs w3)
    · exact CO1.ex h hr hT (Y_voidNextD h.hF hn hi u1 hg) (fun τ => M_voidNextD h.m6 hb u2 h.2.1.1)
theorem lastE_2 : ∀ t, lastE M j k t = 2 → ∃ t0, t0 < t ∧ M.1 13 (600 * j + t0) = 2 * k ∧ ∀ t', t0 < t' → t' < t → ¬ M.1 13 (600 * j + t') / 2 = k := by
  intro t
  induction t with
  | zero => intro h; exact absurd h (by unfold lastE; omega)
  | succ t ih =>
    intro h
    rw [lastE] at h
    by_cases hk : M.1 13 (600 * j + t) / 2 = k
    · rw [if_pos hk] at h
      exact ⟨t, by omega, by omega, fun t' h1 h2 => by omega⟩
    · rw [if_neg hk] at h
      obtain ⟨t0, h1, h2, h3⟩ := ih h
      refine ⟨t0, by omega, h2, fun t' k1 k2 => ?_⟩
      by_cases ht : t' = t
      · subst ht; exact hk
      · exact h3 t' k1 (by omega)
theorem K_voidUsed {x y v r : Int32} (h : RR e S F n C M ρ f T) (hr : RO ρ M T A B) (hT : T < 512) (hg : g 21 = some q) (hg0 : g 0 = some e) (hg2 : ∃ mi, g 10 = some mi) : CO1 e S F n am A B M ρ T (s_No_voidUsed g S x y v r (cW S n C ρ)) (s_Mo_voidUsed g am x y v r) := by
  have hn := h.n6
  rcases ix x n with hx | ⟨i, hi, rfl⟩
  · exact CO1.same h hr hT (Y_voidUsedB hn hx) (fun τ => M_voidUsedB h.m6 (by rw [h.2.1.2.2]; exact hx))
  · have hb : i < M.2.2.2.1 1 := by rw [h.2.1.2.2]; exact hi
    rcases h.uB hi with ⟨u1, u2, u3⟩ | ⟨u1, u2, u3⟩
    · rcases ix y 3 with hy | ⟨s, hs, rfl⟩
      · exact CO1.same h hr hT (Y_voidUsedS hn hi u1 hy) (fun τ => M_voidUsedS h.m6 hb u2 h.2.1.1 hy)
      · obtain ⟨⟨bf, bc, hbk⟩, he⟩ := h.nb hi u3 hs
        have hbd := fun s hs => h.bdn (s := s) (by omega) u3 hi hs
        have hT5 := ((h.inow u3 hi).2.1 s hs).1
        obtain ⟨e5, e6, e7⟩ := he.1
        rcases rsn r with hrr | ⟨w, hw, rfl⟩
        · exact CO1.same h hr hT (Y_voidUsedR hn hi u1 hs hrr) (fun τ => M_voidUsedR h.m6 hb u2 h.2.1.1 hs hrr)
        · obtain ⟨wf, f1, f2, f3⟩ := h.fate (g := g) (v := v) hi u3 hs
          rcases f3 with ⟨k, k1, k2, k3, k4⟩ | ⟨k3, k4⟩
          · by_cases h2 : wf = 2
            · subst h2
              have hown := hbk.own
              have hnum := hbk.num k1
              have k2' : v = zi (M.1 7 (300 * (3 * i + s) + k)) := k2.symm
              subst k2'
              obtain ⟨C', ρ', r1, r2, r3, r4, r5, r6, r7, r8⟩ := Y_voidUsed (g := g) h.1 hg0 hg2 hn hi u1 hs hw f1 (by omega)
              obtain ⟨hH, hH1, hH2⟩ := mVu_HA (M := M) (j := 3 * i + s) (k := k) (r := w) (by omega) (by omega)
              have hst := he.2.2.1 k k1
              rw [← k4] at hst
              obtain ⟨t0, t1, t2, t3⟩ := lastE_2 (M := M) (j := 3 * i + s) (k := k) (C.1 (oLs i s 1) 1) hst.symm
              have hku := (he.2.1 t0 t1).1
              have hok : mOK (mHap (mSN (mSs M 0 0) 12 (300 * (3 * i + s) + k) w) (3 * i + s) k 1) := by
                have h0 : mOK (mSN (mSs M 0 0) 12 (300 * (3 * i + s) + k) w) := mOK.set (mOK.set2 h.2.1.1 rfl) (by rw [show mbd 12 = 128 by decide]; omega)
                exact mHap_ok h0 (by omega) (by omega) (show M.1 5 (3 * i + s) < 600 by omega)
              generalize hM' : mHap (mSN (mSs M 0 0) 12 (300 * (3 * i + s) + k) w) (3 * i + s) k 1 = M' at hH hH1 hH2 hok
              have hth : M'.2.2.2.1 0 = 0 := by rw [← hM']; rfl
              obtain ⟨g1, g2, g3, g4, g5, g6, g7, g8, g9, g10, g11, g12⟩ := hH
              have hI10 : M'.2.2.1 = M.2.2.1 := by rw [hH1]; rfl
              have hI11 : M'.2.1 = M.2.1 := by rw [hH1]; rfl
              have hkp : kp S F ρ ρ' := kp.dx r6
              have hfin := (h.ev hT hi u1 u2 u3 hs g1 g2 g5 g8 g4 hok hkp r2 (r5 (oBr i) (by unfold oBr oLs; omega)) (fun x hx2 => r5 x (by unfold oLs; omega)) (fun s' hs' hss => ⟨(r5 (oBs i s') (by unfold oBs oLs; omega)).1, (r5 (oLs i s' 0) (by unfold oLs; omega)).1, (r5 (oLs i s' 1) (by unfold oLs; omega)).1⟩) (by rw [(r5 (oLs i s 0) (by unfold oLs; omega)).1]) r4 (fun k hk => by rw [(r5 (oBs i s) (by unfold oBs oLs; omega)).1]) (by
                rw [(r5 (oLs i s 0) (by unfold oLs; omega)).1, (r5 (oBs i s) (by unfold oBs oLs; omega)).1, r4]
                refine ⟨⟨bf, bc, hbk.same hkp (fun r hr => ?_) g5 g6 (fun b _ => by rw [fSet_ne (by unfold oLs; omega)])⟩, ?_⟩
                · rcases hr with rfl | rfl | rfl
                  · rw [g2]
                  · rw [g7]
                  · rw [g3]
                · refine he.app (M' := M') (k := k) (v := 1) hown.2 (by omega) (by rw [g7]; omega) (by rw [g7]; omega) (fun k' hk' hne => by rw [g7] at hk'; exact hk') k1 (by rw [g2]) (by rw [g8, e5]) (by rw [g4]) (fun t ht => g9 t (by omega)) (by rw [← e5]; exact g10) (fun k' _ hne => (g11 k' hne).1) g12 (fun k' _ => by rw [g5]) (fun k' _ hne => ⟨(g11 k' hne).2.1, (g11 k' hne).2.2.1, (g11 k' hne).2.2.2⟩) (fun t ht hek => ⟨rfl, ?_, by rw [hI10], by rw [hI11]⟩) (fun hv => absurd hv (by omega)) (fun _ _ => ⟨t0, t1, t2⟩) (fun t ht => ?_) hkp ?_
                  · rcases Nat.lt_trichotomy t t0 with hlt | hlt | hlt
                    · have := he.2.2.2.2.2 t t0 hlt t1 (by rw [hek, t2]; omega)
                      omega
                    · subst hlt; omega
                    · exact absurd hek (t3 t hlt ht)
                  · unfold fSet; rw [if_neg (fun h => by omega)]
                  · have hfs : fSet f (oLs i s 1) (C.1 (oLs i s 1) 1) ρ.1 (oLs i s 1) (C.1 (oLs i s 1) 1) = ρ.1 := by unfold fSet; rw [if_pos ⟨rfl, rfl⟩]
                    have x1 : evC M' (3 * i + s) (2 * k + 1) = 0 := by unfold evC; rw [if_neg (by omega)]
                    have x2 : evD M' (3 * i + s) (2 * k + 1) = zi w := by unfold evD; rw [if_neg (by omega), show (2 * k + 1) / 2 = k by omega, hH2]
                    rw [hfs, x1, x2]
                    exact r3)).1
              refine ⟨.inl 1, 1, C', M', ρ', _, r1, fun τ => ?_, dY.dx r6, hfin, hr.cl hT (cl_oB (g1.toB (i := i) (by omega))) (by omega) (by omega), Or.inl ⟨rfl, hth⟩⟩
              have := M_voidUsed (g := g) (am := am) (ρ := τ) h.m6 hb u2 h.2.1.1 hs hw (hbd s hs).1 k1 rfl k3 k4.symm (by omega)
              rw [hM'] at this
              exact this
            · have hw4 : wf < 4 ∨ 4 ≤ wf := by omega
              refine CO1.same h hr hT (Y_voidUsedN hn hi u1 hs hw f1 ⟨h2, ?_⟩) (fun τ => M_voidUsedX h.m6 hb u2 h.2.1.1 hs hw (hbd s hs).1 k1 k2 k3 (by rw [← k4]; exact h2))
              rw [k4, he.2.2.1 k k1]
              have : ∀ t, lastE M (3 * i + s) k t < 4 := by
                intro t
                induction t with
                | zero => unfold lastE; omega
                | succ t ih => rw [lastE]; split <;> omega
              exact this _
          · exact CO1.same h hr hT (Y_voidUsedN hn hi u1 hs hw f1 ⟨by omega, by omega⟩) (fun τ => M_voidUsedN h.m6 hb u2 h.2.1.1 hs hw (hbd s hs).1 k3)
    · exact CO1.ex h hr hT (Y_voidUsedD h.hF hn hi u1 hg) (fun τ => M_voidUsedD h.m6 hb u2 h.2.1.1)
end CALL14
