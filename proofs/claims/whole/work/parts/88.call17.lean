section CALL17
variable {g : zG} {e S F n am A B T i s q b x y u v j k : Nat} {C C' C1 : cS} {M M' M1 : mS} {ρ ρ' ρ1 : zS} {f f' : Nat → Nat → Nat}
theorem mS2_at {m w r c : Nat} : (mSN (mSN M 29 b m) 30 b w).1 r c = if r = 30 ∧ c = b then w else if r = 29 ∧ c = b then m else M.1 r c := rfl
theorem mS2_row {m w r : Nat} (h1 : ¬ r = 29) (h2 : ¬ r = 30) : (mSN (mSN M 29 b m) 30 b w).1 r = M.1 r := by
  funext c
  rw [mS2_at, if_neg (fun h => h2 h.1), if_neg (fun h => h1 h.1)]
theorem mS2_b {m w : Nat} : (mSN (mSN M 29 b m) 30 b w).1 29 b = m ∧ (mSN (mSN M 29 b m) 30 b w).1 30 b = w := by
  constructor
  · rw [mS2_at, if_neg (by omega), if_pos ⟨rfl, rfl⟩]
  · rw [mS2_at, if_pos ⟨rfl, rfl⟩]
theorem mS2_o {m w r b' : Nat} (h : ¬ b' = b) : (mSN (mSN M 29 b m) 30 b w).1 r b' = M.1 r b' := by
  rw [mS2_at, if_neg (fun h2 => h h2.2), if_neg (fun h2 => h h2.2)]
theorem mS2_ok {m w : Nat} (h : mOK M) (h1 : m < 2147483648 ∧ w < 2147483648) : mOK (mSN (mSN M 29 b m) 30 b w) := by
  refine mOK.set (mOK.set h ?_) ?_
  · rw [show mbd 29 = 2147483648 by decide]; exact h1.1
  · rw [show mbd 30 = 2147483648 by decide]; exact h1.2
theorem K_office {p r0 r2 r3 r4 r5 : Nat} (h : RR e S F n C M ρ f T) (hT : T ≤ 600) (hg0 : g 0 = some e) (hg2 : ∃ mi, g 10 = some mi) (hE : PE F ρ C M f n p r0 b r2 r3 r4 r5) (hkd : r0 = 1 ∨ r0 = 2) (hu : vO M n = 0) (hup : C.1 (oOf n) 6 = 1) (h34 : M.1 34 0 = r0 ∧ M.1 34 1 = b ∧ M.1 34 2 = r2 ∧ M.1 34 3 = r3 ∧ M.1 34 4 = r4 ∧ M.1 34 5 = r5) : ∃ C' M' ρ' f', s_No_bringToOffice g S (some p) (cW S n C ρ) = some (cW S n C' ρ') ∧ (∀ τ, s_Mo_comes g am (mW am M τ) = some (mW am M' τ)) ∧ dX ρ ρ' ∧ ρ'.1 ≤ ρ.1 + 4 ∧ ρ'.2.1 ≤ ρ.2.1 + 1020 ∧ cl M' = cl M ∧ RR e S F n C' M' ρ' f' T := by
  have hn := h.n6
  have hm6 := h.m6
  have hP64 := h.2.2.2.2.2.2.1.1
  obtain ⟨hb, hr2, ⟨hr0, -⟩ | ⟨-, hlet, hle, heq⟩⟩ := hE
  · omega
  · have hSA := h.2.2.2.2.2.1 b hb
    have hBR := h.2.2.2.1 b hb
    obtain ⟨⟨hl1, hl2, hl3⟩, hIa⟩ := (h.inn hb).1
    obtain ⟨q0, q1, q2, q3, q4, q5⟩ := h34
    have hb31 := mOK.b31 h.2.1.1
    have hlet' := hlet
    obtain ⟨⟨hs, -⟩, w, ev, hL, hkind⟩ := hlet
    by_cases ho : r2 = M.1 29 b
    · rcases hSA.2.2 with ⟨a1, -⟩ | ⟨a1, pa, a2, a3⟩
      · omega
      · have hans := Y_ansOld (g := g) h.F1 hn hb hL hSA.tk ho
        rw [a2] at hans
        obtain ⟨C', ρ', f', r1, r2'⟩ := Y_bringO (g := g) (f := f) hup hans h.1 hg0 hg2 (by omega) a3.okE
        refine ⟨C', mAnsw M b, ρ', f', r1, fun τ => M_comes1 (by omega) q1 q2 ho (by omega) (by omega), r2'.2.1, by have := r2'.2.2.1; omega, by have := r2'.2.2.2.1; omega, ?_, ?_⟩
        · unfold mAnsw; exact mSendQ_cl
        · unfold mAnsw
          exact h.send r2' ⟨by omega, by omega, hb31 _ _, hb31 _ _, hb31 _ _, hb31 _ _⟩ ⟨hb, by omega, Or.inl ⟨rfl, a3, Nat.le_refl _, fun _ => ⟨rfl, rfl, rfl⟩⟩⟩
    · by_cases ho2 : r2 = M.1 29 b + 1
      · have hlat : M.1 14 b = M.1 29 b + 1 := by omega
        obtain ⟨hq0, hq3⟩ := heq (by omega)
        have hst := h.St hu hb
        have h28 := mOK.b2 h.2.1.1 (j := 28) (by omega) b
        have hLt : isLet F ρ p r3 w ev r0 b (M.1 29 b + 1) := by rw [← ho2]; exact hL
        have hg22 := fun s (hs : s < 3) => (h.g22 hu hs).1
        have hnew : ∀ st, isAns F (znew ρ 5 (.inr (6, [.int (zi st), .null, .int (zi 3), .int (zi b), .int (zi (M.1 29 b + 1))]))) ρ.1 st none b (M.1 29 b + 1) := fun st => dOb.new (y := 0) h.F2
        by_cases hstr : M.1 28 b = 1
        · have htk := Y_takeS (g := g) (C := C) h.F1 h.F2 hn hb hs hLt (by omega)
          obtain ⟨v29, v30⟩ := mS2_b (M := M) (b := b) (m := M.1 29 b + 1) (w := 3)
          have hfin := h.took (C1 := C) (M1 := mSN (mSN M 29 b (M.1 29 b + 1)) 30 b 3) hT hg0 hg2 hb hu hup hLt htk dX.new h.1.new (mS2_ok h.2.1.1 (by omega)) rfl rfl (fun r k1 k2 => mS2_row (by omega) (by omega)) (mS2_row (by omega) (by omega)) rfl rfl (fun _ _ => sBc.refl) rfl rfl rfl rfl (mS2_row (by omega) (by omega)) v29 (fun r b' k1 k2 hne => mS2_o hne) (fun s hs => (h.o0 hu hs).fx (kp.dx dX.new) sOc.refl ⟨fun r k1 k2 => by rw [mS2_row (by omega) (by omega)], fun k hk => ⟨⟨by rw [mS2_row (by omega) (by omega)], by rw [mS2_row (by omega) (by omega)], by rw [mS2_row (by omega) (by omega)]⟩, rfl, rfl⟩⟩) (by
              rw [v29, v30]
              exact ⟨1, none, hnew 1, Or.inl ⟨rfl, rfl⟩⟩) (fun s hs => by rw [mS2_row (by omega) (by omega)]; exact Nat.le_of_eq (hg22 s hs).symm) hlat (fun h => by rw [v30] at h; omega) (fun h => by rw [v30] at h; omega) (fun h => by rw [v30] at h; omega) (mS2_row (by omega) (by omega))
          obtain ⟨C', ρ', f', r1, x1, x2, x3, x4, x5⟩ := hfin
          refine ⟨C', _, ρ', f', r1, fun τ => ?_, x1, ?_, ?_, x4, x5⟩
          · have := M_comesS (g := g) (am := am) (ρ := τ) (b := b) (m := r2) (by omega) hm6 q1 q2 ho2 (by omega) hstr h.2.1.1 (by omega) (by omega)
            rw [ho2] at this
            exact this
          · have e : (znew ρ 5 (.inr (6, [.int (zi 1), .null, .int (zi 3), .int (zi b), .int (zi (M.1 29 b + 1))]))).1 = ρ.1 + 1 := rfl
            omega
          · have e : (znew ρ 5 (.inr (6, [.int (zi 1), .null, .int (zi 3), .int (zi b), .int (zi (M.1 29 b + 1))]))).2.1 = ρ.2.1 + 5 := rfl
            omega
        · have hO := h.o0 hu hs
          obtain ⟨⟨c0, c1, c2⟩, ⟨c3, c4, c5⟩, ck, -⟩ := h.o0 hu hs
          rcases hkind with ⟨kd1, kd2, kd3, kd4⟩ | ⟨kd1, kd2, ⟨kd3, kd3'⟩, kd4⟩
          · subst kd1
            subst kd2
            obtain ⟨v29, v30, v31, v32⟩ := give_b (M := M) (b := b) (s := r3) (m := M.1 29 b + 1) (N := min w (if M.1 20 r3 = 1 then 300 - M.1 22 r3 else 0))
            have hN : M.1 22 r3 + min w (if M.1 20 r3 = 1 then 300 - M.1 22 r3 else 0) ≤ 300 := by split <;> omega
            have hok := give_ok (b := b) (s := r3) (m := M.1 29 b + 1) h.2.1.1 (by omega) (by omega) hN
            have hmo : ∀ τ, s_Mo_comes g am (mW am M τ) = some (mW am (mAnsw (mCpO (mGive (mSN M 29 b (M.1 29 b + 1)) b r3 (min w (if M.1 20 r3 = 1 then 300 - M.1 22 r3 else 0))) 0 1) b) τ) := fun τ => by
              have := M_comesG (g := g) (am := am) (ρ := τ) (b := b) (m := r2) (s := r3) (w := w) (by omega) hm6 q1 q2 ho2 (by omega) (by omega) q0 q3 hs q4 c5 h.2.1.1 (by omega) (by omega) (by rw [ho2]; exact hok)
              rw [ho2] at this
              exact this
            have h22' : ∀ s, s < 3 → M.1 22 (3 + s) ≤ (mGive (mSN M 29 b (M.1 29 b + 1)) b r3 (min w (if M.1 20 r3 = 1 then 300 - M.1 22 r3 else 0))).1 22 s := fun s hs => by
              rw [give_22]
              have := hg22 s hs
              by_cases hss : s = r3
              · subst hss; rw [if_pos rfl]; omega
              · rw [if_neg hss]; omega
            by_cases hgv : M.1 20 r3 = 1 ∧ M.1 22 r3 < 300
            · have hNe : min w (if M.1 20 r3 = 1 then 300 - M.1 22 r3 else 0) = min w (300 - C.1 (oSb n 0 r3) 2) := by rw [if_pos hgv.1, c2]
              generalize hNN : min w (if M.1 20 r3 = 1 then 300 - M.1 22 r3 else 0) = N at *
              have htk := Y_takeG (g := g) (C := C) (m := N) h.F1 h.F2 hn hb hs hLt (by omega) (by omega) (by omega) ⟨kd3, kd4⟩ hNe
              obtain ⟨w1, w2, w3, w4, w5⟩ := gvn_ok (ρ := ρ) (i := b) (num := M.1 29 b + 1) (x := C.1 (oSb n 0 r3) 2 + 1) (m := N) h.F2
              have hall : ∀ x, x < 2 + 11 * n ∨ x = oPo n → same4 C (cSN (cGv C n r3 b N) (oSb n 0 r3) 2 (C.1 (oSb n 0 r3) 2 + N)) x := fun x hx => cGv_fr (by unfold oPo at hx; unfold oHo; omega) (by unfold oPo at hx; unfold oFa; omega) (by unfold oPo at hx; unfold oSb; omega)
              have hfr : ∀ x, ¬ x = oHo n 0 r3 → ¬ x = oFa n 0 r3 → ¬ x = oSb n 0 r3 → same4 C (cSN (cGv C n r3 b N) (oSb n 0 r3) 2 (C.1 (oSb n 0 r3) 2 + N)) x := fun x h1 h2 h3 => cGv_fr h1 h2 h3
              have hLL : LLs e S F n (cSN (cGv C n r3 b N) (oSb n 0 r3) 2 (C.1 (oSb n 0 r3) 2 + N)) (gvn ρ (C.1 (oSb n 0 r3) 2 + 1) N b (M.1 29 b + 1)) f := by
                refine (h.1.ofx hall).mono (fun _ _ _ => ⟨rfl, rfl⟩) (by rw [w4]; omega) (fun p hp _ => ?_)
                unfold gvn
                rw [zupd_at, if_neg (by omega)]
                show (if p = ρ.1 + 1 then _ else if p = ρ.1 then _ else ρ.2.2 p) = _
                rw [if_neg (by omega), if_neg (by omega)]
              have hfin := h.took (M1 := mGive (mSN M 29 b (M.1 29 b + 1)) b r3 N) hT hg0 hg2 hb hu hup hLt htk w3 hLL hok rfl rfl (fun r k1 k2 => funext (fun c => give_o (by omega))) (funext (fun c => give_o (by omega))) rfl rfl (fun i hi => sBc.sb (fun x hx => hall x (Or.inl hx)) hi) (by rw [(hall _ (Or.inr rfl)).1]) (by rw [(hfr (oOf n) (by unfold oOf oHo; omega) (by unfold oOf oFa; omega) (by unfold oOf oSb; omega)).1]) (hfr (oSt n 0) (by unfold oSt oHo; omega) (by unfold oSt oFa; omega) (by unfold oSt oSb; omega)).1 rfl (funext (fun c => give_o (by omega))) v29 (fun r b' k1 k2 hne => give_ob k1 hne) (fun s' hs' => ?_) ?_ h22' hlat (fun _ => hq0.symm) (fun h => by rw [v30] at h; omega) (fun _ _ => ?_) (funext (fun c => give_o (by omega)))
              · obtain ⟨C', ρ', f', r1, x1, x2, x3, x4, x5⟩ := hfin
                exact ⟨C', _, ρ', f', r1, hmo, x1, by omega, by omega, x4, x5⟩
              · by_cases hss : s' = r3
                · subst hss
                  exact OB.give (m := M.1 29 b + 1) hO hs hb hgv.1 hN (kp.dx w3)
                · refine (h.o0 hu hs').fx (kp.dx w3) (sOc.of (fun x hx => hfr x ?_ ?_ ?_)) (sO.give hs hs' hN (Or.inl hss))
                  · unfold oSb oHo oFa oCe oDe at hx; unfold oHo; omega
                  · unfold oSb oHo oFa oCe oDe at hx; unfold oFa; omega
                  · unfold oSb oHo oFa oCe oDe at hx; unfold oSb; omega
              · rw [v29, v30, v31, v32]
                refine ⟨0, some (ρ.1 + 1), w1, Or.inr (Or.inr ⟨rfl, rfl, Or.inr ⟨by omega, ρ.1 + 1, rfl, ?_⟩⟩)⟩
                rw [← c2]; exact w2
              · rw [v31, v32, ← hq3, give_22, if_pos rfl]
                have := hg22 r3 hs
                omega
            · have hNe : min w (if M.1 20 r3 = 1 then 300 - M.1 22 r3 else 0) = 0 := by
                by_cases h20 : M.1 20 r3 = 1
                · rw [if_pos h20]; omega
                · rw [if_neg h20]; omega
              rw [hNe] at hmo hok h22' v29 v30 v31 v32 hN
              have htk := Y_takeG0 (g := g) (C := C) h.F1 h.F2 hn hb hs hLt (by omega) (by omega) (by omega) ⟨kd3, kd4⟩ (by omega)
              have hfin := h.took (C1 := C) (M1 := mGive (mSN M 29 b (M.1 29 b + 1)) b r3 0) hT hg0 hg2 hb hu hup hLt htk dX.new h.1.new hok rfl rfl (fun r k1 k2 => funext (fun c => give_o (by omega))) (funext (fun c => give_o (by omega))) rfl rfl (fun _ _ => sBc.refl) rfl rfl rfl rfl (funext (fun c => give_o (by omega))) v29 (fun r b' k1 k2 hne => give_ob k1 hne) (fun s' hs' => (h.o0 hu hs').fx (kp.dx dX.new) sOc.refl (sO.give hs hs' hN (Or.inr rfl))) (by
                rw [v29, v30, v31, v32]
                exact ⟨0, none, hnew 0, Or.inr (Or.inr ⟨rfl, rfl, Or.inl ⟨rfl, rfl⟩⟩)⟩) h22' hlat (fun _ => hq0.symm) (fun h => by rw [v30] at h; omega) (fun _ h => by rw [v32] at h; omega) (funext (fun c => give_o (by omega)))
              obtain ⟨C', ρ', f', r1, x1, x2, x3, x4, x5⟩ := hfin
              refine ⟨C', _, ρ', f', r1, hmo, x1, ?_, ?_, x4, x5⟩
              · have e : (znew ρ 5 (.inr (6, [.int (zi 0), .null, .int (zi 3), .int (zi b), .int (zi (M.1 29 b + 1))]))).1 = ρ.1 + 1 := rfl
                omega
              · have e : (znew ρ 5 (.inr (6, [.int (zi 0), .null, .int (zi 3), .int (zi b), .int (zi (M.1 29 b + 1))]))).2.1 = ρ.2.1 + 5 := rfl
                omega
          · subst kd1
            obtain ⟨⟨bf, bc, hbk⟩, he⟩ := hBR.2.1.2 r3 hs
            have hinv := ((h.inn hb).2.2.2.1 r3 hs).2
            have hT5 := ((h.inn hb).2.2.2.1 r3 hs).1
            have e5 := he.1.1
            have hown := hbk.own
            have hfact : ∀ m, m < r4 → M.1 13 (600 * (3 * (b + 6) + r3) + (r5 + m)) / 2 < M.1 2 (3 * (b + 6) + r3) ∧ 1 ≤ M.1 7 (300 * (3 * (b + 6) + r3) + M.1 13 (600 * (3 * (b + 6) + r3) + (r5 + m)) / 2) ∧ M.1 7 (300 * (3 * (b + 6) + r3) + M.1 13 (600 * (3 * (b + 6) + r3) + (r5 + m)) / 2) ≤ M.1 22 r3 := fun m hm => by
              have h1 := (he.2.1 (r5 + m) (by omega)).1
              have h2 : M.1 13 (600 * (3 * (b + 6) + r3) + (r5 + m)) / 2 < M.1 2 (3 * (b + 6) + r3) := by omega
              have h3 := hbk.num h2
              have h4 := hinv _ h2
              have h5 := hg22 r3 hs
              omega
            have htk := Y_takeF (g := g) (C := C) (len := r4) (G := gEv f (oLs b r3 1) r5 r4) (pe := fun m => f (oLs b r3 1) (r5 + m)) (en := fun m => M.1 7 (300 * (3 * (b + 6) + r3) + M.1 13 (600 * (3 * (b + 6) + r3) + (r5 + m)) / 2) - 1) (eu := fun m => 1 - M.1 13 (600 * (3 * (b + 6) + r3) + (r5 + m)) % 2) (ec := fun m => evC M (3 * (b + 6) + r3) (M.1 13 (600 * (3 * (b + 6) + r3) + (r5 + m)))) (ed := fun m => evD M (3 * (b + 6) + r3) (M.1 13 (600 * (3 * (b + 6) + r3) + (r5 + m)))) h.F1 h.F2 hn hb hs hLt (by omega) (by omega) (by omega) (fun k hk => by rw [(ck k hk).1.1]; exact mOK.b128 h.2.1.1 (j := 23) (by omega) _) kd3' kd2 (fun m hm => by
              obtain ⟨f1, f2, f3⟩ := hfact m hm
              have hev := (he.2.1 (r5 + m) (by omega)).2.1
              refine ⟨by unfold gEv; rw [if_pos hm], ?_, by show 1 - _ < 2; omega, ?_⟩
              · show isEv F ρ (f (oLs b r3 1) (r5 + m)) (M.1 7 (300 * (3 * (b + 6) + r3) + M.1 13 (600 * (3 * (b + 6) + r3) + (r5 + m)) / 2) - 1 + 1) _ _ _
                rw [show M.1 7 (300 * (3 * (b + 6) + r3) + M.1 13 (600 * (3 * (b + 6) + r3) + (r5 + m)) / 2) - 1 + 1 = M.1 7 (300 * (3 * (b + 6) + r3) + M.1 13 (600 * (3 * (b + 6) + r3) + (r5 + m)) / 2) by omega]
                exact hev
              · show M.1 7 (300 * (3 * (b + 6) + r3) + M.1 13 (600 * (3 * (b + 6) + r3) + (r5 + m)) / 2) - 1 < _
                omega)
            generalize hC1 : cEnL C n r3 (fun m => M.1 7 (300 * (3 * (b + 6) + r3) + M.1 13 (600 * (3 * (b + 6) + r3) + (r5 + m)) / 2) - 1) (fun m => 1 - M.1 13 (600 * (3 * (b + 6) + r3) + (r5 + m)) % 2) (fun m => evC M (3 * (b + 6) + r3) (M.1 13 (600 * (3 * (b + 6) + r3) + (r5 + m)))) (fun m => evD M (3 * (b + 6) + r3) (M.1 13 (600 * (3 * (b + 6) + r3) + (r5 + m)))) r4 = C1 at htk
            have hfr : ∀ x, ¬ x = oFa n 0 r3 → ¬ x = oDe n 0 r3 → ¬ x = oCe n 0 r3 → same4 C C1 x := fun x h1 h2 h3 => by
              rw [← hC1]
              obtain ⟨y1, y2, y3, y4⟩ := cEnL_fr (C := C) (n := n) (s := r3) (en := fun m => M.1 7 (300 * (3 * (b + 6) + r3) + M.1 13 (600 * (3 * (b + 6) + r3) + (r5 + m)) / 2) - 1) (eu := fun m => 1 - M.1 13 (600 * (3 * (b + 6) + r3) + (r5 + m)) % 2) (ec := fun m => evC M (3 * (b + 6) + r3) (M.1 13 (600 * (3 * (b + 6) + r3) + (r5 + m)))) (ed := fun m => evD M (3 * (b + 6) + r3) (M.1 13 (600 * (3 * (b + 6) + r3) + (r5 + m)))) (m := r4)
              exact ⟨y1 x h1, y2 x h2, y3 x h3, by rw [y4]⟩
            have hall : ∀ x, x < 2 + 11 * n ∨ x = oPo n → same4 C C1 x := fun x hx => hfr x (by unfold oPo at hx; unfold oFa; omega) (by unfold oPo at hx; unfold oDe; omega) (by unfold oPo at hx; unfold oCe; omega)
            obtain ⟨v29, v30⟩ := mS2_b (M := M) (b := b) (m := M.1 29 b + 1) (w := 2)
            have r7 : (mSN (mSN M 29 b (M.1 29 b + 1)) 30 b 2).1 7 = M.1 7 := mS2_row (by omega) (by omega)
            have r13 : (mSN (mSN M 29 b (M.1 29 b + 1)) 30 b 2).1 13 = M.1 13 := mS2_row (by omega) (by omega)
            have r22 : (mSN (mSN M 29 b (M.1 29 b + 1)) 30 b 2).1 22 = M.1 22 := mS2_row (by omega) (by omega)
            have r12 : (mSN (mSN M 29 b (M.1 29 b + 1)) 30 b 2).1 12 = M.1 12 := mS2_row (by omega) (by omega)
            have hO2 : ∀ s', s' < 3 → OB S F ρ C (mSN (mSN M 29 b (M.1 29 b + 1)) 30 b 2) n 0 s' s' := fun s' hs' => (h.o0 hu hs').fx kp.refl sOc.refl ⟨fun r k1 k2 => by rw [mS2_row (by omega) (by omega)], fun k hk => ⟨⟨by rw [mS2_row (by omega) (by omega)], by rw [mS2_row (by omega) (by omega)], by rw [mS2_row (by omega) (by omega)]⟩, rfl, rfl⟩⟩
            have hOln := OB.ln (C := C) (M := mSN (mSN M 29 b (M.1 29 b + 1)) 30 b 2) (J := 3 * (b + 6) + r3) (fr := r5) (t := r4) (en := fun m => M.1 7 (300 * (3 * (b + 6) + r3) + M.1 13 (600 * (3 * (b + 6) + r3) + (r5 + m)) / 2) - 1) (eu := fun m => 1 - M.1 13 (600 * (3 * (b + 6) + r3) + (r5 + m)) % 2) (ec := fun m => evC M (3 * (b + 6) + r3) (M.1 13 (600 * (3 * (b + 6) + r3) + (r5 + m)))) (ed := fun m => evD M (3 * (b + 6) + r3) (M.1 13 (600 * (3 * (b + 6) + r3) + (r5 + m)))) (hO2 r3 hs) (fun m hm => by
              obtain ⟨f1, f2, f3⟩ := hfact m hm
              rw [r7, r13, r22]
              refine ⟨f2, rfl, ?_, rfl, rfl, ?_, fun h0 => ?_⟩
              · show M.1 7 (300 * (3 * (b + 6) + r3) + M.1 13 (600 * (3 * (b + 6) + r3) + (r5 + m)) / 2) - 1 < _
                omega
              · unfold evD; rw [r12]; rfl
              · obtain ⟨p', z1, z2, z3⟩ := (he.2.1 (r5 + m) (by omega)).2.2 h0
                exact ⟨p', z2, z3⟩) r4 (Nat.le_refl _)
            rw [hC1] at hOln
            have hsln : ∀ s', s' < 3 → ¬ s' = r3 → sO (mSN (mSN M 29 b (M.1 29 b + 1)) 30 b 2) (mLn (mSN (mSN M 29 b (M.1 29 b + 1)) 30 b 2) r3 (3 * (b + 6) + r3) r5 r4) s' s' := fun s' hs' hss => sO.ln (t := r4) hs hs' hss (fun m hm => by
              obtain ⟨f1, f2, f3⟩ := hfact m hm
              rw [r7, r13]
              omega) r4 (Nat.le_refl _)
            obtain ⟨L1, L2, L3, L4⟩ := ln_fr (M := mSN (mSN M 29 b (M.1 29 b + 1)) 30 b 2) (s := r3) (J := 3 * (b + 6) + r3) (fr := r5) r4
            have hmo : ∀ τ, s_Mo_comes g am (mW am M τ) = some (mW am (mAnsw (mCpO (mLn (mSN (mSN M 29 b (M.1 29 b + 1)) 30 b 2) r3 (3 * (b + 6) + r3) r5 r4) 0 1) b) τ) := fun τ => by
              have := M_comesF (g := g) (am := am) (ρ := τ) (b := b) (m := r2) (s := r3) (f := r5) (t := r4) (by omega) hm6 q1 q2 ho2 (by omega) (by omega) q0 q3 hs q4 q5 h.2.1.1 (by omega) (by omega) (by omega) (fun i i1 i2 => by
                obtain ⟨f1, f2, f3⟩ := hfact (i - r5) (by omega)
                rw [show r5 + (i - r5) = i by omega] at f1 f2 f3
                exact ⟨by omega, f2, by omega⟩)
              rw [ho2] at this
              exact this
            have hok1 : mOK (mLn (mSN (mSN M 29 b (M.1 29 b + 1)) 30 b 2) r3 (3 * (b + 6) + r3) r5 r4) := mOK.ln (mS2_ok h.2.1.1 (by omega))
            generalize hM1 : mLn (mSN (mSN M 29 b (M.1 29 b + 1)) 30 b 2) r3 (3 * (b + 6) + r3) r5 r4 = M1 at L1 L2 L3 L4 hOln hsln hmo hok1
            have Lr : ∀ r, ¬ r = 23 → ¬ r = 27 → ¬ r = 29 → ¬ r = 30 → M1.1 r = M.1 r := fun r a1 a2 a3 a4 => (L1 r a1 a2).trans (mS2_row a3 a4)
            have m29 : M1.1 29 b = M.1 29 b + 1 := by rw [L1 29 (by omega) (by omega)]; exact v29
            have m30 : M1.1 30 b = 2 := by rw [L1 30 (by omega) (by omega)]; exact v30
            have hfin := h.took (C1 := C1) (M1 := M1) hT hg0 hg2 hb hu hup hLt htk dX.new (h.1.ofx hall).new hok1 (by rw [L4]; rfl) (by rw [L4]; rfl) (fun r k1 k2 => Lr r (by omega) (by omega) (by omega) (by omega)) (Lr 33 (by omega) (by omega) (by omega) (by omega)) (by rw [L2 11 (by omega)]; rfl) (by rw [L3 10 (by omega)]; rfl) (fun i hi => sBc.sb (fun x hx => hall x (Or.inl hx)) hi) (by rw [(hall _ (Or.inr rfl)).1]) (by rw [(hfr (oOf n) (by unfold oOf oFa; omega) (by unfold oOf oDe; omega) (by unfold oOf oCe; omega)).1]) (hfr (oSt n 0) (by unfold oSt oFa; omega) (by unfold oSt oDe; omega) (by unfold oSt oCe; omega)).1 (hfr (oAn n 0) (by unfold oAn oFa; omega) (by unfold oAn oDe; omega) (by unfold oAn oCe; omega)).2.2.2 (Lr 28 (by omega) (by omega) (by omega) (by omega)) m29 (fun r b' k1 k2 hne => by rw [L1 r (by omega) (by omega)]; exact mS2_o hne) (fun s' hs' => ?_) ?_ (fun s' hs' => by rw [Lr 22 (by omega) (by omega) (by omega) (by omega)]; exact Nat.le_of_eq (hg22 s' hs').symm) hlat (fun h => by rw [m30] at h; omega) (fun _ => hq0.symm) (fun h => by rw [m30] at h; omega) (Lr 20 (by omega) (by omega) (by omega) (by omega))
            · obtain ⟨C', ρ', f', r1, x1, x2, x3, x4, x5⟩ := hfin
              refine ⟨C', _, ρ', f', r1, hmo, x1, ?_, ?_, x4, x5⟩
              · have e : (znew ρ 5 (.inr (6, [.int (zi 0), .null, .int (zi 3), .int (zi b), .int (zi (M.1 29 b + 1))]))).1 = ρ.1 + 1 := rfl
                omega
              · have e : (znew ρ 5 (.inr (6, [.int (zi 0), .null, .int (zi 3), .int (zi b), .int (zi (M.1 29 b + 1))]))).2.1 = ρ.2.1 + 5 := rfl
                omega
            · by_cases hss : s' = r3
              · subst hss
                exact hOln.fx (kp.dx dX.new) sOc.refl sO.refl
              · refine (hO2 s' hs').fx (kp.dx dX.new) (sOc.of (fun x hx => hfr x ?_ ?_ ?_)) (hsln s' hs' hss)
                · unfold oSb oHo oFa oCe oDe at hx; unfold oFa; omega
                · unfold oSb oHo oFa oCe oDe at hx; unfold oDe; omega
                · unfold oSb oHo oFa oCe oDe at hx; unfold oCe; omega
            · rw [m29, m30]
              exact ⟨0, none, hnew 0, Or.inr (Or.inl ⟨rfl, rfl⟩)⟩
      · have hans := Y_ansNo (g := g) h.F1 hn hb hL hSA.tk ho ho2 (by omega)
        exact ⟨C, M, ρ, f, Y_bringON hup hans, fun τ => M_comes0 (by omega) q1 q2 (by omega) ⟨ho2, ho⟩ h.2.1.1 (by omega), dX.refl, by omega, by omega, rfl, h⟩
end CALL17
