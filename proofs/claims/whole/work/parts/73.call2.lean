section CALL2
variable {g : zG} {e S F n am A B T i s q : Nat} {C C' : cS} {M M' : mS} {ρ ρ' : zS} {f f' : Nat → Nat → Nat}
theorem RR.o0 (h : RR e S F n C M ρ f T) (hv : vO M n = 0) (hs : s < 3) : OB S F ρ C M n 0 s s := by
  have h1 := (h.2.2.2.2.1 s hs).1
  rw [hv, show 3 * 0 + s = s by omega] at h1
  exact h1
theorem RR.hF (h : RR e S F n C M ρ f T) : S + cF n ≤ ρ.1 := Nat.le_trans h.F1 h.F2
theorem numc (y : Int32) {G : Nat} (hG : G ≤ 300) : (y < 1 ∨ zi G < y) ∨ ∃ k, k < G ∧ y = zi (k + 1) := by
  rcases zi_cases y with h | ⟨k, hk, rfl⟩
  · refine Or.inl (Or.inl ?_)
    exact Int32.lt_trans h (by decide)
  · by_cases h0 : k = 0
    · subst h0; exact Or.inl (Or.inl (by decide))
    · by_cases h : G < k
      · refine Or.inl (Or.inr ?_)
        rw [zi_lt (by omega) hk]; exact h
      · exact Or.inr ⟨k - 1, by omega, by rw [show k - 1 + 1 = k by omega]⟩
theorem K_fate {x y : Int32} (h : RR e S F n C M ρ f T) (hr : RO ρ M T A B) (hT : T < 512) (hg : g 21 = some q) : CO1 e S F n am A B M ρ T (s_No_fate g S x y (cW S n C ρ)) (s_Mo_fate g am x y) := by
  rcases h.uO with ⟨u1, u2, u3⟩ | ⟨u1, u2, u3⟩
  · rcases ix x 3 with hx | ⟨s, hs, rfl⟩
    · exact CO1.same h hr hT (Y_fateS u1 hx) (fun τ => M_fateS h.m6 u2 hx)
    · obtain ⟨⟨c0, c1, c2⟩, ⟨c3, c4, c5⟩, ck, -⟩ := h.o0 u3 hs
      rcases numc y c5 with hy | ⟨k, hk, rfl⟩
      · exact CO1.same h hr hT (Y_fatC u1 hs (Y_fateN hs (by rw [c2]; exact hy))) (fun τ => M_fateN h.m6 u2 hs h.2.1.1 hy)
      · refine CO1.same h hr hT (Y_fatC u1 hs (Y_fateO hs (by omega) (by omega))) (fun τ => ?_)
        rw [(ck k (by omega)).1.1]
        exact M_fate h.m6 u2 hs c5 hk
  · exact CO1.ex h hr hT (Y_fateD h.hF u1 hg) (fun τ => M_fateD h.m6 u2)
theorem K_invoiceOf {x y z : Int32} (h : RR e S F n C M ρ f T) (hr : RO ρ M T A B) (hT : T < 512) (hg : g 21 = some q) : CO1 e S F n am A B M ρ T (s_No_invoiceOf g S x y z (cW S n C ρ)) (s_Mo_invoiceOf g am x y z) := by
  rcases h.uO with ⟨u1, u2, u3⟩ | ⟨u1, u2, u3⟩
  · rcases ix x 3 with hx | ⟨s, hs, rfl⟩
    · exact CO1.same h hr hT (Y_invoiceOfS u1 hx) (fun τ => M_invoiceOfS h.m6 u2 hx)
    · obtain ⟨⟨c0, c1, c2⟩, ⟨c3, c4, c5⟩, ck, -⟩ := h.o0 u3 hs
      rcases numc y c5 with hy | ⟨k, hk, rfl⟩
      · exact CO1.same h hr hT (Y_invC u1 hs (Y_fieldN hs (by rw [c2]; exact hy))) (fun τ => M_invoiceOfN h.m6 u2 hs h.2.1.1 hy)
      · obtain ⟨⟨k1, k2⟩, k3, k4, k5, k6⟩ := ck k (by omega)
        have hb := mOK.b128 h.2.1.1 (j := 23) (by omega) (300 * s + k)
        refine CO1.same h hr hT (Y_invC u1 hs (Y_field hs (by omega) (by omega) ?_)) (fun τ => ?_)
        · rw [k1]
          have := k5.mp hk
          omega
        · rw [M_invoiceOf h.m6 u2 hs h.2.1.1 c5 hk]
          have e1 : mIO M (300 * s + k) z = cIO C n s k z := by
            unfold mIO cIO
            rw [k1, k2]
            by_cases h2 : M.1 23 (300 * s + k) = 2
            · obtain ⟨⟨j1, j2⟩, -⟩ := k3 h2
              have h3 : ¬ M.1 23 (300 * s + k) = 3 := by omega
              rw [j1, j2, if_neg h3, if_neg h3]
            · by_cases h3 : M.1 23 (300 * s + k) = 3
              · rw [k4 h3, if_neg h2, if_neg h2, if_neg h2, if_neg h2]
              · rw [if_neg h2, if_neg h2, if_neg h2, if_neg h2, if_neg h3, if_neg h3]
          rw [e1]
  · exact CO1.ex h hr hT (Y_invoiceOfD h.hF u1 hg) (fun τ => M_invoiceOfD h.m6 u2)
theorem K_total {x y : Int32} (h : RR e S F n C M ρ f T) (hr : RO ρ M T A B) (hT : T < 512) (hg : g 21 = some q) : CO1 e S F n am A B M ρ T (s_No_total g S x y (cW S n C ρ)) (s_Mo_total g am x y) := by
  rcases h.uO with ⟨u1, u2, u3⟩ | ⟨u1, u2, u3⟩
  · rcases ix x 3 with hx | ⟨s, hs, rfl⟩
    · exact CO1.same h hr hT (Y_totalS u1 hx) (fun τ => M_totalS h.m6 u2 hx)
    · obtain ⟨⟨c0, c1, c2⟩, ⟨c3, c4, c5⟩, ck, -⟩ := h.o0 u3 hs
      have hn := h.n6
      have hb : ∀ k, k < 300 → C.1 (oFa n 0 s) k < 128 := fun k hk => by
        rw [(ck k hk).1.1]; exact mOK.b128 h.2.1.1 (j := 23) (by omega) _
      have hy := Y_totC (y := y) u1 hs (Y_cents (g := g) (S := S) (ρ := ρ) hs (by omega) hb)
      rcases ix y n with hx | ⟨b, hb, rfl⟩
      · have e0 : ∀ K, K ≤ M.1 22 s → cSum C n s y K = 0 := by
          intro K
          induction K with
          | zero => intro _; rfl
          | succ K ih =>
            intro hK
            obtain ⟨⟨k1, k2⟩, k3, k4, k5, k6⟩ := ck K (by omega)
            have hlt := k6 (by omega)
            rw [cSum, ih (by omega), if_neg]
            rintro ⟨e1, -⟩
            rw [k2] at e1
            rcases hx with h0 | ⟨k', h1, h2, rfl⟩
            · rw [← e1] at h0
              exact absurd (show zi _ < zi 0 from h0) (by rw [zi_lt (by omega) (by omega)]; omega)
            · rw [zi_eq (by omega) h1] at e1; omega
        rw [c2, e0 _ (Nat.le_refl _)] at hy
        exact CO1.same h hr hT hy (fun τ => M_totalB h.m6 u2 hs (by rw [h.2.1.2.2]; exact hx))
      · have e0 : ∀ K, K ≤ M.1 22 s → mSum M s b K = cSum C n s (zi b) K := by
          intro K
          induction K with
          | zero => intro _; rfl
          | succ K ih =>
            intro hK
            obtain ⟨⟨k1, k2⟩, k3, k4, k5, k6⟩ := ck K (by omega)
            have hlt := k6 (by omega)
            have hz : zi (M.1 24 (300 * s + K)) = zi b ↔ M.1 24 (300 * s + K) = b := by rw [zi_eq (by omega) (by omega)]
            rw [cSum, mSum, ih (by omega), k1, k2]
            by_cases h2 : M.1 23 (300 * s + K) = 2
            · obtain ⟨⟨j1, j2⟩, -⟩ := k3 h2
              by_cases h3 : M.1 24 (300 * s + K) = b
              · rw [if_pos ⟨h2, Or.inr h3⟩, if_pos ⟨hz.mpr h3, h2⟩, j1]
              · rw [if_neg (by rintro ⟨-, h4 | h4⟩ <;> omega), if_neg (by rintro ⟨h4, -⟩; exact h3 (hz.mp h4))]
                exact Int64.add_zero _
            · rw [if_neg (by rintro ⟨h4, -⟩; omega), if_neg (by rintro ⟨-, h4⟩; omega)]
              exact Int64.add_zero _
        rw [c2, ← e0 _ (Nat.le_refl _)] at hy
        exact CO1.same h hr hT hy (fun τ => M_total h.m6 u2 hs (by rw [h.2.1.2.2]; exact hb) c5 h.2.1.1)
  · exact CO1.ex h hr hT (Y_totalD h.hF u1 hg) (fun τ => M_totalD h.m6 u2)
theorem tAll_len {j : Nat} (hg : M.1 22 j ≤ 300) : (tAll M j).length ≤ 30100 := by
  have h1 := tLs_len (M := M) (s := j) (M.1 22 j)
  have h2 := tMon_len (v := (mSum M j 6 (M.1 22 j)).toNatClampNeg)
  have h3 := tN_len (v := M.1 21 j)
  unfold tAll
  simp only [List.length_append, List.length_cons, List.length_nil]
  omega
theorem K_listByte {x y : Int32} (h : RR e S F n C M ρ f T) (hr : RO ρ M T A B) (hT : T < 512) (hg : g 21 = some q) : CO1 e S F n am A B M ρ T (s_No_listByte g S x y (cW S n C ρ)) (s_Mo_listByte g am x y) := by
  rcases h.uO with ⟨u1, u2, u3⟩ | ⟨u1, u2, u3⟩
  · rcases ix x 3 with hx | ⟨s, hs, rfl⟩
    · exact CO1.same h hr hT (Y_listByteS u1 hx) (fun τ => M_listByteS h.m6 u2 hx)
    · obtain ⟨⟨c0, c1, c2⟩, ⟨c3, c4, c5⟩, ck, p, hp, ht⟩ := h.o0 u3 hs
      rcases zi_cases y with hy | ⟨i, hi, rfl⟩
      · have h1 := Y_lisC (y := y) u1 hs (X_byteN (g := g) (S := S) (n := n) (C := C) (ρ := ρ) hy)
        by_cases h2 : M.1 20 s = 2
        · exact CO1.same h hr hT h1 (fun τ => M_listByteI h.m6 u2 hs h2 hy)
        · exact CO1.same h hr hT h1 (fun τ => M_listByteO h.m6 u2 hs h.2.1.1 h2)
      · rcases ht with ⟨h2, h3⟩ | ⟨h2, h3, h4⟩
        · exact CO1.same h hr hT (Y_lisC u1 hs (X_byte h.F1 hs hp h3 (by decide) hi)) (fun τ => M_listByteO h.m6 u2 hs h.2.1.1 h2)
        · have hl := tAll_len (M := M) (j := s) c5
          have h1 := Y_lisC (y := zi i) u1 hs (X_byte (g := g) h.F1 hs hp h3 (by omega) hi)
          refine ⟨_, _, C, _, ρ, f, h1, fun τ => M_listByte h.m6 u2 hs h2 hi c5 h.2.1.1 (fun k hk hf => (ck k (by omega)).2.1 hf |>.2), dY.refl, h.T1.same rfl rfl rfl rfl rfl, hr.T1 hT rfl (by omega) (by omega), Or.inl ⟨rfl, rfl⟩⟩
  · exact CO1.ex h hr hT (Y_listByteD h.hF u1 hg) (fun τ => M_listByteD h.m6 u2)
section BKL
variable {o0 o1 nb ne bu uu rp j k k' : Nat} {bf bc : Nat → Nat}
theorem pS_find : k < pS bc nb → ∃ b t, b < nb ∧ t < bc b ∧ k = pS bc b + t := by
  induction nb with
  | zero => intro h; exact absurd h (Nat.not_lt_zero _)
  | succ b ih =>
    intro h
    by_cases h2 : k < pS bc b
    · obtain ⟨b', t, h1, h3, h4⟩ := ih h2
      exact ⟨b', t, by omega, h3, h4⟩
    · have e : pS bc (b + 1) = pS bc b + bc b := rfl
      exact ⟨b, k - pS bc b, by omega, by omega, by omega⟩
theorem BKb.at (h : BKb F ρ M f o0 nb bu uu j bf bc) (hk : k < M.1 2 j) : ∃ b t, b < nb ∧ t < bc b ∧ k = pS bc b + t ∧ M.1 7 (300 * j + k) = bf b + t ∧ M.1 8 (300 * j + k) = b := by
  rw [h.2.2.1.2.1] at hk
  obtain ⟨b, t, h1, h2, h3⟩ := pS_find hk
  have := h.2.2.2 b h1 t h2
  exact ⟨b, t, h1, h2, h3, by rw [h3]; exact this.1, by rw [h3]; exact this.2⟩
theorem BKb.num (h : BKb F ρ M f o0 nb bu uu j bf bc) (hk : k < M.1 2 j) : 1 ≤ M.1 7 (300 * j + k) ∧ M.1 7 (300 * j + k) ≤ 300 := by
  obtain ⟨b, t, h1, h2, h3, h4, h5⟩ := h.at hk
  have := (h.1 b h1).2
  omega
theorem BKb.lt (h : BKb F ρ M f o0 nb bu uu j bf bc) (hkk : k < k') (hk : k' < M.1 2 j) : M.1 7 (300 * j + k) < M.1 7 (300 * j + k') := by
  obtain ⟨b, t, h1, h2, h3, h4, h5⟩ := h.at (show k < M.1 2 j by omega)
  obtain ⟨b', t', h1', h2', h3', h4', h5'⟩ := h.at hk
  rw [h4, h4']
  rcases Nat.lt_trichotomy b b' with hb | hb | hb
  · have := h.2.1 b b' hb h1'
    omega
  · subst hb; omega
  · have e : pS bc (b' + 1) = pS bc b' + bc b' := rfl
    have := pS_mono (bc := bc) (show b' + 1 ≤ b by omega)
    omega
theorem BKb.inj (h : BKb F ρ M f o0 nb bu uu j bf bc) (hk : k < M.1 2 j) (hk' : k' < M.1 2 j) (he : M.1 7 (300 * j + k) = M.1 7 (300 * j + k')) : k = k' := by
  rcases Nat.lt_trichotomy k k' with hb | hb | hb
  · have := h.lt hb hk'; omega
  · exact hb
  · have := h.lt hb hk; omega
theorem BKe.hE (h : BKe F ρ M f o1 ne rp j) (hb : BKb F ρ M f o0 nb bu uu j bf bc) : ∀ t, t < ne → isEv F ρ (f o1 t) (M.1 7 (300 * j + M.1 13 (600 * j + t) / 2)) (1 - M.1 13 (600 * j + t) % 2) (evC M j (M.1 13 (600 * j + t))) (evD M j (M.1 13 (600 * j + t))) ∧ 1 - M.1 13 (600 * j + t) % 2 < 2 ∧ M.1 7 (300 * j + M.1 13 (600 * j + t) / 2) ≤ 1000 := by
  intro t ht
  obtain ⟨h1, h2, -⟩ := h.2.1 t ht
  have ho := hb.own
  have := hb.num (show M.1 13 (600 * j + t) / 2 < M.1 2 j by omega)
  exact ⟨h2, by omega, by omega⟩
theorem fate_eq {v : Int32} (hb : BKb F ρ M f o0 nb bu uu j bf bc) (he : BKe F ρ M f o1 ne rp j) : (∃ k, k < M.1 2 j ∧ zi (M.1 7 (300 * j + k)) = v ∧ (∀ i, i < k → ¬ zi (M.1 7 (300 * j + i)) = v) ∧ fEv (fun t => M.1 7 (300 * j + M.1 13 (600 * j + t) / 2)) (fun t => 1 - M.1 13 (600 * j + t) % 2) v (fBk bf bc v nb) ne = M.1 9 (300 * j + k)) ∨ ((∀ i, i < M.1 2 j → ¬ zi (M.1 7 (300 * j + i)) = v) ∧ fEv (fun t => M.1 7 (300 * j + M.1 13 (600 * j + t) / 2)) (fun t => 1 - M.1 13 (600 * j + t) % 2) v (fBk bf bc v nb) ne = 0) := by
  have ho := hb.own
  by_cases hx : ∃ k, k < M.1 2 j ∧ zi (M.1 7 (300 * j + k)) = v
  · obtain ⟨k, hk, rfl⟩ := hx
    have hnk := hb.num hk
    have hinj : ∀ i, i < M.1 2 j → (zi (M.1 7 (300 * j + i)) = zi (M.1 7 (300 * j + k)) ↔ i = k) := by
      intro i hi
      have hni := hb.num hi
      rw [zi_eq (by omega) (by omega)]
      exact ⟨fun h => hb.inj hi hk h, fun h => by rw [h]⟩
    refine Or.inl ⟨k, hk, rfl, fun i hi h => ?_, ?_⟩
    · have := (hinj i (by omega)).mp h; omega
    · have h1 : fBk bf bc (zi (M.1 7 (300 * j + k))) nb = 1 := by
        obtain ⟨b, t, h1, h2, h3, h4, h5⟩ := hb.at hk
        have hq := (hb.1 b h1).2
        refine fBk_1 h1 ?_
        rw [h4, zi_le (by omega) (by omega), zi_lt (by omega) (by omega)]
        omega
      rw [h1, he.2.2.1 k hk]
      have : ∀ t, t ≤ ne → fEv (fun t => M.1 7 (300 * j + M.1 13 (600 * j + t) / 2)) (fun t => 1 - M.1 13 (600 * j + t) % 2) (zi (M.1 7 (300 * j + k))) 1 t = lastE M j k t := by
        intro t
        induction t with
        | zero => intro _; rfl
        | succ t ih =>
          intro ht
          have h1 := (he.2.1 t (by omega)).1
          rw [fEv, lastE, ih (by omega)]
          have hq := hinj (M.1 13 (600 * j + t) / 2) (by omega)
          by_cases h2 : M.1 13 (600 * j + t) / 2 = k
          · rw [if_pos h2, if_pos (hq.mpr h2)]
            by_cases h3 : M.1 13 (600 * j + t) % 2 = 0
            · rw [h3]; rfl
            · rw [show M.1 13 (600 * j + t) % 2 = 1 by omega]; rfl
          · rw [if_neg h2, if_neg (fun h => h2 (hq.mp h))]
      exact this ne (Nat.le_refl _)
  · refine Or.inr ⟨fun i hi h => hx ⟨i, hi, h⟩, ?_⟩
    have h0 : fBk bf bc v nb = 0 := by
      refine fBk_0 (fun b hb1 => ?_)
      rintro ⟨h1, h2⟩
      have hq := (hb.1 b hb1).2
      rcases zi_cases v with hv | ⟨x, hv, rfl⟩
      · have h3 : zi (bf b) < 0 := Int32.lt_of_le_of_lt h1 hv
        exact absurd (show zi (bf b) < zi 0 from h3) (by rw [zi_lt (by omega) (by omega)]; omega)
      · rw [zi_le (by omega) hv] at h1
        rw [zi_lt hv (by omega)] at h2
        have h7 := (hb.2.2.2 b hb1 (x - bf b) (by omega)).1
        refine hx ⟨pS bc b + (x - bf b), ?_, ?_⟩
        · rw [hb.2.2.1.2.1]
          have e : pS bc (b + 1) = pS bc b + bc b := rfl
          have := pS_mono (bc := bc) (show b + 1 ≤ nb by omega)
          omega
        · rw [h7, show bf b + (x - bf b) = x by omega]
    rw [h0]
    have : ∀ t, t ≤ ne → fEv (fun t => M.1 7 (300 * j + M.1 13 (600 * j + t) / 2)) (fun t => 1 - M.1 13 (600 * j + t) % 2) v 0 t = 0 := by
      intro t
      induction t with
      | zero => intro _; rfl
      | succ t ih =>
        intro ht
        have h1 := (he.2.1 t (by omega)).1
        rw [fEv, ih (by omega), if_neg (fun h => hx ⟨_, by omega, h⟩)]
    exact this ne (Nat.le_refl _)
end BKL
theorem RR.nb (h : RR e S F n C M ρ f T) (hi : i < n) (hv : vw M i = i) (hs : s < 3) : BK F ρ M f (oLs i s 0) (oLs i s 1) (C.1 (oLs i s 0) 1) (C.1 (oLs i s 1) 1) (C.1 (oBs i s) 2) (C.1 (oBs i s) 3) (C.1 (oBs i s) 4) (3 * i + s) := by
  have h1 := (h.2.2.2.1 i hi).1.2 s hs
  rw [hv] at h1
  exact h1
theorem RR.fate {v : Int32} (h : RR e S F n C M ρ f T) (hi : i < n) (hv : vw M i = i) (hs : s < 3) : ∃ w, s_BranchSeries_fateOf g (S + oBs i s) v (cW S n C ρ) = some (zi w, cW S n C ρ) ∧ w < 128 ∧ ((∃ k, k < M.1 2 (3 * i + s) ∧ zi (M.1 7 (300 * (3 * i + s) + k)) = v ∧ (∀ i', i' < k → ¬ zi (M.1 7 (300 * (3 * i + s) + i')) = v) ∧ w = M.1 9 (300 * (3 * i + s) + k)) ∨ ((∀ i', i' < M.1 2 (3 * i + s) → ¬ zi (M.1 7 (300 * (3 * i + s) + i')) = v) ∧ w = 0)) := by
  obtain ⟨⟨bf, bc, hb⟩, he⟩ := h.nb hi hv hs
  have h1 := Y_fate (g := g) (v := v) (bf := bf) (bc := bc) (en := fun t => M.1 7 (300 * (3 * i + s) + M.1 13 (600 * (3 * i + s) + t) / 2)) (eu := fun t => 1 - M.1 13 (600 * (3 * i + s) + t) % 2) (ec := fun t => evC M (3 * i + s) (M.1 13 (600 * (3 * i + s) + t))) (ed := fun t => evD M (3 * i + s) (M.1 13 (600 * (3 * i + s) + t))) h.1 hi hs (fun b hb1 => ⟨(hb.1 b hb1).1, by have := (hb.1 b hb1).2; omega⟩) (fun t ht => ⟨(he.hE hb t ht).1, (he.hE hb t ht).2.1⟩)
  refine ⟨_, h1, ?_, ?_⟩
  · rcases fate_eq (v := v) hb he with ⟨k, -, -, -, h5⟩ | ⟨-, h5⟩
    · rw [h5]; exact mOK.b128 h.2.1.1 (j := 9) (by omega) _
    · rw [h5]; omega
  · rcases fate_eq (v := v) hb he with ⟨k, h2, h3, h4, h5⟩ | ⟨h4, h5⟩
    · exact Or.inl ⟨k, h2, h3, h4, h5⟩
    · exact Or.inr ⟨h4, h5⟩
theorem K_branchFate {x y z : Int32} (h : RR e S F n C M ρ f T) (hr : RO ρ M T A B) (hT : T < 512) : CO0 e S F n am A B M ρ T (s_No_branchFate g S x y z (cW S n C ρ)) (s_Mo_branchFate g am x y z) := by
  have hn := h.n6
  rcases ix x n with hx | ⟨i, hi, rfl⟩
  · exact CO0.same h hr hT (Y_bFateB hn hx) (fun τ => M_branchFateB h.m6 (by rw [h.2.1.2.2]; exact hx))
  · have hb : i < M.2.2.2.1 1 := by rw [h.2.1.2.2]; exact hi
    rcases h.uB hi with ⟨u1, u2, u3⟩ | ⟨u1, u2, u3⟩
    · rcases ix y 3 with hy | ⟨s, hs, rfl⟩
      · exact CO0.same h hr hT (Y_bFateS hn hi u1 hy) (fun τ => M_branchFateS h.m6 hb hy)
      · obtain ⟨w, h1, -, h2⟩ := h.fate (g := g) (v := z) hi u3 hs
        have ho := (h.nb hi u3 hs).own
        refine CO0.same h hr hT (Y_bFate hn hi u1 hs h1) (fun τ => ?_)
        rcases h2 with ⟨k, k1, k2, k3, rfl⟩ | ⟨k3, rfl⟩
        · exact M_branchFate h.m6 hb u2 h.2.1.1 hs ho.1 k1 k2 k3
        · exact M_branchFateN h.m6 hb u2 h.2.1.1 hs ho.1 k3
    · rcases ix y 3 with hy | ⟨s, hs, rfl⟩
      · exact CO0.same h hr hT (Y_bFateD hn hi u1) (fun τ => M_branchFateS h.m6 hb hy)
      · exact CO0.same h hr hT (Y_bFateD hn hi u1) (fun τ => M_branchFateD h.m6 hb hs u2)
theorem BR.lat (h : BR F ρ C M f n i) : latOK F ρ (C.2.2.2 (oBr i) 2) (M.1 14 i) := by
  rcases h.2.2.2.2 with ⟨h1, h2, -⟩ | ⟨h1, p, fr, h2, ⟨-, w, ev, h3, -⟩, -⟩
  · exact Or.inl ⟨h2, h1⟩
  · exact Or.inr ⟨p, _, w, ev, _, _, h2, h3⟩
theorem K_branch {x y : Int32} (h : RR e S F n C M ρ f T) (hr : RO ρ M T A B) (hT : T < 512) : CO0 e S F n am A B M ρ T (s_No_branch g S x y (cW S n C ρ)) (s_Mo_branch g am x y) := by
  have hn := h.n6
  rcases ix x n with hx | ⟨i, hi, rfl⟩
  · exact CO0.same h hr hT (Y_branchB hn hx) (fun τ => M_branchB h.m6 (by rw [h.2.1.2.2]; exact hx))
  · have hb : i < M.2.2.2.1 1 := by rw [h.2.1.2.2]; exact hi
    rcases h.uB hi with ⟨u1, u2, u3⟩ | ⟨u1, u2, u3⟩
    · have hB := h.2.2.2.1 i hi
      obtain ⟨w3, w4⟩ := hB.1.1
      rw [u3] at w3 w4
      have b18 := mOK.b2 h.2.1.1 (j := 18) (by omega) i
      have b19 := mOK.b2 h.2.1.1 (j := 19) (by omega) i
      have hs5 : ∀ s, s < 3 → C.1 (oLs i s 1) 1 = M.1 5 (3 * i + s) ∧ C.1 (oBs i s) 4 = M.1 6 (3 * i + s) ∧ C.1 (oBs i s) 4 ≤ C.1 (oLs i s 1) 1 := fun s hs => by
        obtain ⟨-, ⟨e5, e6, e7⟩, -⟩ := h.nb hi u3 hs
        exact ⟨e5.symm, e6.symm, e7⟩
      refine CO0.same h hr hT (Y_branch h.F1 hn hi u1 (by omega) (by omega) hB.lat (fun s hs => (hs5 s hs).2.2)) (fun τ => ?_)
      rw [M_branch h.m6 hb u2 h.2.1.1 (fun s hs => by have := hs5 s hs; omega)]
      have e1 : mBr M i y = cBr C i (M.1 14 i) y := by
        unfold mBr cBr
        rw [w3, w4, (hs5 0 (by omega)).1, (hs5 0 (by omega)).2.1, (hs5 1 (by omega)).1, (hs5 1 (by omega)).2.1, (hs5 2 (by omega)).1, (hs5 2 (by omega)).2.1]
        rfl
      rw [e1]
    · exact CO0.same h hr hT (Y_branchD hn hi u1) (fun τ => M_branchD h.m6 hb u2)
end CALL2
