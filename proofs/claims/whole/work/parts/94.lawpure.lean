theorem law_pure {g : zG} {σ : zS} {b L : Nat} {xs : Nat → Int32} (h : lawPre g σ b L xs) : lawGoal g σ b := by
  obtain ⟨hL, hnone, ⟨fs, hb, hfs⟩, ⟨e, hg0, hE⟩, hg10, hg21, h20, h22, h23, h24, h25⟩ := h
  have hbS : b < σ.1 := Nat.lt_of_not_le (fun hle => by rw [hnone b hle] at hb; cases hb)
  have heS : e < σ.1 := Nat.lt_of_not_le (fun hle => by rw [hnone e hle] at hE; cases hE)
  obtain ⟨n, hn, hx, hcl⟩ := clamp (if L = 0 then 0 else fs 0)
  obtain ⟨q, hq20, -⟩ := strAt.kst (ρ := σ) (t := []) h20 hnone rfl (fun j hj => absurd hj (Nat.not_lt_zero _)) (fun _ _ => rfl)
  have i0 : IW σ.1 σ 0 σ.2.1 (fun _ => .inr (0, [])) σ := ⟨rfl, rfl, fun _ _ => rfl, fun o ho => absurd ho (Nat.not_lt_zero _)⟩
  have i1 := i0.new (m := 3) (y := .inr (0, [.null, .null, .null]))
  obtain ⟨σ5, c5, r5, i5, hc5⟩ := I_no (g := g) (e := e) (q := q) (n := n) (v1 := if L = 0 then 0 else fs 0) i1 (va_up_self _ _ _) hg0 hq20 hn hx
  have j0 : IW (σ.1 + cF n) σ5 0 c5 (fun _ => .inr (0, [])) σ5 := ⟨i5.1, i5.2.1, fun _ _ => rfl, fun o ho => absurd ho (Nat.not_lt_zero _)⟩
  have j1 := j0.new (m := 40) (y := .inr (14, [.int 0, .int 0, .null, .null, .null, .null, .null, .null, .null, .null, .null, .null, .null, .null, .null, .null, .null, .null, .null, .null, .null, .null, .null, .null, .null, .null, .null, .null, .null, .null, .null, .null, .null, .null, .int 0, .null, .null, .int 0, .int 0, .int 0]))
  have j2 : IW (σ.1 + cF n) σ5 1 (c5 + 40) (cMo (σ.1 + cF n) n [.int 0, .int 0, .null, .null, .null, .null, .null, .null, .null, .null, .null, .null, .null, .null, .null, .null, .null, .null, .null, .null, .null, .null, .null, .null, .null, .null, .null, .null, .null, .null, .null, .null, .null, .null, .int 0, .null, .null, .int 0, .int 0, .int 0]) _ := j1.cg (fun x hx => by
    have h0 : x = 0 := by omega
    rw [h0, va_up_self]; unfold cMo; rw [if_pos rfl])
  obtain ⟨σ12, r12, i12⟩ := I_mod (g := g) (v1 := if L = 0 then 0 else fs 0) j2 hcl
  have hk5 : ∀ p, p < σ.1 → σ5.2.2 p = σ.2.2 p := i5.2.2.1
  have hk12 : ∀ p, p < σ.1 + cF n → σ12.2.2 p = σ5.2.2 p := i12.2.2.1
  have s12 : σ12.1 = σ.1 + cF n + 35 := i12.1
  have c12 := i12.2.1
  have hρlow : ∀ p, p < σ.1 + cF n + 35 → (znew σ12 1 (.inl (1, (1, .inr (.inl (fun _ => 0)))))).2.2 p = σ12.2.2 p := fun p hp => by rw [znew_at, if_neg (by omega)]
  have hρo : (znew σ12 1 (.inl (1, (1, .inr (.inl (fun _ => 0)))))).2.2 (σ.1 + cF n + 35) = some (true, .inl (1, 1, .inr (.inl (fun _ => 0)))) := by rw [znew_at, if_pos s12.symm]
  have hρ1 : (znew σ12 1 (.inl (1, (1, .inr (.inl (fun _ => 0)))))).1 = σ.1 + cF n + 36 := by show σ12.1 + 1 = _; omega
  have hρ2 : (znew σ12 1 (.inl (1, (1, .inr (.inl (fun _ => 0)))))).2.1 = σ12.2.1 + 1 := rfl
  generalize hρ : znew σ12 1 (.inl (1, (1, .inr (.inl (fun _ => 0))))) = ρ at hρlow hρo hρ1 hρ2
  have low : ∀ p, p < σ.1 → ρ.2.2 p = σ.2.2 p := fun p hp => by rw [hρlow p (by omega), hk12 p (by omega), hk5 p hp]
  have hcW : cW σ.1 n (C0 e q n) ρ = ρ := by
    refine Prod.ext rfl (Prod.ext rfl (funext (fun a => ?_)))
    show (if σ.1 ≤ a ∧ a < σ.1 + cF n then _ else ρ.2.2 a) = ρ.2.2 a
    by_cases ha : σ.1 ≤ a ∧ a < σ.1 + cF n
    · rw [if_pos ha, hρlow a (by omega), hk12 a ha.2]
      have := i5.2.2.2 (a - σ.1) (by omega)
      rw [show σ.1 + (a - σ.1) = a by omega] at this
      exact this.symm
    · rw [if_neg ha]
  have hmW : mW (σ.1 + cF n) (M0 n) ρ = ρ := by
    refine Prod.ext rfl (Prod.ext rfl (funext (fun a => ?_)))
    show (if σ.1 + cF n ≤ a ∧ a < σ.1 + cF n + 35 then _ else ρ.2.2 a) = ρ.2.2 a
    by_cases ha : σ.1 + cF n ≤ a ∧ a < σ.1 + cF n + 35
    · rw [if_pos ha, hρlow a ha.2]
      have := i12.2.2.2 (a - (σ.1 + cF n)) (by omega)
      rw [show σ.1 + cF n + (a - (σ.1 + cF n)) = a by omega] at this
      exact this.symm
    · rw [if_neg ha]
  obtain ⟨q', hq', hk20⟩ := strAt.kst (ρ := ρ) (t := []) h20 hnone rfl (fun j hj => absurd hj (Nat.not_lt_zero _)) low
  have hqq : q' = q := by rw [hq20] at hq'; exact (Option.some.inj hq').symm
  subst hqq
  have hstr : strC σ.1 (σ.1 + cF n + 36) ρ q' [] := by
    obtain ⟨v, x2, x3, B, h1, h2, h3, h4⟩ := hk20
    exact ⟨false, v, x2, x3, B, ⟨by omega, Or.inl h1.1⟩, ⟨by omega, Or.inl h1.2⟩, h2, h3, h4⟩
  have htx : txK g σ.1 ρ := by
    refine ⟨strAt.kst (t := [32, 85, 32]) h22 hnone rfl (fun j hj => ?_) low, strAt.kst (t := [32, 86, 32]) h23 hnone rfl (fun j hj => ?_) low, strAt.kst (t := [32, 76]) h24 hnone rfl (fun j hj => ?_) low, strAt.kst (t := [84, 32]) h25 hnone rfl (fun j hj => ?_) low⟩
    · have hj' : j < 3 := hj
      rcases (show j = 0 ∨ j = 1 ∨ j = 2 by omega) with rfl | rfl | rfl
      · exact ⟨32, by omega, rfl, rfl⟩
      · exact ⟨85, by omega, rfl, rfl⟩
      · exact ⟨32, by omega, rfl, rfl⟩
    · have hj' : j < 3 := hj
      rcases (show j = 0 ∨ j = 1 ∨ j = 2 by omega) with rfl | rfl | rfl
      · exact ⟨32, by omega, rfl, rfl⟩
      · exact ⟨86, by omega, rfl, rfl⟩
      · exact ⟨32, by omega, rfl, rfl⟩
    · have hj' : j < 2 := hj
      rcases (show j = 0 ∨ j = 1 by omega) with rfl | rfl
      · exact ⟨32, by omega, rfl, rfl⟩
      · exact ⟨76, by omega, rfl, rfl⟩
    · have hj' : j < 2 := hj
      rcases (show j = 0 ∨ j = 1 by omega) with rfl | rfl
      · exact ⟨84, by omega, rfl, rfl⟩
      · exact ⟨32, by omega, rfl, rfl⟩
  have hRR : RR e σ.1 (σ.1 + cF n + 36) n (C0 e q' n) (M0 n) ρ (fun _ _ => 0) 0 := RR.start heS (by omega) (by omega) hn (by rw [low e heS]; exact hE) hstr
  have hJR : JR g e σ.1 n b L ρ.1 ρ.2.1 xs (C0 e q' n) (M0 n) ρ (fun _ _ => 0) 0 := ⟨hRR, ⟨by omega, by omega, by omega⟩, hmW, ⟨_, hρo⟩, ⟨fs, by rw [low b hbS]; exact hb, hfs⟩, hbS, htx⟩
  obtain ⟨σf, f1, f2, f3⟩ := law_loop hL hg21 hg0 hg10 512 zfuel 0 (C0 e q' n) (M0 n) ρ (fun _ _ => 0) rfl (by unfold zfuel; omega) hJR
  have hcF : cF n ≤ 106 := by unfold cF; omega
  refine ⟨σf, ?_, by omega, ?_⟩
  · rw [hcW] at f1
    have k1 : (znew σ 3 (.inr (0, [.null, .null, .null]))).2.2 b = some (false, .inl (0, L, .inl fs)) := by rw [znew_at, if_neg (by omega)]; exact hb
    have k8 : (znew σ5 40 (.inr (14, [.int 0, .int 0, .null, .null, .null, .null, .null, .null, .null, .null, .null, .null, .null, .null, .null, .null, .null, .null, .null, .null, .null, .null, .null, .null, .null, .null, .null, .null, .null, .null, .null, .null, .null, .null, .int 0, .null, .null, .int 0, .int 0, .int 0]))).2.2 b = some (false, .inl (0, L, .inl fs)) := by
      have := i5.1
      rw [znew_at, if_neg (by omega), hk5 b hbS]; exact hb
    have s5 : σ5.1 = σ.1 + cF n := i5.1
    unfold s_Law_law
    rw [Option.bind_some, law_cell hL k1, Option.bind_some]
    dsimp only
    rw [r5, Option.bind_some, Option.bind_some, law_cell hL k8, Option.bind_some]
    dsimp only
    rw [s5, r12, Option.bind_some, show zlen 1 = some 1 by decide, Option.bind_some, Option.bind_some, hρ, s12]
    exact f1
  · have : c5 ≤ σ.2.1 + 3 + 8000 := hc5
    omega
