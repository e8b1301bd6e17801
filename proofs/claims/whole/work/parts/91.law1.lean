section LAW1
variable {g : zG} {e S n b L A B T : Nat} {C C' : cS} {M M' : mS} {ρ ρ' : zS} {f f' : Nat → Nat → Nat} {xs : Nat → Int32}
/-- what both sides stand in -/
def JJ (g : zG) (S n b L : Nat) (xs : Nat → Int32) (M : mS) (ρ : zS) : Prop := mW (S + cF n) M ρ = ρ ∧ (∃ h, ρ.2.2 (S + cF n + 35) = some (true, .inl (1, 1, .inr (.inl h)))) ∧ (∃ fs, ρ.2.2 b = some (false, .inl (0, L, .inl fs)) ∧ ∀ j, j < L → fs j = xs j) ∧ b < S ∧ txK g S ρ
def JR (g : zG) (e S n b L A B : Nat) (xs : Nat → Int32) (C : cS) (M : mS) (ρ : zS) (f : Nat → Nat → Nat) (T : Nat) : Prop := RR e S (S + cF n + 36) n C M ρ f T ∧ RO ρ M T A B ∧ JJ g S n b L xs M ρ
theorem mW_cW : mW (S + cF n) M (cW S n C ρ) = cW S n C (mW (S + cF n) M ρ) := by
  unfold mW cW
  refine Prod.ext rfl (Prod.ext rfl (funext (fun a => ?_)))
  show (if S + cF n ≤ a ∧ a < S + cF n + 35 then _ else if S ≤ a ∧ a < S + cF n then _ else ρ.2.2 a) = (if S ≤ a ∧ a < S + cF n then _ else if S + cF n ≤ a ∧ a < S + cF n + 35 then _ else ρ.2.2 a)
  by_cases h1 : S + cF n ≤ a ∧ a < S + cF n + 35
  · rw [if_pos h1, if_neg (by omega), if_pos h1]
  · rw [if_neg h1, if_neg h1]
theorem kst.keep {q : Nat} {t : List Nat} (h : kst S ρ q t) (hx : ∀ p, p < S → (∀ b x, ¬ ρ.2.2 p = some (b, .inl (10, x))) → ρ'.2.2 p = ρ.2.2 p) : kst S ρ' q t := by
  obtain ⟨v, x2, x3, B, h1, h2, h3, h4⟩ := h
  refine ⟨v, x2, x3, B, h1, ?_, ?_, h4⟩
  · rw [hx q h1.1 (fun b x hq => by rw [h2] at hq; cases hq)]; exact h2
  · rw [hx v h1.2 (fun b x hq => by rw [h3] at hq; cases hq)]; exact h3
theorem txK.keep (h : txK g S ρ) (hx : ∀ p, p < S → (∀ b x, ¬ ρ.2.2 p = some (b, .inl (10, x))) → ρ'.2.2 p = ρ.2.2 p) : txK g S ρ' := by
  obtain ⟨⟨q1, a1, b1⟩, ⟨q2, a2, b2⟩, ⟨q3, a3, b3⟩, q4, a4, b4⟩ := h
  exact ⟨⟨q1, a1, b1.keep hx⟩, ⟨q2, a2, b2.keep hx⟩, ⟨q3, a3, b3.keep hx⟩, q4, a4, b4.keep hx⟩
theorem mcell_n10 {am j : Nat} (hj : j < 35) : ∀ x, ¬ mcell am M j = .inl (10, x) := by
  intro x
  unfold mcell
  by_cases h0 : j = 0
  · rw [if_pos h0]; intro h; cases h
  · rw [if_neg h0]
    rcases (show j = 1 ∨ j = 2 ∨ j = 3 ∨ j = 4 ∨ j = 5 ∨ j = 6 ∨ j = 7 ∨ j = 8 ∨ j = 9 ∨ j = 10 ∨ j = 11 ∨ j = 12 ∨ j = 13 ∨ j = 14 ∨ j = 15 ∨ j = 16 ∨ j = 17 ∨ j = 18 ∨ j = 19 ∨ j = 20 ∨ j = 21 ∨ j = 22 ∨ j = 23 ∨ j = 24 ∨ j = 25 ∨ j = 26 ∨ j = 27 ∨ j = 28 ∨ j = 29 ∨ j = 30 ∨ j = 31 ∨ j = 32 ∨ j = 33 ∨ j = 34 by omega) with rfl | rfl | rfl | rfl | rfl | rfl | rfl | rfl | rfl | rfl | rfl | rfl | rfl | rfl | rfl | rfl | rfl | rfl | rfl | rfl | rfl | rfl | rfl | rfl | rfl | rfl | rfl | rfl | rfl | rfl | rfl | rfl | rfl | rfl
    all_goals (intro h; revert h; unfold mtab; intro h; injection h with h; injection h with h; cases h)
theorem JJ.cell (h : JJ g S n b L xs M ρ) {p : Nat} (hp : S + cF n ≤ p ∧ p < S + cF n + 35) : ρ.2.2 p = some (true, mcell (S + cF n) M (p - (S + cF n))) := by
  have h1 := h.1
  rw [← h1]
  show (if S + cF n ≤ p ∧ p < S + cF n + 35 then _ else _) = _
  rw [if_pos hp]
theorem JJ.dy (h : JJ g S n b L xs M ρ) (hx : dY ρ ρ') (hF : S + cF n + 36 ≤ ρ.1) : JJ g S n b L xs M ρ' := by
  obtain ⟨h1, ⟨hh, h2⟩, ⟨fs, h3, h4⟩, h5, h6⟩ := h
  have hJ : JJ g S n b L xs M ρ := ⟨h1, ⟨hh, h2⟩, ⟨fs, h3, h4⟩, h5, h6⟩
  refine ⟨?_, ⟨hh, ?_⟩, ⟨fs, ?_, h4⟩, h5, h6.keep (fun p hp hn => hx.2 p (by omega) hn)⟩
  · unfold mW
    refine Prod.ext rfl (Prod.ext rfl (funext (fun a => ?_)))
    show (if S + cF n ≤ a ∧ a < S + cF n + 35 then _ else ρ'.2.2 a) = ρ'.2.2 a
    by_cases ha : S + cF n ≤ a ∧ a < S + cF n + 35
    · rw [if_pos ha]
      have hc := hJ.cell ha
      rw [hx.2 a (by omega) (fun b x hq => by rw [hc] at hq; injection hq with hq; injection hq with _ hq; exact mcell_n10 (by omega) x hq), hc]
    · rw [if_neg ha]
  · rw [hx.2 _ (by omega) (fun b x hq => by rw [h2] at hq; cases hq)]; exact h2
  · rw [hx.2 _ (by omega) (fun b x hq => by rw [h3] at hq; cases hq)]; exact h3
/-- the world with another state of the reference, another answer laid down -/
theorem RR.mw {F : Nat} (h : RR e S F n C M ρ f T) (h1 : ρ'.1 = ρ.1) (h2 : ∀ p, (p < S ∨ F ≤ p) → ρ'.2.2 p = ρ.2.2 p) : RR e S F n C M ρ' f T :=
  h.kpx ⟨Nat.le_of_eq h1.symm, fun p hp _ _ => h2 p hp⟩ (h.1.mono (fun _ _ _ => ⟨rfl, rfl⟩) (Nat.le_of_eq h1.symm) (fun p _ hp => h2 p hp))
theorem RO.mw (h : RO ρ M T A B) (h1 : ρ'.1 = ρ.1) (h2 : ρ'.2.1 = ρ.2.1) : RO ρ' M T A B := by
  unfold RO
  rw [h1, h2]; exact h
theorem JJ.mw (h : JJ g S n b L xs M ρ) : JJ g S n b L xs M' (mW (S + cF n) M' ρ) := by
  obtain ⟨h1, ⟨hh, h2⟩, ⟨fs, h3, h4⟩, h5, h6⟩ := h
  have ho : ∀ a, ¬ (S + cF n ≤ a ∧ a < S + cF n + 35) → (mW (S + cF n) M' ρ).2.2 a = ρ.2.2 a := fun a ha => by
    show (if S + cF n ≤ a ∧ a < S + cF n + 35 then _ else ρ.2.2 a) = _
    rw [if_neg ha]
  refine ⟨?_, ⟨hh, by rw [ho _ (by omega)]; exact h2⟩, ⟨fs, by rw [ho _ (by omega)]; exact h3, h4⟩, h5, h6.keep (fun p hp _ => ho p (by omega))⟩
  refine Prod.ext rfl (Prod.ext rfl (funext (fun a => ?_)))
  show (if S + cF n ≤ a ∧ a < S + cF n + 35 then _ else (if S + cF n ≤ a ∧ a < S + cF n + 35 then _ else ρ.2.2 a)) = (if S + cF n ≤ a ∧ a < S + cF n + 35 then _ else ρ.2.2 a)
  by_cases ha : S + cF n ≤ a ∧ a < S + cF n + 35
  · rw [if_pos ha, if_pos ha]
  · rw [if_neg ha, if_neg ha]
theorem JJ.at (h : JJ g S n b L xs M ρ) (hL : L ≤ 3073) {j : Nat} (hj : j < L) : zaI (cW S n C ρ) b 0 (zi j) = some (xs j) := by
  obtain ⟨-, -, ⟨fs, h3, h4⟩, h5, -⟩ := h
  have hc : (cW S n C ρ).2.2 b = some (false, .inl (0, L, .inl fs)) := by rw [cW_out (Or.inl h5)]; exact h3
  unfold zaI zar
  rw [hc]
  dsimp only
  rw [if_pos rfl]
  dsimp only
  rw [if_neg (zi_in hj (by omega)), zi_nat (by omega), h4 j hj]
theorem JJ.len (h : JJ g S n b L xs M ρ) : zal (cW S n C ρ) b 0 = some (zi L) := by
  obtain ⟨-, -, ⟨fs, h3, h4⟩, h5, -⟩ := h
  have hc : (cW S n C ρ).2.2 b = some (false, .inl (0, L, .inl fs)) := by rw [cW_out (Or.inl h5)]; exact h3
  unfold zal zar
  rw [hc]
  dsimp only
  rw [if_pos rfl]
  rfl
theorem JJ.is (h : JJ g S n b L xs M ρ) : zis (cW S n C ρ) (S + cF n) 14 = some () := by
  have h1 := h.1
  rw [← h1, ← mW_cW]
  exact m_is
theorem JJ.mo {α : Type} {mo : zS → Option (α × zS)} {y : α} (h : JJ g S n b L xs M ρ) (hm : ∀ τ, mo (mW (S + cF n) M τ) = some (y, mW (S + cF n) M' τ)) : mo (cW S n C ρ) = some (y, cW S n C (mW (S + cF n) M' ρ)) := by
  have h1 := h.1
  have h2 : cW S n C ρ = mW (S + cF n) M (cW S n C ρ) := by rw [mW_cW, h1]
  rw [h2, hm, ← mW_cW]
theorem JR.co0 {run : Option (Int32 × zS)} {mo : zS → Option (Int32 × zS)} (hJ : JR g e S n b L A B xs C M ρ f T) (hL : L ≤ 3073) (hc : CO0 e S (S + cF n + 36) n (S + cF n) A B M ρ T run mo) : ∃ v C1 ρ1 C' M' ρ' f', run = some (v, cW S n C1 ρ1) ∧ (∀ j, j < L → zaI (cW S n C1 ρ1) b 0 (zi j) = some (xs j)) ∧ zis (cW S n C1 ρ1) (S + cF n) 14 = some () ∧ mo (cW S n C1 ρ1) = some (v, cW S n C' ρ') ∧ JR g e S n b L A B xs C' M' ρ' f' (T + 1) := by
  obtain ⟨hR, hO, hW⟩ := hJ
  obtain ⟨v, C1, M1, ρ1, f1, h1, h2, h3, h4, h5⟩ := hc
  have hW1 := hW.dy h3 hR.F2
  refine ⟨v, C1, ρ1, C1, M1, mW (S + cF n) M1 ρ1, f1, h1, fun j hj => hW1.at hL hj, hW1.is, hW1.mo h2, h4.mw rfl (fun p hp => ?_), h5.mw rfl rfl, hW1.mw⟩
  show (if S + cF n ≤ p ∧ p < S + cF n + 35 then _ else ρ1.2.2 p) = _
  rw [if_neg (by omega)]
theorem JR.co1 {α : Type} {run : Option ((α ⊕ Nat) × zS)} {mo : zS → Option (α × zS)} (cv : α → Int64) (hJ : JR g e S n b L A B xs C M ρ f T) (hL : L ≤ 3073) (hc : CO1 e S (S + cF n + 36) n (S + cF n) A B M ρ T run mo) : ∃ c C1 ρ1 C' M' ρ' f' y, (∃ x C2 ρ2, run = some (x, cW S n C2 ρ2) ∧ ((x = .inl y ∧ c = 0 ∧ zsL (cW S n C2 ρ2) (S + cF n + 35) 1 0 (cv y) = some (cW S n C1 ρ1)) ∨ (∃ a, x = .inr a ∧ c = 1 ∧ zis (cW S n C2 ρ2) a 8 = some () ∧ cW S n C2 ρ2 = cW S n C1 ρ1))) ∧ (∀ j, j < L → zaI (cW S n C1 ρ1) b 0 (zi j) = some (xs j)) ∧ zis (cW S n C1 ρ1) (S + cF n) 14 = some () ∧ mo (cW S n C1 ρ1) = some (y, cW S n C' ρ') ∧ zis (cW S n C' ρ') (S + cF n) 14 = some () ∧ s_Mo_thrown g (S + cF n) (cW S n C' ρ') = some (zi c, cW S n C' ρ') ∧ ((c = 0 ∧ zaL (cW S n C' ρ') (S + cF n + 35) 1 0 = some (cv y)) ∨ c = 1) ∧ JR g e S n b L A B xs C' M' ρ' f' (T + 1) := by
  obtain ⟨hR, hO, hW⟩ := hJ
  obtain ⟨x, y, C1, M1, ρ1, f1, h1, h2, h3, h4, h5, h6⟩ := hc
  have hW1 := hW.dy h3 hR.F2
  have hthr : ∀ τ, JJ g S n b L xs M1 τ → s_Mo_thrown g (S + cF n) (cW S n C1 τ) = some (zi (M1.2.2.2.1 0), cW S n C1 τ) := fun τ hτ => by
    have h1 := hτ.1
    rw [← h1, ← mW_cW]
    unfold s_Mo_thrown
    rw [m_g0, Option.bind_some]
  rcases h6 with ⟨hx, h7⟩ | ⟨a, hx, h7, h8⟩
  · subst hx
    obtain ⟨hh, ho⟩ := hW1.2.1
    have hst : zsL (cW S n C1 ρ1) (S + cF n + 35) 1 0 (cv y) = some (cW S n C1 (zupd ρ1 (S + cF n + 35) (.inl (1, 1, .inr (.inl (vp_updL hh 0 (cv y))))))) := by
      have hc : (cW S n C1 ρ1).2.2 (S + cF n + 35) = some (true, .inl (1, 1, .inr (.inl hh))) := by rw [cW_out (Or.inr (by omega))]; exact ho
      unfold zsL zar
      rw [hc]
      dsimp only
      rw [if_pos rfl]
      dsimp only
      have ho2 : zown (cW S n C1 ρ1) (S + cF n + 35) = true := by unfold zown; rw [hc]
      rw [if_neg (by rw [ho2]; decide)]
      congr 1
      unfold zupd cW
      refine Prod.ext rfl (Prod.ext rfl (funext (fun a => ?_)))
      show va_up _ _ _ a = (if S ≤ a ∧ a < S + cF n then _ else va_up _ _ _ a)
      by_cases ha : a = S + cF n + 35
      · subst ha
        rw [va_up_self, if_neg (by omega), va_up_self]; rfl
      · rw [va_up_ne _ _ ha, va_up_ne _ _ ha]
    generalize hρ2 : zupd ρ1 (S + cF n + 35) (.inl (1, 1, .inr (.inl (vp_updL hh 0 (cv y))))) = ρ2 at hst
    have hρo : ∀ p, ¬ p = S + cF n + 35 → ρ2.2.2 p = ρ1.2.2 p := fun p hp => by rw [← hρ2]; exact va_up_ne _ _ hp
    have hρe : ρ2.2.2 (S + cF n + 35) = some (true, .inl (1, 1, .inr (.inl (vp_updL hh 0 (cv y))))) := by rw [← hρ2]; exact va_up_self _ _ _
    have hs1 : ρ2.1 = ρ1.1 ∧ ρ2.2.1 = ρ1.2.1 := by rw [← hρ2]; exact ⟨rfl, rfl⟩
    have hW2 : JJ g S n b L xs M ρ2 := by
      obtain ⟨w1, -, ⟨fs, w3, w4⟩, w5, w6⟩ := hW1
      refine ⟨?_, ⟨_, hρe⟩, ⟨fs, by rw [hρo _ (by omega)]; exact w3, w4⟩, w5, w6.keep (fun p hp _ => hρo p (by omega))⟩
      refine Prod.ext rfl (Prod.ext rfl (funext (fun a => ?_)))
      show (if S + cF n ≤ a ∧ a < S + cF n + 35 then _ else ρ2.2.2 a) = ρ2.2.2 a
      by_cases ha : S + cF n ≤ a ∧ a < S + cF n + 35
      · rw [if_pos ha, hρo a (by omega)]
        exact (JJ.cell ⟨w1, ⟨hh, ho⟩, ⟨fs, w3, w4⟩, w5, w6⟩ ha).symm
      · rw [if_neg ha]
    refine ⟨0, C1, ρ2, C1, M1, mW (S + cF n) M1 ρ2, f1, y, ?_, fun j hj => hW2.at hL hj, hW2.is, hW2.mo h2, hW2.mw.is, ?_, Or.inl ⟨rfl, ?_⟩, h4.mw hs1.1 (fun p hp => ?_), h5.mw hs1.1 hs1.2, hW2.mw⟩
    · exact ⟨_, _, _, h1, Or.inl ⟨rfl, rfl, hst⟩⟩
    · rw [hthr _ hW2.mw, h7]
    · have hc : (cW S n C1 (mW (S + cF n) M1 ρ2)).2.2 (S + cF n + 35) = some (true, .inl (1, 1, .inr (.inl (vp_updL hh 0 (cv y))))) := by
        rw [cW_out (Or.inr (by omega))]
        show (if S + cF n ≤ S + cF n + 35 ∧ S + cF n + 35 < S + cF n + 35 then _ else ρ2.2.2 _) = _
        rw [if_neg (by omega)]; exact hρe
      unfold zaL zar
      rw [hc]
      dsimp only
      rw [if_pos rfl]
      rfl
    · show (if S + cF n ≤ p ∧ p < S + cF n + 35 then _ else ρ2.2.2 p) = _
      rw [if_neg (by omega), hρo p (by omega)]
  · subst hx
    refine ⟨1, C1, ρ1, C1, M1, mW (S + cF n) M1 ρ1, f1, y, ?_, fun j hj => hW1.at hL hj, hW1.is, hW1.mo h2, hW1.mw.is, ?_, Or.inr rfl, h4.mw rfl (fun p hp => ?_), h5.mw rfl rfl, hW1.mw⟩
    · exact ⟨_, _, _, h1, Or.inr ⟨a, rfl, rfl, h8, rfl⟩⟩
    · rw [hthr _ hW1.mw, h7]
    · show (if S + cF n ≤ p ∧ p < S + cF n + 35 then _ else ρ1.2.2 p) = _
      rw [if_neg (by omega)]
end LAW1
