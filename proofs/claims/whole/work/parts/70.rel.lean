section REL
variable {e S F n i s : Nat} {C C' : cS} {M M' : mS} {ρ ρ' : zS} {f f' : Nat → Nat → Nat}
/-- what stays when worlds grow -/
def kp (S F : Nat) (ρ ρ' : zS) : Prop := ρ.1 ≤ ρ'.1 ∧ ∀ p, (p < S ∨ F ≤ p) → p < ρ.1 → (∀ b x, ¬ ρ.2.2 p = some (b, .inl (10, x))) → ρ'.2.2 p = ρ.2.2 p
theorem kp.refl : kp S F ρ ρ := ⟨Nat.le_refl _, fun _ _ _ _ => rfl⟩
theorem kp.dx (h : dX ρ ρ') : kp S F ρ ρ' := ⟨h.1.1, fun p _ hp hx => h.2 p hp hx⟩
theorem kp.trans {ρ'' : zS} (h1 : kp S F ρ ρ') (h2 : kp S F ρ' ρ'') : kp S F ρ ρ'' := ⟨Nat.le_trans h1.1 h2.1, fun p hp hl hx => by
  have e1 := h1.2 p hp hl hx
  rw [← e1]
  exact h2.2 p hp (Nat.lt_of_lt_of_le hl h1.1) (fun b x hq => hx b x (by rw [← e1]; exact hq))⟩
theorem kp.all (h : ρ.1 ≤ ρ'.1) (h2 : ∀ p, p < ρ.1 → (p < S ∨ F ≤ p) → ρ'.2.2 p = ρ.2.2 p) : kp S F ρ ρ' := ⟨h, fun p hp hl _ => h2 p hl hp⟩
theorem kp.ob {p ci : Nat} {fs : List Value} (hk : kp S F ρ ρ') (h : dOb F ρ p ci fs) : dOb F ρ' p ci fs := by
  refine ⟨h.1, Nat.lt_of_lt_of_le h.2.1 hk.1, ?_⟩
  rw [hk.2 p (Or.inr h.1) h.2.1 (fun b x hq => by rw [h.2.2] at hq; cases hq)]
  exact h.2.2
theorem kp.ev {p len : Nat} {G : Nat → Option Nat} (hk : kp S F ρ ρ') (h : isEvA F ρ p len G) : isEvA F ρ' p len G := by
  refine ⟨h.1, Nat.lt_of_lt_of_le h.2.1 hk.1, ?_⟩
  rw [hk.2 p (Or.inr h.1) h.2.1 (fun b x hq => by rw [h.2.2] at hq; cases hq)]
  exact h.2.2
theorem kp.st {p : Nat} {l : List Nat} (hk : kp S F ρ ρ') (h : strC S F ρ p l) : strC S F ρ' p l := by
  obtain ⟨b, v, x2, x3, B, h1, h2, h3, h4, h5⟩ := h
  refine ⟨b, v, x2, x3, B, ⟨Nat.lt_of_lt_of_le h1.1 hk.1, h1.2⟩, ⟨Nat.lt_of_lt_of_le h2.1 hk.1, h2.2⟩, ?_, ?_, h5⟩
  · rw [hk.2 p h1.2 h1.1 (fun b x hq => by rw [h3] at hq; cases hq)]
    exact h3
  · rw [hk.2 v h2.2 h2.1 (fun b x hq => by rw [h4] at hq; cases hq)]
    exact h4
/-- sums of the first entries -/
def pS (bc : Nat → Nat) : Nat → Nat
  | 0 => 0
  | b + 1 => pS bc b + bc b
def evC (M : mS) (j x : Nat) : Int64 := if x % 2 = 0 then M.2.2.1 10 (300 * j + x / 2) else 0
def evD (M : mS) (j x : Nat) : Int32 := if x % 2 = 0 then M.2.1 11 (300 * j + x / 2) else zi (M.1 12 (300 * j + x / 2))
/-- the state of number k by the latest of the first t events -/
def lastE (M : mS) (j k : Nat) : Nat → Nat
  | 0 => 1
  | t + 1 => if M.1 13 (600 * j + t) / 2 = k then 2 + M.1 13 (600 * j + t) % 2 else lastE M j k t
def BKb (F : Nat) (ρ : zS) (M : mS) (f : Nat → Nat → Nat) (o0 nb bu uu j : Nat) (bf bc : Nat → Nat) : Prop :=
  (∀ b, b < nb → isBlk F ρ (f o0 b) (bf b) (bc b) ∧ (1 ≤ bc b ∧ 1 ≤ bf b ∧ bf b + bc b ≤ 301)) ∧
  (∀ b b', b < b' → b' < nb → bf b + bc b ≤ bf b') ∧
  (M.1 4 j = nb ∧ M.1 2 j = pS bc nb ∧ M.1 3 j = pS bc bu + uu ∧ ((bu < nb ∧ uu < bc bu) ∨ (bu = nb ∧ uu = 0))) ∧
  (∀ b, b < nb → ∀ t, t < bc b → M.1 7 (300 * j + (pS bc b + t)) = bf b + t ∧ M.1 8 (300 * j + (pS bc b + t)) = b)
def BKe (F : Nat) (ρ : zS) (M : mS) (f : Nat → Nat → Nat) (o1 ne rp j : Nat) : Prop :=
  (M.1 5 j = ne ∧ M.1 6 j = rp ∧ rp ≤ ne) ∧
  (∀ t, t < ne → M.1 13 (600 * j + t) / 2 < M.1 3 j ∧ isEv F ρ (f o1 t) (M.1 7 (300 * j + M.1 13 (600 * j + t) / 2)) (1 - M.1 13 (600 * j + t) % 2) (evC M j (M.1 13 (600 * j + t))) (evD M j (M.1 13 (600 * j + t))) ∧ (M.1 13 (600 * j + t) % 2 = 0 → ∃ p, 1 ≤ p ∧ p ≤ 1000000000000 ∧ M.2.2.1 10 (300 * j + M.1 13 (600 * j + t) / 2) = zl p)) ∧
  (∀ k, k < M.1 2 j → M.1 9 (300 * j + k) = lastE M j k ne) ∧
  (∀ t t', t < t' → t' < ne → M.1 13 (600 * j + t) % 2 = 0 → M.1 13 (600 * j + t') % 2 = 0 → M.1 13 (600 * j + t) < M.1 13 (600 * j + t')) ∧
  (∀ k, k < M.1 3 j → ¬ M.2.2.1 10 (300 * j + k) = 0 → ∃ t, t < ne ∧ M.1 13 (600 * j + t) = 2 * k) ∧
  (∀ t t', t < t' → t' < ne → M.1 13 (600 * j + t) / 2 = M.1 13 (600 * j + t') / 2 → M.1 13 (600 * j + t) % 2 = 0 ∧ M.1 13 (600 * j + t') % 2 = 1)
/-- a branch's book on both sides -/
def BK (F : Nat) (ρ : zS) (M : mS) (f : Nat → Nat → Nat) (o0 o1 nb ne bu uu rp j : Nat) : Prop := (∃ bf bc : Nat → Nat, BKb F ρ M f o0 nb bu uu j bf bc) ∧ BKe F ρ M f o1 ne rp j
/-- book j of M stands as book j' in M' -/
def sK (M M' : mS) (j j' : Nat) : Prop := (∀ r, 2 ≤ r → r ≤ 6 → M'.1 r j' = M.1 r j) ∧ (∀ k, k < M.1 2 j → (M'.1 7 (300 * j' + k) = M.1 7 (300 * j + k) ∧ M'.1 8 (300 * j' + k) = M.1 8 (300 * j + k) ∧ M'.1 9 (300 * j' + k) = M.1 9 (300 * j + k) ∧ M'.1 12 (300 * j' + k) = M.1 12 (300 * j + k)) ∧ M'.2.1 11 (300 * j' + k) = M.2.1 11 (300 * j + k) ∧ M'.2.2.1 10 (300 * j' + k) = M.2.2.1 10 (300 * j + k)) ∧ (∀ t, t < M.1 5 j → M'.1 13 (600 * j' + t) = M.1 13 (600 * j + t))
theorem sK.refl {j : Nat} : sK M M j j := ⟨fun _ _ _ => rfl, fun _ _ => ⟨⟨rfl, rfl, rfl, rfl⟩, rfl, rfl⟩, fun _ _ => rfl⟩
section BK
variable {o0 o1 nb ne bu uu rp j j' : Nat} {bf bc : Nat → Nat}
theorem pS_mono (h : nb ≤ ne) : pS bc nb ≤ pS bc ne := by
  induction ne with
  | zero => rw [show nb = 0 by omega]; exact Nat.le_refl _
  | succ k ih =>
    by_cases h2 : nb = k + 1
    · rw [h2]; exact Nat.le_refl _
    · have := ih (by omega)
      show pS bc nb ≤ pS bc k + bc k
      omega
theorem BKb.pos (h : BKb F ρ M f o0 nb bu uu j bf bc) : ∀ b, b < nb → pS bc b + 1 ≤ bf b := by
  intro b
  induction b with
  | zero => intro hb; exact (h.1 0 hb).2.2.1
  | succ b ih =>
    intro hb
    have h1 := ih (by omega)
    have h2 := h.2.1 b (b + 1) (by omega) hb
    show pS bc b + bc b + 1 ≤ _
    omega
theorem BKb.own (h : BKb F ρ M f o0 nb bu uu j bf bc) : M.1 2 j ≤ 300 ∧ M.1 3 j ≤ M.1 2 j := by
  have h2 : pS bc nb ≤ 300 := by
    cases nb with
    | zero => exact Nat.zero_le _
    | succ b =>
      have h1 := h.pos b (by omega)
      have h3 := (h.1 b (by omega)).2.2.2
      show pS bc b + bc b ≤ 300
      omega
  obtain ⟨-, -, ⟨-, e2, e3, hu⟩, -⟩ := h
  refine ⟨by omega, ?_⟩
  rw [e2, e3]
  rcases hu with ⟨h1, h3⟩ | ⟨h1, h3⟩
  · have := pS_mono (bc := bc) (show bu + 1 ≤ nb by omega)
    have e : pS bc (bu + 1) = pS bc bu + bc bu := rfl
    omega
  · rw [h1, h3]; exact Nat.le_refl _
theorem BK.own (h : BK F ρ M f o0 o1 nb ne bu uu rp j) : M.1 2 j ≤ 300 ∧ M.1 3 j ≤ M.1 2 j := by
  obtain ⟨⟨bf, bc, h⟩, -⟩ := h
  exact h.own
theorem BK.kp (h : BK F ρ M f o0 o1 nb ne bu uu rp j) (hk : kp S F ρ ρ') : BK F ρ' M f o0 o1 nb ne bu uu rp j := by
  obtain ⟨⟨bf, bc, h1, h2⟩, h3, h4, h5⟩ := h
  exact ⟨⟨bf, bc, fun b hb => ⟨hk.ob (h1 b hb).1, (h1 b hb).2⟩, h2⟩, h3, fun t ht => ⟨(h4 t ht).1, hk.ob (h4 t ht).2.1, (h4 t ht).2.2⟩, h5⟩
theorem BK.ff (h : BK F ρ M f o0 o1 nb ne bu uu rp j) (h0 : ∀ b, b < nb → f' o0 b = f o0 b) (h1 : ∀ t, t < ne → f' o1 t = f o1 t) : BK F ρ M f' o0 o1 nb ne bu uu rp j := by
  obtain ⟨⟨bf, bc, g1, g2⟩, g3, g4, g5⟩ := h
  refine ⟨⟨bf, bc, fun b hb => ?_, g2⟩, g3, fun t ht => ?_, g5⟩
  · rw [h0 b hb]; exact g1 b hb
  · rw [h1 t ht]; exact g4 t ht
theorem lastE_K (h : ∀ t, t < ne → M'.1 13 (600 * j' + t) = M.1 13 (600 * j + t)) {k : Nat} : ∀ t, t ≤ ne → lastE M' j' k t = lastE M j k t := by
  intro t
  induction t with
  | zero => intro _; rfl
  | succ t ih =>
    intro ht
    rw [lastE, lastE, h t (by omega), ih (by omega)]
theorem BK.k (h : BK F ρ M f o0 o1 nb ne bu uu rp j) (hk : sK M M' j j') : BK F ρ M' f o0 o1 nb ne bu uu rp j' := by
  have ho := h.own
  obtain ⟨⟨bf, bc, h1, h2, ⟨e4, e2, e3, hu⟩, h7⟩, ⟨e5, e6, e7⟩, g4, g5, g6, g7, g8⟩ := h
  obtain ⟨k1, k2, k3⟩ := hk
  have q2 := k1 2 (by omega) (by omega)
  have q3 := k1 3 (by omega) (by omega)
  have q4 := k1 4 (by omega) (by omega)
  have q5 := k1 5 (by omega) (by omega)
  have q6 := k1 6 (by omega) (by omega)
  refine ⟨⟨bf, bc, h1, h2, ⟨by rw [q4]; exact e4, by rw [q2]; exact e2, by rw [q3]; exact e3, hu⟩, fun b hb t ht => ?_⟩, ⟨by rw [q5]; exact e5, by rw [q6]; exact e6, e7⟩, fun t ht => ?_, fun k hk => ?_, fun t t' a1 a2 => ?_, fun k hk => ?_, fun t t' a1 a2 => ?_⟩
  · have hl : pS bc b + t < M.1 2 j := by
      rw [e2]
      have := pS_mono (bc := bc) (show b + 1 ≤ nb by omega)
      have e : pS bc (b + 1) = pS bc b + bc b := rfl
      omega
    obtain ⟨⟨a1, a2, -⟩, -⟩ := k2 _ hl
    rw [a1, a2]
    exact h7 b hb t ht
  · obtain ⟨a1, a2, a3⟩ := g4 t ht
    have hl : M.1 13 (600 * j + t) / 2 < M.1 2 j := by omega
    obtain ⟨⟨b1, -, -, b4⟩, b5, b6⟩ := k2 _ hl
    rw [k3 t (by omega), q3, b1]
    refine ⟨a1, ?_, ?_⟩
    · have c1 : evC M' j' (M.1 13 (600 * j + t)) = evC M j (M.1 13 (600 * j + t)) := by unfold evC; rw [b6]
      have c2 : evD M' j' (M.1 13 (600 * j + t)) = evD M j (M.1 13 (600 * j + t)) := by unfold evD; rw [b5, b4]
      rw [c1, c2]
      exact a2
    · rw [b6]; exact a3
  · rw [q2] at hk
    obtain ⟨⟨-, -, b3, -⟩, -⟩ := k2 _ hk
    rw [b3, g5 k hk]
    exact (lastE_K (fun t ht => k3 t (by omega)) ne (Nat.le_refl _)).symm
  · rw [k3 t (by omega), k3 t' (by omega)]
    exact g6 t t' a1 a2
  · rw [q3] at hk
    have hl : k < M.1 2 j := by omega
    obtain ⟨-, -, b6⟩ := k2 _ hl
    rw [b6]
    intro hz
    obtain ⟨t, ht, et⟩ := g7 k hk hz
    exact ⟨t, ht, by rw [k3 t (by omega)]; exact et⟩
  · rw [k3 t (by omega), k3 t' (by omega)]
    exact g8 t t' a1 a2
end BK
end REL
