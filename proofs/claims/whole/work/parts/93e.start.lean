section START1
variable {g : zG} {e q S F n b L A B T : Nat} {C : cS} {M : mS} {ρ σ : zS} {f : Nat → Nat → Nat} {xs : Nat → Int32}
theorem BK.zero {j o0 o1 : Nat} : BK F ρ (M0 n) f o0 o1 0 0 0 0 0 j := by
  refine ⟨⟨fun _ => 0, fun _ => 0, fun b hb => absurd hb (Nat.not_lt_zero _), fun b b' _ hb => absurd hb (Nat.not_lt_zero _), ⟨rfl, rfl, rfl, Or.inr ⟨rfl, rfl⟩⟩, fun b hb => absurd hb (Nat.not_lt_zero _)⟩, ⟨rfl, rfl, Nat.le_refl _⟩, fun t ht => absurd ht (Nat.not_lt_zero _), fun k hk => absurd hk (Nat.not_lt_zero _), fun t t' _ ht => absurd ht (Nat.not_lt_zero _), fun k hk => absurd hk (Nat.not_lt_zero _), fun t t' _ ht => absurd ht (Nat.not_lt_zero _)⟩
theorem M0_ok : mOK (M0 n) := by
  intro j k
  show 0 < mbd j
  unfold mbd
  split
  · omega
  · split
    · omega
    · split <;> omega
theorem RR.start (he : e < S) (hF : S + cF n ≤ F) (hF2 : F ≤ ρ.1) (hn : 1 ≤ n ∧ n ≤ 6) (hE : ρ.2.2 e = some (false, .inl (10, 0, rfs (fun _ => none)))) (hq : strC S F ρ q []) : RR e S F n (C0 e q n) (M0 n) ρ (fun _ _ => 0) 0 := by
  have vw0 : ∀ i, vw (M0 n) i = i := fun i => by unfold vw; exact if_pos rfl
  have vO0 : vO (M0 n) n = 0 := by unfold vO; exact if_pos rfl
  have hbr : ∀ i, i < n → ∀ k, ¬ k = 8 → (C0 e q n).1 (oBr i) k = 0 := fun i hi k hk => by rw [C0_2 (ck_Br hi)]; exact if_neg hk
  have hbs : ∀ i s, i < n → s < 3 → ∀ k, (C0 e q n).1 (oBs i s) k = 0 := fun i s hi hs k => by rw [C0_N (ck_Bs hi hs) (by omega) (by omega)]
  have hls : ∀ o, ck n o = 5 → ∀ k, (C0 e q n).1 o k = 0 := fun o ho k => by rw [C0_N ho (by omega) (by omega)]
  have hob : ∀ c s j, c < 2 → s < 3 → OB S F ρ (C0 e q n) (M0 n) n c s j := fun c s j hc hs => by
    refine ⟨⟨?_, ?_, ?_⟩, ⟨Nat.zero_le _, Nat.zero_le _, Nat.zero_le _⟩, fun k hk => ⟨⟨?_, ?_⟩, fun h => absurd h (by show ¬ 0 = 2; omega), fun h => absurd h (by show ¬ 0 = 3; omega), ⟨fun h => absurd h (Nat.not_lt_zero _), fun h => absurd rfl h⟩, fun h => absurd h (Nat.not_lt_zero _)⟩, q, C0_9 (ck_Sb hc hs), Or.inl ⟨by show ¬ 0 = 2; omega, hq⟩⟩
    · rw [C0_N (ck_Sb hc hs) (by omega) (by omega)]; rfl
    · rw [C0_N (ck_Sb hc hs) (by omega) (by omega)]; rfl
    · rw [C0_N (ck_Sb hc hs) (by omega) (by omega)]; rfl
    · rw [C0_N (ck_Fa hc hs) (by omega) (by omega)]; rfl
    · rw [C0_N (ck_Ho hc hs) (by omega) (by omega)]; rfl
  refine ⟨⟨⟨he, hF, hF2, hn.2, hE⟩, fun o ho ho2 => ⟨by rw [hls o ho]; omega, Or.inl ⟨C0_5 ho, hls o ho 1⟩⟩, fun o o' ho _ ho' _ _ _ => C0_5 ho⟩, ⟨M0_ok, hn.1, rfl⟩, ⟨fun i hi => ?_, ?_⟩, fun i hi => ?_, fun s hs => ⟨hob 0 s _ (by omega) hs, hob 1 s _ (by omega) hs⟩, fun b hb => ?_, ⟨⟨hls _ ck_Po 1, by show 0 ≤ 64; omega⟩, fun t ht => absurd ht (Nat.not_lt_zero _)⟩, fun b hb => ?_, fun s hs => ⟨rfl, Iff.rfl⟩⟩
  · rw [C0_2 (ck_Br hi)]; rfl
  · rw [C0_6 ck_Of]; rfl
  · refine ⟨⟨⟨?_, ?_⟩, fun s hs => ?_⟩, ⟨⟨?_, ?_⟩, fun s hs => ?_⟩, fun s hs => ?_, ⟨?_, fun r _ _ => rfl⟩, Or.inl ⟨rfl, ?_, rfl, rfl⟩⟩
    · rw [hbr i hi 3 (by omega)]; rfl
    · rw [hbr i hi 4 (by omega)]; rfl
    · rw [hls _ (ck_Ls hi hs (by omega)), hls _ (ck_Ls hi hs (by omega)), hbs i s hi hs, hbs i s hi hs, hbs i s hi hs]
      exact BK.zero
    · rw [hbr i hi 6 (by omega)]; rfl
    · rw [hbr i hi 7 (by omega)]; rfl
    · rw [hbs i s hi hs, hbs i s hi hs, hbs i s hi hs, hbs i s hi hs, hbs i s hi hs]
      exact BK.zero
    · rw [hbs i s hi hs, hbs i s hi hs]; exact ⟨Nat.zero_le _, Nat.zero_le _⟩
    · rw [C0_P (ck_Br hi) (by omega) (by omega)]
    · rw [C0_P (ck_Br hi) (by omega) (by omega)]
  · refine ⟨⟨?_, ?_⟩, ⟨?_, fun r _ _ => rfl⟩, Or.inl ⟨rfl, ?_⟩⟩
    · rw [C0_N (ck_St (by omega)) (by omega) (by omega)]; rfl
    · rw [C0_N (ck_St (by omega)) (by omega) (by omega)]; rfl
    · rw [C0_P (ck_An (by omega)) (by omega) (by omega), C0_P (ck_An (by omega)) (by omega) (by omega)]
    · rw [C0_P (ck_An (by omega)) (by omega) (by omega)]
  · have hv : ∀ x, INv (M0 n) b x 0 := fun x => ⟨fun _ => rfl, fun s hs => ⟨Nat.le_refl _, fun k hk => absurd hk (Nat.not_lt_zero _)⟩, fun h => absurd h (by show ¬ 1 ≤ 0; omega)⟩
    exact ⟨⟨⟨Nat.le_refl _, Nat.zero_le _, Nat.le_refl _⟩, fun h => absurd h (by show ¬ 1 ≤ 0; omega)⟩, hv _, hv _⟩
theorem cl_le : cl M ≤ 3 := by
  unfold cl
  split <;> split <;> split <;> omega
theorem law_loop (hL : L ≤ 3073) (hg : ∃ q, g 21 = some q) (hg0 : g 0 = some e) (hg2 : ∃ mi, g 10 = some mi) : ∀ (m N T : Nat) (C : cS) (M : mS) (ρ : zS) (f : Nat → Nat → Nat), T + m = 512 → m < N → JR g e S n b L A B xs C M ρ f T → ∃ σf, s_Law_law_33 g N (some b) (some S) (some (S + cF n)) (some (S + cF n + 35)) (zi (1 + 6 * T)) (cW S n C ρ) = some (1, σf) ∧ σf.1 ≤ A + 220246 ∧ σf.2.1 ≤ B + 1738200 := by
  obtain ⟨q, hg⟩ := hg
  have hend : ∀ (N T : Nat) (C : cS) (M : mS) (ρ : zS) (f : Nat → Nat → Nat), JR g e S n b L A B xs C M ρ f T → T ≤ 512 → ¬ 1 + 6 * T + 6 ≤ L → ∃ σf, s_Law_law_33 g (N + 1) (some b) (some S) (some (S + cF n)) (some (S + cF n + 35)) (zi (1 + 6 * T)) (cW S n C ρ) = some (1, σf) ∧ σf.1 ≤ A + 220246 ∧ σf.2.1 ≤ B + 1738200 := by
    intro N T C M ρ f hJ hT hnot
    have h6 : zi L - 6 < zi (1 + 6 * T) := by
      by_cases hL6 : 6 ≤ L
      · show zi L - zi 6 < _
        rw [zi_sub hL6, zi_lt (by omega) (by omega)]
        omega
      · have h0 : (0 : Int32) < zi (1 + 6 * T) := by show zi 0 < _; rw [zi_lt (by omega) (by omega)]; omega
        have h1 : zi L - 6 < 0 := by
          rcases (show L = 0 ∨ L = 1 ∨ L = 2 ∨ L = 3 ∨ L = 4 ∨ L = 5 by omega) with h | h | h | h | h | h <;> rw [h] <;> decide
        exact Int32.lt_trans h1 h0
    refine ⟨cW S n C ρ, ?_, ?_, ?_⟩
    · rw [s_Law_law_33, Option.bind_some, hJ.2.2.len, Option.bind_some, if_pos h6]
    · have h1 := hJ.2.1.2.1
      have h2 := cl_le (M := M)
      show ρ.1 ≤ _
      omega
    · have h1 := hJ.2.1.2.2
      have h2 := cl_le (M := M)
      show ρ.2.1 ≤ _
      omega
  intro m
  induction m with
  | zero =>
    intro N T C M ρ f hm hN hJ
    obtain ⟨N', rfl⟩ : ∃ N', N = N' + 1 := ⟨N - 1, by omega⟩
    exact hend N' T C M ρ f hJ (by omega) (by omega)
  | succ m ih =>
    intro N T C M ρ f hm hN hJ
    obtain ⟨N', rfl⟩ : ∃ N', N = N' + 1 := ⟨N - 1, by omega⟩
    by_cases hi : 1 + 6 * T + 6 ≤ L
    · obtain ⟨C', M', ρ', f', h1, h2⟩ := law_step (N := N') hJ hL (by omega) hi hg hg0 hg2
      rw [h2]
      exact ih N' (T + 1) C' M' ρ' f' (by omega) (by omega) h1
    · exact hend N' T C M ρ f hJ (by omega) hi
theorem law_cell {fs : Nat → Int32} {τ : zS} (hL : L ≤ 3073) (h : τ.2.2 b = some (false, .inl (0, L, .inl fs))) : s_Law_cell g (some b) 0 τ = some (if L = 0 then 0 else fs 0, τ) := by
  have h1 : zal τ b 0 = some (zi L) := by unfold zal zar; rw [h]; dsimp only; rw [if_pos rfl]; rfl
  unfold s_Law_cell s_Law_cell_13
  rw [Option.bind_some, h1, Option.bind_some]
  by_cases h0 : L = 0
  · rw [if_pos (by rw [h0]; decide), if_pos h0]
  · have h2 : zaI τ b 0 0 = some (fs 0) := by
      show zaI τ b 0 (zi 0) = _
      unfold zaI zar
      rw [h]
      dsimp only
      rw [if_pos rfl]
      dsimp only
      rw [if_neg (zi_in (by omega) (by omega)), zi_nat (by omega)]
    have h3 : ¬ zi L ≤ 0 := by show ¬ zi L ≤ zi 0; rw [zi_le (by omega) (by omega)]; omega
    rw [if_neg h3, h2, Option.bind_some, if_neg h0]
theorem strAt.kst {a : Option Nat} {bs : List Int32} {t : List Nat} (h : strAt σ a bs) (hb : ∀ a, σ.1 ≤ a → σ.2.2 a = none) (hlen : t.length = bs.length) (ht : ∀ j, j < t.length → ∃ c, c < 128 ∧ t[j]? = some c ∧ bs.getD j 0 = zi c) (hρ : ∀ p, p < σ.1 → ρ.2.2 p = σ.2.2 p) : ∃ q, a = some q ∧ kst σ.1 ρ q t := by
  obtain ⟨q, v, v2, v3, ff, h1, h2, h3, h4⟩ := h
  have hq : q < σ.1 := Nat.lt_of_not_le (fun hle => by rw [hb q hle] at h2; cases h2)
  have hv : v < σ.1 := Nat.lt_of_not_le (fun hle => by rw [hb v hle] at h3; cases h3)
  refine ⟨q, h1, v, v2, v3, ff, ⟨hq, hv⟩, by rw [hρ q hq]; exact h2, by rw [hρ v hv, hlen]; exact h3, fun j hj => ?_⟩
  obtain ⟨c, c1, c2, c3⟩ := ht j hj
  exact ⟨c, c1, c2, by rw [h4 j (by omega)]; exact c3⟩
end START1
