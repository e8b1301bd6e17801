section CTEXT2
variable {g : zG} {S F n T D U : Nat} {C : cS} {ρ0 ρ ρ' : zS} {l : List Nat} {k : Nat} {H : Nat → Int32}
theorem chr_ok {c : Nat} (hc : c < 128) : (((zi c).toUInt32 % 65536).toInt32) = zi c ∧ vp_nar .char (zi c) = zi c := by
  have h2 : ∀ x : Fin 128, (((zi x.val).toUInt32 % 65536).toInt32) = zi x.val ∧ vp_nar .char (zi x.val) = zi x.val := by decide +kernel
  exact h2 ⟨c, hc⟩
theorem X_digit {v : Nat} {σ : zS} (hv : v < 1000000000000000000) : s_ListText_digit g (zl v) σ = some (zi (48 + v % 10), σ) := by
  have c5 : (48 + (zl v - zl v / 10 * 10) : Int64) = zl (48 + v % 10) := by
    rw [zl_l10, zl_l48, zl_div (by omega) (by decide), zl_mul, zl_sub (by omega), zl_add]
    congr 1
    omega
  unfold s_ListText_digit
  rw [c5, zl_i32, (chr_ok (show 48 + v % 10 < 128 by omega)).1, if_pos (chr_ok (show 48 + v % 10 < 128 by omega)).2]
theorem TX.obs (hF : S + cF n ≤ F) (h : TX F T D U ρ0 ρ l k H) : zis (cW S n C ρ) T 11 = some () ∧ zgR (cW S n C ρ) T 11 0 = some (some (T + 1)) ∧ zgR (cW S n C ρ) T 11 1 = some (some D) ∧ zis (cW S n C ρ) (T + 1) 12 = some () ∧ (∀ i, i < 20 → zaI (cW S n C ρ) D 4 (zi i) = some (H i)) := by
  obtain ⟨v, cap, bb, x2, h1, h2, h3, h4, h5, h6, h7, h8, h9, h10, h11, h12, h13⟩ := h
  exact ⟨ob_is h2 (Or.inr (by omega)), ob_gR h2 (Or.inr (by omega)) rfl, ob_gR h2 (Or.inr (by omega)) rfl, ob_is h3 (Or.inr (by omega)), fun i hi => d_zaI h7 (by omega) hi (by decide)⟩
theorem TX.setD {i : Nat} {y : Int32} (hF : S + cF n ≤ F) (h : TX F T D U ρ0 ρ l k H) (hi : i < 20) : ∃ ρ', zsI (cW S n C ρ) D 4 (zi i) y = some (cW S n C ρ') ∧ TX F T D U ρ0 ρ' l k (upd H i y) := by
  obtain ⟨v, cap, bb, x2, h1, h2, h3, h4, h5, h6, h7, h8, h9, h10, h11, h12, h13⟩ := h
  have dnt : ¬ T = D := by omega
  have dne : ¬ T + 1 = D := by
    intro q
    rw [← q, h3] at h7
    cases h7
  have dnv : ¬ v = D := by
    intro q
    rw [← q, h5] at h7
    cases h7
  refine ⟨zupd ρ D (.inl (4, 20, .inl (upd H i y))), d_zsI h7 (by omega) hi (by decide), v, cap, bb, x2, h1, ?_, ?_, h4, ?_, h6, ?_, h8, h9, h10, h11, h12, ?_⟩
  · rw [zupd_at, if_neg dnt, h2]
  · rw [zupd_at, if_neg dne, h3]
  · rw [zupd_at, if_neg dnv, h5]
  · rw [zupd_at, if_pos rfl]
  · intro p hp
    rw [zupd_at, if_neg (by omega)]
    exact h13 p hp
/-- the digits that stand in the row -/
def dgs (v m : Nat) (H : Nat → Int32) : Prop := ∀ j, j < m → H (19 - j) = zi (48 + v / 10 ^ j % 10)
theorem X_60 {v K : Nat} {x y : Int64} {z : Int32} (hF : S + cF n ≤ F) (hK : K ≤ 18) (hd : dgs v (K + 1) H) : ∀ (m fuel : Nat) (ρ : zS) (l : List Nat), m ≤ K → m + 1 < fuel → TX F T D U ρ0 ρ l 0 H → l.length + m + 1 ≤ 40000 → ∃ ρ', s_ListText_addNumber_60 g fuel T x y z (zi (19 - m)) (cW S n C ρ) = some (cW S n C ρ') ∧ TX F T D U ρ0 ρ' (l ++ dl v m) 0 H := by
  intro m
  induction m with
  | zero =>
    intro fuel ρ l hm hf h hl
    obtain ⟨fuel, rfl⟩ : ∃ k, fuel = k + 1 + 1 := ⟨fuel - 2, by omega⟩
    obtain ⟨o1, o2, o3, o4, o5⟩ := TX.obs (C := C) hF h
    have c1 : 48 + v / 10 ^ 0 % 10 < 128 := by omega
    have e1 := hd 0 (by omega)
    obtain ⟨ρ1, a1, a2⟩ := X_app (g := g) (C := C) hF h c1 (by omega)
    have e2 : 48 + v / 10 ^ 0 % 10 = 48 + v % 10 := by rw [Nat.pow_zero, Nat.div_one]
    refine ⟨ρ1, ?_, by rw [dl, ← e2]; exact a2⟩
    rw [s_ListText_addNumber_60]
    rw [if_neg (show ¬ (20 : Int32) ≤ zi (19 - 0) by decide), o2, Option.bind_some, o3, Option.bind_some, Option.bind_some, o5 _ (by decide), Option.bind_some, Option.bind_some, o4, Option.bind_some, e1, a1, Option.bind_some]
    dsimp only
    rw [s_ListText_addNumber_60]
    rw [if_pos (show (20 : Int32) ≤ zi (19 - 0) + 1 by decide)]
  | succ m ih =>
    intro fuel ρ l hm hf h hl
    obtain ⟨fuel, rfl⟩ : ∃ k, fuel = k + 1 := ⟨fuel - 1, by omega⟩
    obtain ⟨o1, o2, o3, o4, o5⟩ := TX.obs (C := C) hF h
    have c1 : 48 + v / 10 ^ (m + 1) % 10 < 128 := by omega
    have e1 := hd (m + 1) (by omega)
    obtain ⟨ρ1, a1, a2⟩ := X_app (g := g) (C := C) hF h c1 (by omega)
    have el : (l ++ [48 + v / 10 ^ (m + 1) % 10]).length = l.length + 1 := by rw [List.length_append]; rfl
    · obtain ⟨ρ2, b1, b2⟩ := ih fuel ρ1 (l ++ [48 + v / 10 ^ (m + 1) % 10]) (by omega) (by omega) a2 (by rw [el]; omega)
      refine ⟨ρ2, ?_, by rw [List.append_assoc] at b2; exact b2⟩
      have e2 : zi (19 - (m + 1)) + 1 = zi (19 - m) := by
        rw [zi_l1, zi_add]
        congr 1
        omega
      rw [s_ListText_addNumber_60]
      rw [if_neg (by rw [zi_l20, zi_le (by omega) (by omega)]; omega), o2, Option.bind_some, o3, Option.bind_some, Option.bind_some, o5 _ (by omega), Option.bind_some, Option.bind_some, o4, Option.bind_some, e1, a1, Option.bind_some]
      dsimp only
      rw [e2]
      exact b1
theorem dgs_s {v m : Nat} (hm : m < 20) (hd : dgs v m H) : dgs v (m + 1) (upd H (19 - m) (zi (48 + v / 10 ^ m % 10))) := by
  intro j hj
  unfold upd
  by_cases h : j = m
  · rw [h, if_pos rfl]
  · rw [if_neg (by omega)]
    exact hd j (by omega)
theorem X_25 {v K : Nat} {x : Int64} (hF : S + cF n ≤ F) (hv : v < 1000000000000000000) (hK : K ≤ 18) (h1 : v / 10 ^ K ≤ 9) (h2 : ∀ k, k < K → 9 < v / 10 ^ k) (hl : l.length + 20 ≤ 40000) : ∀ (r m fuel : Nat) (ρ : zS) (H : Nat → Int32), m + r = K → r < fuel → dgs v m H → TX F T D U ρ0 ρ l 0 H → ∃ ρ' H', s_ListText_addNumber_25 g fuel T x (zl (v / 10 ^ m)) (zi (20 - m)) (cW S n C ρ) = some (cW S n C ρ') ∧ TX F T D U ρ0 ρ' (l ++ dl v K) 0 H' := by
  intro r
  induction r with
  | zero =>
    intro m fuel ρ H hm hf hd h
    obtain ⟨fuel, rfl⟩ : ∃ k, fuel = k + 1 := ⟨fuel - 1, by omega⟩
    have e0 : m = K := by omega
    subst e0
    obtain ⟨o1, o2, o3, o4, o5⟩ := TX.obs (C := C) hF h
    have hdv : v / 10 ^ m ≤ v := Nat.div_le_self _ _
    have q1 := X_digit (g := g) (σ := cW S n C ρ) (v := v / 10 ^ m) (by omega)
    have c1 : 48 + v / 10 ^ m % 10 < 128 := by omega
    have e1 : zi (20 - m) + -1 = zi (19 - m) := by
      have : zi (20 - m) + -1 = zi (20 - m) - 1 := (Int32.sub_eq_add_neg _ _).symm
      rw [this, zi_l1, zi_sub (by omega)]
      congr 1
      omega
    obtain ⟨ρ1, a1, a2⟩ := TX.setD (C := C) (i := 19 - m) (y := zi (48 + v / 10 ^ m % 10)) hF h (by omega)
    obtain ⟨ρ2, b1, b2⟩ := X_60 (g := g) (C := C) (x := x) (y := zl (v / 10 ^ m) / 10) (z := zi (19 - m)) (v := v) (K := m) hF hK (dgs_s (by omega) hd) m zfuel ρ1 l (Nat.le_refl _) (by unfold zfuel; omega) a2 (by omega)
    have e2 : lg_cmp (zl (v / 10 ^ m) / 10) 0 ≤ 0 := by
      rw [zl_l10, zl_div (by omega) (by decide), zl_l0, lg_le (by omega) (by decide)]
      omega
    refine ⟨ρ2, _, ?_, b2⟩
    rw [s_ListText_addNumber_25]
    rw [o3, Option.bind_some, q1, Option.bind_some]
    dsimp only
    rw [Option.bind_some, (chr_ok c1).2, e1, a1, Option.bind_some, if_pos e2]
    unfold s_ListText_addNumber_56
    exact b1
  | succ r ih =>
    intro m fuel ρ H hm hf hd h
    obtain ⟨fuel, rfl⟩ : ∃ k, fuel = k + 1 := ⟨fuel - 1, by omega⟩
    obtain ⟨o1, o2, o3, o4, o5⟩ := TX.obs (C := C) hF h
    have hdv : v / 10 ^ m ≤ v := Nat.div_le_self _ _
    have q1 := X_digit (g := g) (σ := cW S n C ρ) (v := v / 10 ^ m) (by omega)
    have c1 : 48 + v / 10 ^ m % 10 < 128 := by omega
    have e1 : zi (20 - m) + -1 = zi (19 - m) := by
      have : zi (20 - m) + -1 = zi (20 - m) - 1 := (Int32.sub_eq_add_neg _ _).symm
      rw [this, zi_l1, zi_sub (by omega)]
      congr 1
      omega
    obtain ⟨ρ1, a1, a2⟩ := TX.setD (C := C) (i := 19 - m) (y := zi (48 + v / 10 ^ m % 10)) hF h (by omega)
    obtain ⟨ρ2, H2, b1, b2⟩ := ih (m + 1) fuel ρ1 _ (by omega) (by omega) (dgs_s (by omega) hd) a2
    have h3 := h2 m (by omega)
    have e3 : zl (v / 10 ^ m) / 10 = zl (v / 10 ^ (m + 1)) := by
      rw [zl_l10, zl_div (by omega) (by decide), Nat.div_div_eq_div_mul, ← Nat.pow_succ]
    have e2 : ¬ lg_cmp (zl (v / 10 ^ m) / 10) 0 ≤ 0 := by
      rw [zl_l10, zl_div (by omega) (by decide), zl_l0, lg_le (by omega) (by decide)]
      omega
    have e4 : 20 - (m + 1) = 19 - m := by omega
    rw [e4] at b1
    refine ⟨ρ2, H2, ?_, b2⟩
    rw [s_ListText_addNumber_25]
    rw [o3, Option.bind_some, q1, Option.bind_some]
    dsimp only
    rw [Option.bind_some, (chr_ok c1).2, e1, a1, Option.bind_some, if_neg e2, if_pos (by rw [zi_l0, zi_lt (by omega) (by omega)]; omega), e3]
    exact b1
theorem X_16 {v : Nat} {x : Int64} (hF : S + cF n ≤ F) (hv : v < 1000000000000000000) (hx : (if 0 < x then x else -x) = zl v) (hl : l.length + 20 ≤ 40000) (h : TX F T D U ρ0 ρ l 0 H) : ∃ ρ' H', s_ListText_addNumber_16 g T x (cW S n C ρ) = some (cW S n C ρ') ∧ TX F T D U ρ0 ρ' (l ++ tN v) 0 H' := by
  obtain ⟨ρ', H', a1, a2⟩ := X_25 (g := g) (C := C) (x := x) (v := v) (K := kd v) hF hv (kdF_le 18 v) (kdF_1 18 v (by have : (10 : Nat) ^ (18 + 1) = 10000000000000000000 := (by decide); omega)) (kdF_2 18 v) hl (kd v) 0 zfuel ρ H (by omega) (by have := kdF_le 18 v; unfold kd zfuel; omega) (fun j hj => by omega) h
  refine ⟨ρ', H', ?_, a2⟩
  rw [Nat.pow_zero, Nat.div_one] at a1
  unfold s_ListText_addNumber_16
  rw [hx, Option.bind_some]
  exact a1
theorem X_num {v : Nat} {x : Int64} (hF : S + cF n ≤ F) (hx : x = zl v ∨ (0 < v ∧ x = -zl v)) (hv : v < 1000000000000000000) (hl : l.length + 21 ≤ 40000) (h : TX F T D U ρ0 ρ l 0 H) : ∃ ρ' H', s_ListText_addNumber g T x (cW S n C ρ) = some (cW S n C ρ') ∧ TX F T D U ρ0 ρ' (l ++ tI x) 0 H' := by
  obtain ⟨o1, o2, o3, o4, o5⟩ := TX.obs (C := C) hF h
  unfold s_ListText_addNumber tI
  rcases hx with rfl | ⟨h0, rfl⟩
  · have c : 0 ≤ lg_cmp (zl v) 0 := by
      rw [zl_l0, lg_ge (by omega) (by decide)]
      omega
    have e : (if 0 < zl v then zl v else -zl v) = zl v := by
      by_cases hz : 0 < v
      · rw [if_pos (by rw [zl_l0, zl_lt (by decide) (by omega)]; exact hz)]
      · have : v = 0 := by omega
        rw [this]
        rfl
    obtain ⟨ρ', H', a1, a2⟩ := X_16 (g := g) (C := C) (x := zl v) hF hv e (by omega) h
    refine ⟨ρ', H', ?_, ?_⟩
    · rw [if_pos c]
      exact a1
    · rw [if_pos c, zl_nat (by omega)]
      exact a2
  · have c := lg_neg (a := v) (by omega)
    have e : (if 0 < -zl v then -zl v else - -zl v) = zl v := by
      rw [if_neg (fun q => absurd (Int64.lt_trans (zl_neg (a := v) (by omega)) q) Int64.lt_irrefl), zl_nn]
    obtain ⟨ρ1, b1, b2⟩ := X_app (g := g) (C := C) (c := 45) hF h (by decide) (by omega)
    have el : (l ++ [45]).length = l.length + 1 := by rw [List.length_append]; rfl
    obtain ⟨ρ', H', a1, a2⟩ := X_16 (g := g) (C := C) (x := -zl v) hF hv e (by rw [el]; omega) b2
    refine ⟨ρ', H', ?_, ?_⟩
    · have b1' : s_StringBuilder_append g (T + 1) 45 (cW S n C ρ) = some (some (T + 1), cW S n C ρ1) := b1
      rw [if_neg c, o2, Option.bind_some, Option.bind_some, o4, Option.bind_some, b1', Option.bind_some]
      exact a1
    · rw [if_neg c, zl_nn, zl_nat (by omega)]
      rw [List.append_assoc] at a2
      exact a2
theorem X_numN {v : Nat} (hF : S + cF n ≤ F) (hv : v < 1000000000000000000) (hl : l.length + 21 ≤ 40000) (h : TX F T D U ρ0 ρ l 0 H) : ∃ ρ' H', s_ListText_addNumber g T (zl v) (cW S n C ρ) = some (cW S n C ρ') ∧ TX F T D U ρ0 ρ' (l ++ tN v) 0 H' := by
  obtain ⟨ρ', H', a1, a2⟩ := X_num (g := g) (C := C) (x := zl v) (v := v) hF (Or.inl rfl) hv hl h
  refine ⟨ρ', H', a1, ?_⟩
  have c : 0 ≤ lg_cmp (zl v) 0 := by
    rw [zl_l0, lg_ge (by omega) (by decide)]
    omega
  unfold tI at a2
  rw [if_pos c, zl_nat (by omega)] at a2
  exact a2
/-- an amount: what tMon is without the space behind it -/
theorem X_amt {v : Nat} (hF : S + cF n ≤ F) (hv : v < 1000000000000000000) (hl : l.length + 30 ≤ 40000) (h : TX F T D U ρ0 ρ l 0 H) : ∃ ρ' H', s_ListText_addAmount g T (zl v) (cW S n C ρ) = some (cW S n C ρ') ∧ TX F T D U ρ0 ρ' (l ++ (tN (v / 100) ++ [46, 48 + v / 10 % 10, 48 + v % 10])) 0 H' := by
  have hd : v / 100 ≤ v := Nat.div_le_self _ _
  have hd2 : v / 10 ≤ v := Nat.div_le_self _ _
  have c1 : zl v / 100 = zl (v / 100) := by
    rw [zl_l100, zl_div (by omega) (by decide)]
  have c2 : zl v / 10 = zl (v / 10) := by
    rw [zl_l10, zl_div (by omega) (by decide)]
  have hlen := tN_len (v := v / 100)
  obtain ⟨o1, _, _, _, _⟩ := TX.obs (C := C) hF h
  obtain ⟨ρ1, H1, a1, a2⟩ := X_numN (g := g) (C := C) (v := v / 100) hF (by omega) (by omega) h
  obtain ⟨_, p2, _, p4, _⟩ := TX.obs (C := C) hF a2
  obtain ⟨ρ2, b1, b2⟩ := X_app (g := g) (C := C) (c := 46) hF a2 (by decide) (by rw [List.length_append]; omega)
  obtain ⟨_, q2, _, q4, _⟩ := TX.obs (C := C) hF b2
  obtain ⟨ρ3, d1, d2⟩ := X_app (g := g) (C := C) (c := 48 + v / 10 % 10) hF b2 (by omega) (by simp only [List.length_append, List.length_cons, List.length_nil]; omega)
  obtain ⟨_, r2, _, r4, _⟩ := TX.obs (C := C) hF d2
  obtain ⟨ρ4, f1, f2⟩ := X_app (g := g) (C := C) (c := 48 + v % 10) hF d2 (by omega) (by simp only [List.length_append, List.length_cons, List.length_nil]; omega)
  refine ⟨ρ4, H1, ?_, ?_⟩
  · have b1' : s_StringBuilder_append g (T + 1) 46 (cW S n C ρ1) = some (some (T + 1), cW S n C ρ2) := b1
    have w1 := X_digit (g := g) (σ := cW S n C ρ2) (v := v / 10) (by omega)
    have w2 := X_digit (g := g) (σ := cW S n C ρ3) (v := v) hv
    unfold s_ListText_addAmount
    rw [o1, Option.bind_some, c1, a1, Option.bind_some, p2, Option.bind_some, Option.bind_some, p4, Option.bind_some, b1', Option.bind_some]
    dsimp only
    rw [q2, Option.bind_some, c2, w1, Option.bind_some]
    dsimp only
    rw [Option.bind_some, q4, Option.bind_some, d1, Option.bind_some]
    dsimp only
    rw [r2, Option.bind_some, w2, Option.bind_some]
    dsimp only
    rw [Option.bind_some, r4, Option.bind_some, f1, Option.bind_some]
  · simp only [List.append_assoc, List.cons_append, List.nil_append] at f2 ⊢
    exact f2
end CTEXT2
