section CTEXT4
variable {g : zG} {S F n T D U s : Nat} {C : cS} {ρ0 ρ ρ' : zS} {l : List Nat} {k : Nat} {H : Nat → Int32}
/-- what the writer needs of a book -/
def bkOK (C : cS) (n s : Nat) : Prop := C.1 (oSb n 0 s) 2 ≤ 300 ∧ C.1 (oSb n 0 s) 1 < 2147483648 ∧ ∀ k, k < C.1 (oSb n 0 s) 2 → (0 < C.1 (oFa n 0 s) k ∧ C.1 (oFa n 0 s) k < 128) ∧ (C.1 (oFa n 0 s) k = 2 → ∃ p, p ≤ 1000000000000 ∧ C.2.2.1 (oCe n 0 s) k = zl p)
def txK (g : zG) (S : Nat) (ρ0 : zS) : Prop := (∃ q, g 22 = some q ∧ kst S ρ0 q [32, 85, 32]) ∧ (∃ q, g 23 = some q ∧ kst S ρ0 q [32, 86, 32]) ∧ (∃ q, g 24 = some q ∧ kst S ρ0 q [32, 76]) ∧ (∃ q, g 25 = some q ∧ kst S ρ0 q [84, 32])
theorem cLin_len : (cLin C n s k).length ≤ 100 := by
  have h1 := tN_len (v := k + 1)
  have h2 := tMon_len (v := (C.2.2.1 (oCe n 0 s) k).toNatClampNeg)
  have h3 := tI_len (x := (C.2.1 (oDe n 0 s) k).toInt64)
  unfold cLin
  split
  · simp only [List.length_append, List.length_cons, List.length_nil]
    omega
  · split
    · simp only [List.length_append, List.length_cons, List.length_nil]
      omega
    · simp only [List.length_append, List.length_cons, List.length_nil]
      omega
theorem cLs_len : ∀ k, (cLs C n s k).length ≤ 100 * k := by
  intro k
  induction k with
  | zero => exact Nat.le_refl _
  | succ k ih =>
    have h2 := cLin_len (C := C) (n := n) (s := s) (k := k)
    rw [cLs, List.length_append]
    omega
theorem X_112 {a : Nat} {x : Int32} (hF : S + cF n ≤ F) (h : TX F T D U ρ0 ρ l 0 H) (hl : l.length ≤ 40000) : ∃ ρ', s_ListText_addLine_112 g T (some a) x (cW S n C ρ) = some (cW S n C ρ') ∧ TX F T D U ρ0 ρ' (l ++ [10]) 0 H := by
  obtain ⟨o1, o2, o3, o4, o5⟩ := TX.obs (C := C) hF h
  obtain ⟨ρ1, a1, a2⟩ := X_app (g := g) (C := C) (c := 10) hF h (by decide) hl
  refine ⟨ρ1, ?_, a2⟩
  have a1' : s_StringBuilder_append g (T + 1) 10 (cW S n C ρ) = some (some (T + 1), cW S n C ρ1) := a1
  unfold s_ListText_addLine_112
  rw [o2, Option.bind_some, Option.bind_some, o4, Option.bind_some, a1', Option.bind_some]
theorem X_line (hF : S + cF n ≤ F) (hs : s < 3) (hb : bkOK C n s) (hk : k < C.1 (oSb n 0 s) 2) (hg : txK g S ρ0) (h : TX F T D U ρ0 ρ l 0 H) (hl : l.length + 200 ≤ 40000) : ∃ ρ' H', s_ListText_addLine g T (some (S + oSb n 0 s)) (zi (k + 1)) (cW S n C ρ) = some (cW S n C ρ') ∧ TX F T D U ρ0 ρ' (l ++ cLin C n s k) 0 H' := by
  obtain ⟨⟨q2, g2, k2⟩, ⟨q3, g3, k3⟩, ⟨q4, g4, k4⟩, _⟩ := hg
  obtain ⟨hb1, hb2, hb3⟩ := hb
  obtain ⟨hf, hp⟩ := hb3 k hk
  have b1 := tN_len (v := k + 1)
  obtain ⟨o1, _, _, _, _⟩ := TX.obs (C := C) hF h
  have e1 : (zi (k + 1)).toInt64 = zl (k + 1) := zi_i64 (by omega)
  obtain ⟨ρ1, H1, a1, a2⟩ := X_numN (g := g) (C := C) (v := k + 1) hF (by omega) (by omega) h
  obtain ⟨p1, p2, _, p4, _⟩ := TX.obs (C := C) hF a2
  have fa : ∀ X : zS, s_SeriesBook_fateOf g (S + oSb n 0 s) (zi (k + 1)) (cW S n C X) = some (zi (C.1 (oFa n 0 s) k), cW S n C X) := fun X => Y_fateO hs hb1 hk
  have fi : ∀ (X : zS) (w : Int32), s_SeriesBook_fieldOf g (S + oSb n 0 s) (zi (k + 1)) w (cW S n C X) = some (cIO C n s k w, cW S n C X) := fun X w => Y_field hs hb1 hk hf
  have z2 : (zi (C.1 (oFa n 0 s) k) = 2) = (C.1 (oFa n 0 s) k = 2) := by rw [zi_l2, zi_eq (by omega) (by omega)]
  have z3 : (zi (C.1 (oFa n 0 s) k) = 3) = (C.1 (oFa n 0 s) k = 3) := by rw [zi_l3, zi_eq (by omega) (by omega)]
  have la : (l ++ tN (k + 1)).length ≤ l.length + 19 := by rw [List.length_append]; omega
  by_cases h2 : C.1 (oFa n 0 s) k = 2
  · obtain ⟨p, hp1, hp2⟩ := hp h2
    obtain ⟨a, ha, hx⟩ := zi_l64c (C.2.1 (oDe n 0 s) k)
    have bm := tN_len (v := p / 100)
    obtain ⟨ρ2, d1, d2⟩ := X_str (g := g) (C := C) hF a2 k2 (by decide) (by omega)
    obtain ⟨ρ3, H3, f1, f2⟩ := X_amt (g := g) (C := C) (v := p) hF (by omega) (by simp only [List.length_append, List.length_cons, List.length_nil] at *; omega) d2
    obtain ⟨r1, r2, _, r4, _⟩ := TX.obs (C := C) hF d2
    obtain ⟨u1, u2, _, u4, _⟩ := TX.obs (C := C) hF f2
    obtain ⟨ρ4, j1, j2⟩ := X_app (g := g) (C := C) (c := 32) hF f2 (by decide) (by simp only [List.length_append, List.length_cons, List.length_nil] at *; omega)
    obtain ⟨w1, w2, _, w4, _⟩ := TX.obs (C := C) hF j2
    obtain ⟨ρ5, H5, m1, m2⟩ := X_num (g := g) (C := C) (x := (C.2.1 (oDe n 0 s) k).toInt64) (v := a) hF hx (by omega) (by simp only [List.length_append, List.length_cons, List.length_nil] at *; omega) j2
    have bi := tI_len (x := (C.2.1 (oDe n 0 s) k).toInt64)
    obtain ⟨ρ6, n1, n2⟩ := X_112 (g := g) (C := C) (a := S + oSb n 0 s) (x := zi (k + 1)) hF m2 (by simp only [List.length_append, List.length_cons, List.length_nil] at *; omega)
    refine ⟨ρ6, H5, ?_, ?_⟩
    · have i0 : cIO C n s k 0 = zl p := by
        unfold cIO
        rw [if_pos rfl, if_pos h2, hp2]
      have i1 : cIO C n s k 1 = (C.2.1 (oDe n 0 s) k).toInt64 := by
        unfold cIO
        rw [if_neg (by decide), if_pos rfl, if_pos h2]
      have j1' : s_StringBuilder_append g (T + 1) 32 (cW S n C ρ3) = some (some (T + 1), cW S n C ρ4) := j1
      unfold s_ListText_addLine
      rw [o1, Option.bind_some, e1, a1, Option.bind_some, Option.bind_some, x_isSb (by decide) hs, Option.bind_some, fa, Option.bind_some]
      dsimp only
      rw [if_pos (by rw [z2]; exact h2), p2, Option.bind_some, g2, Option.bind_some, Option.bind_some, p4, Option.bind_some, d1, Option.bind_some]
      dsimp only
      rw [x_isSb (by decide) hs, Option.bind_some, fi, Option.bind_some]
      dsimp only
      rw [r1, Option.bind_some, i0, f1, Option.bind_some, u2, Option.bind_some, Option.bind_some, u4, Option.bind_some, j1', Option.bind_some]
      dsimp only
      rw [x_isSb (by decide) hs, Option.bind_some, fi, Option.bind_some]
      dsimp only
      rw [w1, Option.bind_some, i1, m1, Option.bind_some]
      exact n1
    · unfold cLin tMon
      rw [if_pos h2, hp2, zl_nat (by omega)]
      simp only [List.append_assoc, List.cons_append, List.nil_append] at n2 ⊢
      exact n2
  · by_cases h3 : C.1 (oFa n 0 s) k = 3
    · obtain ⟨a, ha, hx⟩ := zi_l64c (C.2.1 (oDe n 0 s) k)
      obtain ⟨ρ2, d1, d2⟩ := X_str (g := g) (C := C) hF a2 k3 (by decide) (by omega)
      obtain ⟨r1, r2, _, r4, _⟩ := TX.obs (C := C) hF d2
      obtain ⟨ρ5, H5, m1, m2⟩ := X_num (g := g) (C := C) (x := (C.2.1 (oDe n 0 s) k).toInt64) (v := a) hF hx (by omega) (by simp only [List.length_append, List.length_cons, List.length_nil] at *; omega) d2
      have bi := tI_len (x := (C.2.1 (oDe n 0 s) k).toInt64)
      obtain ⟨ρ6, n1, n2⟩ := X_112 (g := g) (C := C) (a := S + oSb n 0 s) (x := zi (k + 1)) hF m2 (by simp only [List.length_append, List.length_cons, List.length_nil] at *; omega)
      refine ⟨ρ6, H5, ?_, ?_⟩
      · have i1 : cIO C n s k 3 = (C.2.1 (oDe n 0 s) k).toInt64 := by
          unfold cIO
          rw [if_neg (by decide), if_neg (by decide), if_neg (by decide), if_pos rfl, if_pos h3]
        unfold s_ListText_addLine
        rw [o1, Option.bind_some, e1, a1, Option.bind_some, Option.bind_some, x_isSb (by decide) hs, Option.bind_some, fa, Option.bind_some]
        dsimp only
        rw [if_neg (by rw [z2]; exact h2), if_pos (by rw [z3]; exact h3), p2, Option.bind_some, g3, Option.bind_some, Option.bind_some, p4, Option.bind_some, d1, Option.bind_some]
        dsimp only
        rw [x_isSb (by decide) hs, Option.bind_some, fi, Option.bind_some]
        dsimp only
        rw [r1, Option.bind_some, i1, m1, Option.bind_some]
        exact n1
      · unfold cLin
        rw [if_neg h2, if_pos h3]
        simp only [List.append_assoc, List.cons_append, List.nil_append] at n2 ⊢
        exact n2
    · obtain ⟨ρ2, d1, d2⟩ := X_str (g := g) (C := C) hF a2 k4 (by decide) (by omega)
      obtain ⟨ρ6, n1, n2⟩ := X_112 (g := g) (C := C) (a := S + oSb n 0 s) (x := zi (k + 1)) hF d2 (by simp only [List.length_append, List.length_cons, List.length_nil] at *; omega)
      refine ⟨ρ6, H1, ?_, ?_⟩
      · unfold s_ListText_addLine
        rw [o1, Option.bind_some, e1, a1, Option.bind_some, Option.bind_some, x_isSb (by decide) hs, Option.bind_some, fa, Option.bind_some]
        dsimp only
        rw [if_neg (by rw [z2]; exact h2), if_neg (by rw [z3]; exact h3), p2, Option.bind_some, g4, Option.bind_some, Option.bind_some, p4, Option.bind_some, d1, Option.bind_some]
        exact n1
      · unfold cLin
        rw [if_neg h2, if_neg h3]
        simp only [List.append_assoc, List.cons_append, List.nil_append] at n2 ⊢
        exact n2
theorem cTo_nat (hb : bkOK C n s) : ∀ k, k ≤ C.1 (oSb n 0 s) 2 → ∃ p, p ≤ 1000000000000 * k ∧ cTo C n s k = zl p := by
  intro k
  induction k with
  | zero => exact fun _ => ⟨0, Nat.zero_le _, rfl⟩
  | succ k ih =>
    intro hk
    obtain ⟨p, h1, h2⟩ := ih (by omega)
    rw [cTo, h2]
    by_cases hf : C.1 (oFa n 0 s) k = 2
    · obtain ⟨q, h3, h4⟩ := (hb.2.2 k (by omega)).2 hf
      rw [if_pos hf, h4, zl_add]
      exact ⟨p + q, by omega, rfl⟩
    · rw [if_neg hf]
      exact ⟨p, by omega, rfl⟩
theorem X_write5 (hF : S + cF n ≤ F) (hs : s < 3) (hb : bkOK C n s) (hg : txK g S ρ0) : ∀ (m k fuel : Nat) (ρ : zS) (H : Nat → Int32), k + m = C.1 (oSb n 0 s) 2 → m < fuel → TX F T D U ρ0 ρ (cLs C n s k) 0 H → ∃ ρ' ρ'' H', s_ListText_write_5 g fuel T (some (S + oSb n 0 s)) (cTo C n s k) (zi (k + 1)) (cW S n C ρ) = some (some ρ''.1, cW S n C ρ') ∧ TX F T D U ρ0 ρ'' (cAll C n s) 0 H' ∧ strC S F ρ' ρ''.1 (cAll C n s) ∧ (∀ p, p < T → ρ'.2.2 p = ρ0.2.2 p) ∧ ρ'.1 = ρ''.1 + 2 ∧ ρ'.2.1 = ρ''.2.1 + 4 + (cAll C n s).length := by
  have hb1 := hb.1
  intro m
  induction m with
  | zero =>
    intro k fuel ρ H h1 h2 h
    obtain ⟨fuel, rfl⟩ : ∃ k, fuel = k + 1 := ⟨fuel - 1, by omega⟩
    have e0 : k = C.1 (oSb n 0 s) 2 := by omega
    subst e0
    have hll := cLs_len (C := C) (n := n) (s := s) (C.1 (oSb n 0 s) 2)
    obtain ⟨_, _, _, ⟨q5, g5, k5⟩⟩ := hg
    obtain ⟨p, hp1, hp2⟩ := cTo_nat hb (C.1 (oSb n 0 s) 2) (Nat.le_refl _)
    have bm := tN_len (v := p / 100)
    have by1 := tN_len (v := C.1 (oSb n 0 s) 1)
    have hy := hb.2.1
    have e1 : (zi (C.1 (oSb n 0 s) 1)).toInt64 = zl (C.1 (oSb n 0 s) 1) := zi_i64 hy
    obtain ⟨o1, o2, _, o4, _⟩ := TX.obs (C := C) hF h
    obtain ⟨ρ1, a1, a2⟩ := X_str (g := g) (C := C) hF h k5 (by decide) (by omega)
    obtain ⟨p1, p2, _, p4, _⟩ := TX.obs (C := C) hF a2
    obtain ⟨ρ2, H2, b1, b2⟩ := X_amt (g := g) (C := C) (v := p) hF (by omega) (by simp only [List.length_append, List.length_cons, List.length_nil] at *; omega) a2
    obtain ⟨r1, r2, _, r4, _⟩ := TX.obs (C := C) hF b2
    obtain ⟨ρ3, d1, d2⟩ := X_app (g := g) (C := C) (c := 32) hF b2 (by decide) (by simp only [List.length_append, List.length_cons, List.length_nil] at *; omega)
    obtain ⟨u1, u2, _, u4, _⟩ := TX.obs (C := C) hF d2
    obtain ⟨ρ4, H4, f1, f2⟩ := X_numN (g := g) (C := C) (v := C.1 (oSb n 0 s) 1) hF (by omega) (by simp only [List.length_append, List.length_cons, List.length_nil] at *; omega) d2
    obtain ⟨w1, w2, _, w4, _⟩ := TX.obs (C := C) hF f2
    obtain ⟨ρ5, j1, j2⟩ := X_app (g := g) (C := C) (c := 10) hF f2 (by decide) (by simp only [List.length_append, List.length_cons, List.length_nil] at *; omega)
    obtain ⟨z1, z2, _, z4, _⟩ := TX.obs (C := C) hF j2
    obtain ⟨ρ6, m1, m2, m3, m4, m5⟩ := X_toS (g := g) (C := C) hF j2 (by simp only [List.length_append, List.length_cons, List.length_nil] at *; omega)
    have ea : cLs C n s (C.1 (oSb n 0 s) 2) ++ [84, 32] ++ (tN (p / 100) ++ [46, 48 + p / 10 % 10, 48 + p % 10]) ++ [32] ++ tN (C.1 (oSb n 0 s) 1) ++ [10] = cAll C n s := by
      unfold cAll tMon
      rw [hp2, zl_nat (by omega)]
      simp only [List.append_assoc, List.cons_append, List.nil_append]
    rw [ea] at j2 m2 m5
    refine ⟨ρ6, ρ5, H4, ?_, j2, m2, m3, m4, m5⟩
    have d1' : s_StringBuilder_append g (T + 1) 32 (cW S n C ρ2) = some (some (T + 1), cW S n C ρ3) := d1
    have j1' : s_StringBuilder_append g (T + 1) 10 (cW S n C ρ4) = some (some (T + 1), cW S n C ρ5) := j1
    rw [s_ListText_write_5]
    rw [Option.bind_some, x_gSb2 (by decide) hs, Option.bind_some, if_pos (by rw [zi_lt (by omega) (by omega)]; omega), o2, Option.bind_some, g5, Option.bind_some, Option.bind_some, o4, Option.bind_some, a1, Option.bind_some]
    dsimp only
    rw [p1, Option.bind_some, hp2, b1, Option.bind_some, r2, Option.bind_some, Option.bind_some, r4, Option.bind_some, d1', Option.bind_some]
    dsimp only
    rw [x_gSb1 (by decide) hs, Option.bind_some, u1, Option.bind_some, e1, f1, Option.bind_some, w2, Option.bind_some, Option.bind_some, w4, Option.bind_some, j1', Option.bind_some]
    dsimp only
    rw [z2, Option.bind_some, Option.bind_some, z4, Option.bind_some, m1, Option.bind_some]
  | succ m ih =>
    intro k fuel ρ H h1 h2 h
    obtain ⟨fuel, rfl⟩ : ∃ k, fuel = k + 1 := ⟨fuel - 1, by omega⟩
    have hll := cLs_len (C := C) (n := n) (s := s) k
    obtain ⟨o1, o2, _, o4, _⟩ := TX.obs (C := C) hF h
    obtain ⟨ρ1, H1, a1, a2⟩ := X_line (g := g) (C := C) hF hs hb (show k < C.1 (oSb n 0 s) 2 by omega) hg h (by omega)
    obtain ⟨ρ2, ρ3, H3, b1, b2⟩ := ih (k + 1) fuel ρ1 H1 (by omega) (by omega) a2
    obtain ⟨hf, hp⟩ := hb.2.2 k (by omega)
    have z2 : (zi (C.1 (oFa n 0 s) k) = 2) = (C.1 (oFa n 0 s) k = 2) := by rw [zi_l2, zi_eq (by omega) (by omega)]
    refine ⟨ρ2, ρ3, H3, ?_, b2⟩
    rw [cTo] at b1
    rw [s_ListText_write_5]
    rw [Option.bind_some, x_gSb2 (by decide) hs, Option.bind_some, if_neg (by rw [zi_lt (by omega) (by omega)]; omega), o1, Option.bind_some, a1, Option.bind_some, x_isSb (by decide) hs, Option.bind_some, Y_fateO hs hb1 (show k < C.1 (oSb n 0 s) 2 by omega), Option.bind_some]
    dsimp only
    unfold s_ListText_write_41
    have e1 : zi (k + 1) + 1 = zi (k + 1 + 1) := by rw [zi_l1, zi_add]
    by_cases h3 : C.1 (oFa n 0 s) k = 2
    · rw [if_pos (by rw [z2]; exact h3), x_isSb (by decide) hs, Option.bind_some, Y_field hs hb1 (show k < C.1 (oSb n 0 s) 2 by omega) hf, Option.bind_some]
      dsimp only
      have i0 : cIO C n s k 0 = C.2.2.1 (oCe n 0 s) k := by
        unfold cIO
        rw [if_pos rfl, if_pos h3]
      rw [if_pos h3] at b1
      rw [i0, e1]
      exact b1
    · rw [if_neg (by rw [z2]; exact h3), e1]
      rw [if_neg h3] at b1
      exact b1
end CTEXT4
