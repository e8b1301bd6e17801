section CSHUT
variable {g : zG} {S F n T D U s : Nat} {C : cS} {ρ0 ρ ρ' : zS} {l : List Nat} {k : Nat} {H : Nat → Int32}
def txt0 (ρ : zS) : zS := zupd (znew (zupd (zupd (znew (znew (znew ρ 2 (.inr (11, [.null, .null]))) 4 (.inr (12, [.null, .int 0, .int 0, .int 0]))) 16 (.inl (2, 16, .inl (fun _ => 0)))) (ρ.1 + 1) (.inr (12, [.ref (ρ.1 + 2), .int 0, .int 0, .int 0]))) ρ.1 (.inr (11, [.ref (ρ.1 + 1), .null]))) 20 (.inl (4, 20, .inl (fun _ => 0)))) ρ.1 (.inr (11, [.ref (ρ.1 + 1), .ref (ρ.1 + 3)]))
theorem txt0_ok (hF : F ≤ ρ.1) : TX F ρ.1 (ρ.1 + 3) ρ.2.1 ρ (txt0 ρ) [] 0 (fun _ => 0) := by
  refine ⟨ρ.1 + 2, 16, fun _ => 0, .int 0, ⟨hF, by show ρ.1 + 1 < ρ.1 + 1 + 1 + 1 + 1; omega⟩, ?_, ?_, ⟨by omega, by show ρ.1 + 2 < ρ.1 + 1 + 1 + 1 + 1; omega⟩, ?_, ⟨by omega, by show ρ.1 + 3 < ρ.1 + 1 + 1 + 1 + 1; omega⟩, ?_, ⟨by decide, by decide, by decide⟩, fun j => (by show (0:Nat) < 128; omega), fun j hj => absurd hj (Nat.not_lt_zero _), by show ρ.1 + 1 + 1 + 1 + 1 ≤ ρ.1 + 4 + 16; omega, by show ρ.2.1 + 2 + 4 + 16 + 20 ≤ ρ.2.1 + 64 + 2 * 16; omega, ?_⟩
  · unfold txt0
    rw [zupd_at, if_pos rfl]
  · unfold txt0
    rw [zupd_at, if_neg (by omega), znew_at, if_neg (by show ¬ ρ.1 + 1 = ρ.1 + 1 + 1 + 1; omega), zupd_at, if_neg (by omega), zupd_at, if_pos rfl]
    rfl
  · unfold txt0
    rw [zupd_at, if_neg (by omega), znew_at, if_neg (by show ¬ ρ.1 + 2 = ρ.1 + 1 + 1 + 1; omega), zupd_at, if_neg (by omega), zupd_at, if_neg (by omega), znew_at, if_pos (by show ρ.1 + 2 = ρ.1 + 1 + 1; omega)]
    rfl
  · unfold txt0
    rw [zupd_at, if_neg (by omega), znew_at, if_pos (by show ρ.1 + 3 = ρ.1 + 1 + 1 + 1; omega)]
  · intro p hp
    unfold txt0
    rw [zupd_at, if_neg (by omega), znew_at, if_neg (by show ¬ p = ρ.1 + 1 + 1 + 1; omega), zupd_at, if_neg (by omega), zupd_at, if_neg (by omega), znew_at, if_neg (by show ¬ p = ρ.1 + 1 + 1; omega), znew_at, if_neg (by show ¬ p = ρ.1 + 1; omega), znew_at, if_neg (by omega)]
theorem X_init (hF : S + cF n ≤ ρ.1) : s_ListText_init g ρ.1 (cW S n C (znew ρ 2 (.inr (11, [.null, .null])))) = some (cW S n C (txt0 ρ)) := by
  generalize hA : znew ρ 2 (.inr (11, [.null, .null])) = A
  have a1 : A.1 = ρ.1 + 1 := by rw [← hA]; rfl
  generalize hB : znew A 4 (.inr (12, [.null, .int 0, .int 0, .int 0])) = B
  have b1 : B.1 = ρ.1 + 2 := by rw [← hB]; show A.1 + 1 = _; rw [a1]
  generalize hD : znew B 16 (.inl (2, 16, .inl (fun _ => (0 : Int32)))) = D
  have d1 : D.1 = ρ.1 + 3 := by rw [← hD]; show B.1 + 1 = _; rw [b1]
  have d2 : D.2.2 (ρ.1 + 1) = some (true, .inr (12, [.null, .int 0, .int 0, .int 0])) := by
    rw [← hD, znew_at, if_neg (by rw [b1]; omega), ← hB, znew_at, if_pos a1.symm]
  have d3 : D.2.2 ρ.1 = some (true, .inr (11, [.null, .null])) := by
    rw [← hD, znew_at, if_neg (by rw [b1]; omega), ← hB, znew_at, if_neg (by rw [a1]; omega), ← hA, znew_at, if_pos rfl]
  have s1 := ob_p (S := S) (n := n) (C := C) (m := 0) (v := .ref (ρ.1 + 2)) d2 (by omega) (by decide : 0 < 4)
  have e1 : ([.null, .int 0, .int 0, .int 0] : List Value).set 0 (.ref (ρ.1 + 2)) = [.ref (ρ.1 + 2), .int 0, .int 0, .int 0] := rfl
  rw [e1] at s1
  have d4 : (zupd D (ρ.1 + 1) (.inr (12, [.ref (ρ.1 + 2), .int 0, .int 0, .int 0]))).2.2 (ρ.1 + 1) = some (true, .inr (12, [.ref (ρ.1 + 2), .int 0, .int 0, .int 0])) := by
    rw [zupd_at, if_pos rfl]
  have s2 := ob_p (S := S) (n := n) (C := C) (m := 1) (v := .int 0) d4 (by omega) (by decide : 1 < 4)
  rw [zupd2] at s2
  have e2 : ([.ref (ρ.1 + 2), .int 0, .int 0, .int 0] : List Value).set 1 (.int 0) = [.ref (ρ.1 + 2), .int 0, .int 0, .int 0] := rfl
  rw [e2] at s2
  generalize hE : zupd D (ρ.1 + 1) (.inr (12, [.ref (ρ.1 + 2), .int 0, .int 0, .int 0])) = E at *
  have e3 : E.1 = ρ.1 + 3 := by rw [← hE]; exact d1
  have e4 : E.2.2 ρ.1 = some (true, .inr (11, [.null, .null])) := by
    rw [← hE, zupd_at, if_neg (by omega), d3]
  have s3 := ob_p (S := S) (n := n) (C := C) (m := 0) (v := .ref (ρ.1 + 1)) e4 (by omega) (by decide : 0 < 2)
  have e5 : ([.null, .null] : List Value).set 0 (.ref (ρ.1 + 1)) = [.ref (ρ.1 + 1), .null] := rfl
  rw [e5] at s3
  generalize hG : zupd E ρ.1 (.inr (11, [.ref (ρ.1 + 1), .null])) = G at *
  have g1 : G.1 = ρ.1 + 3 := by rw [← hG]; exact e3
  have g2 : (znew G 20 (.inl (4, 20, .inl (fun _ => (0 : Int32))))).2.2 ρ.1 = some (true, .inr (11, [.ref (ρ.1 + 1), .null])) := by
    rw [znew_at, if_neg (by rw [g1]; omega), ← hG, zupd_at, if_pos rfl]
  have s4 := ob_p (S := S) (n := n) (C := C) (m := 1) (v := .ref (ρ.1 + 3)) g2 (by omega) (by decide : 1 < 2)
  have e6 : ([.ref (ρ.1 + 1), .null] : List Value).set 1 (.ref (ρ.1 + 3)) = [.ref (ρ.1 + 1), .ref (ρ.1 + 3)] := rfl
  rw [e6] at s4
  have l16 : zlen 16 = some 16 := rfl
  have l20 : zlen 20 = some 20 := rfl
  have ff : zupd (znew G 20 (.inl (4, 20, .inl (fun _ => (0 : Int32))))) ρ.1 (.inr (11, [.ref (ρ.1 + 1), .ref (ρ.1 + 3)])) = txt0 ρ := by
    unfold txt0
    rw [← hG, ← hE, ← hD, ← hB, ← hA]
  have sb : s_StringBuilder_init g (cW S n C A).1 (cW S n C B) = some (cW S n C E) := by
    have q1 : (cW S n C A).1 = ρ.1 + 1 := a1
    have q2 : (cW S n C B).1 = ρ.1 + 2 := b1
    unfold s_StringBuilder_init s_AbstractStringBuilder_init s_AbstractStringBuilder_init_38
    rw [q1, l16, Option.bind_some, Option.bind_some, cW_znew (by rw [b1]; omega), hD, q2, s1, Option.bind_some, s2, Option.bind_some, Option.bind_some]
  unfold s_ListText_init
  rw [Option.bind_some, cW_znew (by rw [a1]; omega), hB, sb, Option.bind_some]
  have q1 : (cW S n C A).1 = ρ.1 + 1 := a1
  have q3 : (cW S n C G).1 = ρ.1 + 3 := g1
  rw [q1, s3, Option.bind_some, l20, Option.bind_some, Option.bind_some, cW_znew (by rw [g1]; omega), q3, s4, Option.bind_some, ff]
theorem cLin_st {v : Nat} (hs : s < 3) : cLin (cSN C (oSb n 0 s) 0 v) n s k = cLin C n s k := by
  have h : ¬ oFa n 0 s = oSb n 0 s := by unfold oFa oSb; omega
  have e : (cSN C (oSb n 0 s) 0 v).1 (oFa n 0 s) k = C.1 (oFa n 0 s) k := if_neg (fun q => h q.1)
  unfold cLin
  rw [e]
  rfl
theorem cAll_st {v : Nat} (hs : s < 3) : cAll (cSN C (oSb n 0 s) 0 v) n s = cAll C n s := by
  have h : ¬ oFa n 0 s = oSb n 0 s := by unfold oFa oSb; omega
  have h1 : ∀ k, cLs (cSN C (oSb n 0 s) 0 v) n s k = cLs C n s k := by
    intro k
    induction k with
    | zero => rfl
    | succ k ih => rw [cLs, cLs, ih, cLin_st hs]
  have h2 : ∀ k, cTo (cSN C (oSb n 0 s) 0 v) n s k = cTo C n s k := by
    intro k
    induction k with
    | zero => rfl
    | succ k ih =>
      have e : (cSN C (oSb n 0 s) 0 v).1 (oFa n 0 s) k = C.1 (oFa n 0 s) k := if_neg (fun q => h q.1)
      rw [cTo, cTo, ih, e]
      rfl
  have e2 : (cSN C (oSb n 0 s) 0 v).1 (oSb n 0 s) 2 = C.1 (oSb n 0 s) 2 := if_neg (by omega)
  have e1 : (cSN C (oSb n 0 s) 0 v).1 (oSb n 0 s) 1 = C.1 (oSb n 0 s) 1 := if_neg (by omega)
  unfold cAll
  rw [e2, e1, h1, h2]
theorem bkOK_st {v : Nat} (hb : bkOK C n s) : bkOK (cSN C (oSb n 0 s) 0 v) n s := by
  have h : ¬ oFa n 0 s = oSb n 0 s := by unfold oFa oSb; omega
  have e2 : (cSN C (oSb n 0 s) 0 v).1 (oSb n 0 s) 2 = C.1 (oSb n 0 s) 2 := if_neg (by omega)
  have e1 : (cSN C (oSb n 0 s) 0 v).1 (oSb n 0 s) 1 = C.1 (oSb n 0 s) 1 := if_neg (by omega)
  have e : ∀ k, (cSN C (oSb n 0 s) 0 v).1 (oFa n 0 s) k = C.1 (oFa n 0 s) k := fun k => if_neg (fun q => h q.1)
  unfold bkOK at hb ⊢
  rw [e2, e1]
  refine ⟨hb.1, hb.2.1, fun k hk => ?_⟩
  rw [e]
  exact hb.2.2 k hk
theorem cAll_len (hb : bkOK C n s) : (cAll C n s).length ≤ 30100 := by
  have h1 := cLs_len (C := C) (n := n) (s := s) (C.1 (oSb n 0 s) 2)
  have h2 := tMon_len (v := (cTo C n s (C.1 (oSb n 0 s) 2)).toNatClampNeg)
  have h3 := tN_len (v := C.1 (oSb n 0 s) 1)
  have h4 := hb.1
  unfold cAll
  simp only [List.length_append, List.length_cons, List.length_nil]
  omega
theorem Y_shut (hF : S + cF n ≤ F) (hF2 : F ≤ ρ.1) (hs : s < 3) (hb : bkOK C n s) (hg : txK g S ρ) : ∃ p ρ1, s_SeriesBook_shut g (S + oSb n 0 s) (cW S n C ρ) = some (cW S n (cSP (cSN C (oSb n 0 s) 0 2) (oSb n 0 s) 7 (some p)) ρ1) ∧ strC S F ρ1 p (cAll C n s) ∧ (∀ q, q < ρ.1 → ρ1.2.2 q = ρ.2.2 q) ∧ ρ.1 ≤ ρ1.1 ∧ ρ1.1 ≤ ρ.1 + 70000 ∧ ρ1.2.1 ≤ ρ.2.1 + 220000 := by
  have hb2 := bkOK_st (v := 2) hb
  have h0 : TX F ρ.1 (ρ.1 + 3) ρ.2.1 ρ (txt0 ρ) (cLs (cSN C (oSb n 0 s) 0 2) n s 0) 0 (fun _ => 0) := txt0_ok hF2
  obtain ⟨ρ1, ρ2, H2, a1, a2, a3, a4, a5, a6⟩ := X_write5 (g := g) (S := S) (C := cSN C (oSb n 0 s) 0 2) hF hs hb2 hg (C.1 (oSb n 0 s) 2) 0 zfuel (txt0 ρ) _ (by show 0 + C.1 (oSb n 0 s) 2 = if _ then _ else _; rw [if_neg (by omega)]; omega) (by have := hb.1; unfold zfuel; omega) h0
  have hlen := cAll_len hb
  rw [cAll_st hs] at a2 a3 a6
  obtain ⟨v, cap, bb, x2, h1, h2, h3, h4, h5, h6, h7, h8, h9, h10, h11, h12, h13⟩ := a2
  have t1 : (txt0 ρ).1 = ρ.1 + 4 := rfl
  refine ⟨ρ2.1, ρ1, ?_, a3, a4, by omega, by omega, by omega⟩
  · have w1 : zpF (cW S n C ρ) (S + oSb n 0 s) 5 0 (.int 2) = some (cW S n (cSN C (oSb n 0 s) 0 2) ρ) := x_pSb0 (v := 2) (by decide) hs
    have w2 : s_ListText_init g (cW S n (cSN C (oSb n 0 s) 0 2) ρ).1 (cW S n (cSN C (oSb n 0 s) 0 2) (znew ρ 2 (.inr (11, [.null, .null])))) = some (cW S n (cSN C (oSb n 0 s) 0 2) (txt0 ρ)) := X_init (by omega)
    have w3 : zis (cW S n (cSN C (oSb n 0 s) 0 2) (txt0 ρ)) (cW S n (cSN C (oSb n 0 s) 0 2) ρ).1 11 = some () := (TX.obs (S := S) (n := n) (C := cSN C (oSb n 0 s) 0 2) hF h0).1
    have w4 : s_ListText_write g (cW S n (cSN C (oSb n 0 s) 0 2) ρ).1 (some (S + oSb n 0 s)) (cW S n (cSN C (oSb n 0 s) 0 2) (txt0 ρ)) = some (some ρ2.1, cW S n (cSN C (oSb n 0 s) 0 2) ρ1) := by
      unfold s_ListText_write
      exact a1
    unfold s_SeriesBook_shut
    rw [w1, Option.bind_some, Option.bind_some, cW_znew (by omega), w2, Option.bind_some, w3, Option.bind_some, w4, Option.bind_some]
    dsimp only
    rw [x_pSb7 (by decide) hs, Option.bind_some]
end CSHUT
