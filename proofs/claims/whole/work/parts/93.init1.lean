section INIT1
variable {g : zG} {e S n k c o j m : Nat} {σ0 σ : zS} {cs cs' : Nat → zY} {y : zY} {ci : Nat} {fs : List Value} {v : Value}
/-- a world in which the cells from S on are being made -/
def IW (S : Nat) (σ0 : zS) (k c : Nat) (cs : Nat → zY) (σ : zS) : Prop := σ.1 = S + k ∧ σ.2.1 = c ∧ (∀ p, p < S → σ.2.2 p = σ0.2.2 p) ∧ ∀ o, o < k → σ.2.2 (S + o) = some (true, cs o)
theorem IW.cg (h : IW S σ0 k c cs σ) (hc : ∀ o, o < k → cs' o = cs o) : IW S σ0 k c cs' σ := ⟨h.1, h.2.1, h.2.2.1, fun o ho => by rw [hc o ho]; exact h.2.2.2 o ho⟩
theorem IW.new (h : IW S σ0 k c cs σ) : IW S σ0 (k + 1) (c + m) (va_up cs k y) (znew σ m y) := by
  obtain ⟨h1, h2, h3, h4⟩ := h
  refine ⟨by show σ.1 + 1 = _; omega, by show σ.2.1 + m = _; omega, fun p hp => ?_, fun o ho => ?_⟩
  · rw [znew_at, if_neg (by omega)]; exact h3 p hp
  · rw [znew_at]
    by_cases hok : o = k
    · subst hok
      rw [if_pos (by omega), va_up_self]
    · rw [if_neg (by omega), va_up_ne _ _ hok]
      exact h4 o (by omega)
theorem IW.upd (h : IW S σ0 k c cs σ) (ho : o < k) : IW S σ0 k c (va_up cs o y) (zupd σ (S + o) y) := by
  obtain ⟨h1, h2, h3, h4⟩ := h
  refine ⟨h1, h2, fun p hp => ?_, fun o' ho' => ?_⟩
  · rw [zupd_at, if_neg (by omega)]; exact h3 p hp
  · rw [zupd_at]
    by_cases hok : o' = o
    · subst hok
      rw [if_pos rfl, va_up_self]
    · rw [if_neg (by omega), va_up_ne _ _ hok]
      exact h4 o' ho'
theorem IW.ob (h : IW S σ0 k c cs σ) (ho : o < k) (hc : cs o = .inr (ci, fs)) : zfs σ (S + o) ci = some fs ∧ zown σ (S + o) = true ∧ zcls σ (S + o) = some ci := by
  have h4 := h.2.2.2 o ho
  rw [hc] at h4
  refine ⟨?_, ?_, ?_⟩
  · unfold zfs; rw [h4]; exact if_pos rfl
  · unfold zown; rw [h4]
  · unfold zcls; rw [h4]
theorem IW.put (h : IW S σ0 k c cs σ) (ho : o < k) (hc : cs o = .inr (ci, fs)) (hj : j < fs.length) : zpF σ (S + o) ci j v = some (zupd σ (S + o) (.inr (ci, fs.set j v))) := by
  obtain ⟨h1, h2, -⟩ := h.ob ho hc
  have h4 : j < fs.length ∧ zown σ (S + o) = true := ⟨hj, h2⟩
  simp only [zpF, h1, if_pos h4]
theorem IW.getR {x : Nat} (h : IW S σ0 k c cs σ) (ho : o < k) (hc : cs o = .inr (ci, fs)) (hx : fs[j]? = some (.ref x)) : zgR σ (S + o) ci j = some (some x) := by
  obtain ⟨h1, -⟩ := h.ob ho hc
  simp only [zgR, h1, hx]
theorem IW.setR {t N i o' ci' : Nat} {G : Nat → Option Nat} {fs' : List Value} (h : IW S σ0 k c cs σ) (ho : o < k) (hc : cs o = .inl (t, N, rfs G)) (hi : i < N) (hN : N ≤ 1000) (ho' : o' < k) (hc' : cs o' = .inr (ci', fs')) (ha : zasg.contains (t, ci') = true) : zsR σ (S + o) t (zi i) (some (S + o')) = some (zupd σ (S + o) (.inl (t, N, rfs (va_up G i (some (S + o')))))) := by
  have h4 := h.2.2.2 o ho
  rw [hc] at h4
  have h5 := h.2.2.2 o' ho'
  rw [hc'] at h5
  have hr : zokR σ t (some (S + o')) = true := by
    unfold zokR
    dsimp only
    rw [h5]
    exact ha
  have hw : zown σ (S + o) = true := by unfold zown; rw [h4]
  unfold zsR zar
  rw [h4]
  dsimp only
  rw [if_pos rfl]
  unfold rfs
  dsimp only
  rw [if_neg, zi_nat (by omega)]
  rintro ((h | h) | h)
  · exact zi_in hi (by omega) h
  · rw [hw] at h; cases h
  · rw [hr] at h; cases h
theorem va_up_same {α : Type} {f : Nat → α} {k : Nat} {a b : α} : va_up (va_up f k a) k b = va_up f k b := by
  funext j
  unfold va_up
  by_cases h : j = k
  · rw [if_pos h, if_pos h]
  · rw [if_neg h, if_neg h, if_neg h]
/-- a list is made -/
theorem I_list (h : IW S σ0 k c cs σ) (ho : o < k) (hc : cs o = .inr (3, [.null, .int 0, .int 0])) (hg : g 0 = some e) : ∃ σ', s_ArrayList_init g (S + o) σ = some σ' ∧ IW S σ0 k c (va_up cs o (.inr (3, [.ref e, .int 0, .int 0]))) σ' := by
  have h1 := h.put (v := .int 0) ho hc (j := 2) (by show 2 < 3; omega)
  have h2 := h.upd (y := .inr (3, [.null, .int 0, .int 0])) ho
  have h3 := h2.put (v := .ref e) ho (va_up_self _ _ _) (j := 0) (by show 0 < 3; omega)
  have h4 := h2.upd (y := .inr (3, [.ref e, .int 0, .int 0])) ho
  rw [va_up_same] at h4
  refine ⟨_, ?_, h4⟩
  unfold s_ArrayList_init s_AbstractList_init s_AbstractCollection_init
  rw [Option.bind_some, h1, Option.bind_some, Option.bind_some, hg, Option.bind_some]
  exact congrArg (fun q => Option.bind q fun σ6 => some σ6) h3
theorem I_bs (h : IW S σ0 k c cs σ) (hk : k = o + 1) (hc : cs o = .inr (2, [.null, .null, .int 0, .int 0, .int 0, .int 0, .int 0, .int 0, .int 0, .int 0])) (hg : g 0 = some e) (hcs : ∀ x, x < o → cs' x = cs x) (h0 : cs' o = .inr (2, [.ref (S + (o + 1)), .ref (S + (o + 2)), .int 0, .int 0, .int 0, .int 0, .int 0, .int 0, .int 0, .int 0])) (h1 : cs' (o + 1) = .inr (3, [.ref e, .int 0, .int 0])) (h2 : cs' (o + 2) = .inr (3, [.ref e, .int 0, .int 0])) : ∃ σ', s_BranchSeries_init g (S + o) σ = some σ' ∧ IW S σ0 (o + 3) (c + 6) cs' σ' := by
  subst hk
  have a1 := h.new (m := 3) (y := .inr (3, [.null, .int 0, .int 0]))
  obtain ⟨σ2, b1, b2⟩ := I_list (g := g) a1 (o := o + 1) (by omega) (va_up_self _ _ _) hg
  have b3 := b2.put (v := .ref (S + (o + 1))) (o := o) (ci := 2) (fs := [.null, .null, .int 0, .int 0, .int 0, .int 0, .int 0, .int 0, .int 0, .int 0]) (j := 0) (by omega) (by rw [va_up_ne _ _ (by omega), va_up_ne _ _ (by omega)]; exact hc) (by show 0 < 10; omega)
  have b4 := b2.upd (o := o) (y := .inr (2, [.ref (S + (o + 1)), .null, .int 0, .int 0, .int 0, .int 0, .int 0, .int 0, .int 0, .int 0])) (by omega)
  have c1 := b4.new (m := 3) (y := .inr (3, [.null, .int 0, .int 0]))
  obtain ⟨σ3, d1, d2⟩ := I_list (g := g) c1 (o := o + 2) (by omega) (va_up_self _ _ _) hg
  have d3 := d2.put (v := .ref (S + (o + 2))) (o := o) (ci := 2) (fs := [.ref (S + (o + 1)), .null, .int 0, .int 0, .int 0, .int 0, .int 0, .int 0, .int 0, .int 0]) (j := 1) (by omega) (by rw [va_up_ne _ _ (by omega), va_up_ne _ _ (by omega)]; exact va_up_self _ _ _) (by show 1 < 10; omega)
  have d4 := d2.upd (o := o) (y := .inr (2, [.ref (S + (o + 1)), .ref (S + (o + 2)), .int 0, .int 0, .int 0, .int 0, .int 0, .int 0, .int 0, .int 0])) (by omega)
  refine ⟨_, ?_, d4.cg (fun x hx => ?_)⟩
  · unfold s_BranchSeries_init
    rw [Option.bind_some, h.1, b1, Option.bind_some, b3, Option.bind_some, Option.bind_some]
    have e1 : (zupd σ2 (S + o) (.inr (2, List.set [.null, .null, .int 0, .int 0, .int 0, .int 0, .int 0, .int 0, .int 0, .int 0] 0 (.ref (S + (o + 1)))))).1 = S + (o + 2) := b4.1
    rw [e1]
    have d1' : s_ArrayList_init g (S + (o + 2)) (znew (zupd σ2 (S + o) (.inr (2, List.set [.null, .null, .int 0, .int 0, .int 0, .int 0, .int 0, .int 0, .int 0, .int 0] 0 (.ref (S + (o + 1)))))) 3 (.inr (3, [.null, .int 0, .int 0]))) = some σ3 := d1
    rw [d1', Option.bind_some, d3, Option.bind_some]
    rfl
  · rcases (show x < o ∨ x = o ∨ x = o + 1 ∨ x = o + 2 by omega) with hx | rfl | rfl | rfl
    · rw [va_up_ne _ _ (by omega), va_up_ne _ _ (by omega), va_up_ne _ _ (by omega), va_up_ne _ _ (by omega), va_up_ne _ _ (by omega), va_up_ne _ _ (by omega)]; exact hcs x hx
    · rw [va_up_self]; exact h0
    · rw [va_up_ne _ _ (by omega), va_up_ne _ _ (by omega), va_up_ne _ _ (by omega), va_up_ne _ _ (by omega), va_up_self]; exact h1
    · rw [va_up_ne _ _ (by omega), va_up_self]; exact h2
theorem zlen_300 : zlen 300 = some 300 := by decide
theorem zlen_3 : zlen 3 = some 3 := by decide
/-- a book of the office is made -/
theorem I_sb {q : Nat} (h : IW S σ0 k c cs σ) (hk : k = o + 1) (hc : cs o = .inr (5, [.int 0, .int 0, .int 0, .null, .null, .null, .null, .null])) (hg : g 20 = some q) (hcs : ∀ x, x < o → cs' x = cs x) (h0 : cs' o = .inr (5, [.int 0, .int 0, .int 0, .ref (S + (o + 1)), .ref (S + (o + 2)), .ref (S + (o + 3)), .ref (S + (o + 4)), .ref q])) (h1 : cs' (o + 1) = .inl (0, 300, .inl (fun _ => 0))) (h2 : cs' (o + 2) = .inl (0, 300, .inl (fun _ => 0))) (h3 : cs' (o + 3) = .inl (1, 300, .inr (.inl (fun _ => 0)))) (h4 : cs' (o + 4) = .inl (0, 300, .inl (fun _ => 0))) : ∃ σ', s_SeriesBook_init g (S + o) σ = some σ' ∧ IW S σ0 (o + 5) (c + 1200) cs' σ' := by
  subst hk
  have p0 := h.put (v := .int 0) (j := 0) (by omega) hc (by show 0 < 8; omega)
  have w0 := h.upd (o := o) (y := .inr (5, [.int 0, .int 0, .int 0, .null, .null, .null, .null, .null])) (by omega)
  have n1 := w0.new (m := 300) (y := .inl (0, 300, .inl (fun _ => 0)))
  have p1 := n1.put (v := .ref (S + (o + 1))) (o := o) (ci := 5) (fs := [.int 0, .int 0, .int 0, .null, .null, .null, .null, .null]) (j := 3) (by omega) (by rw [va_up_ne _ _ (by omega)]; exact va_up_self _ _ _) (by show 3 < 8; omega)
  have w1 := n1.upd (o := o) (y := .inr (5, [.int 0, .int 0, .int 0, .ref (S + (o + 1)), .null, .null, .null, .null])) (by omega)
  have n2 := w1.new (m := 300) (y := .inl (0, 300, .inl (fun _ => 0)))
  have p2 := n2.put (v := .ref (S + (o + 2))) (o := o) (ci := 5) (fs := [.int 0, .int 0, .int 0, .ref (S + (o + 1)), .null, .null, .null, .null]) (j := 4) (by omega) (by rw [va_up_ne _ _ (by omega)]; exact va_up_self _ _ _) (by show 4 < 8; omega)
  have w2 := n2.upd (o := o) (y := .inr (5, [.int 0, .int 0, .int 0, .ref (S + (o + 1)), .ref (S + (o + 2)), .null, .null, .null])) (by omega)
  have n3 := w2.new (m := 300) (y := .inl (1, 300, .inr (.inl (fun _ => 0))))
  have p3 := n3.put (v := .ref (S + (o + 3))) (o := o) (ci := 5) (fs := [.int 0, .int 0, .int 0, .ref (S + (o + 1)), .ref (S + (o + 2)), .null, .null, .null]) (j := 5) (by omega) (by rw [va_up_ne _ _ (by omega)]; exact va_up_self _ _ _) (by show 5 < 8; omega)
  have w3 := n3.upd (o := o) (y := .inr (5, [.int 0, .int 0, .int 0, .ref (S + (o + 1)), .ref (S + (o + 2)), .ref (S + (o + 3)), .null, .null])) (by omega)
  have n4 := w3.new (m := 300) (y := .inl (0, 300, .inl (fun _ => 0)))
  have p4 := n4.put (v := .ref (S + (o + 4))) (o := o) (ci := 5) (fs := [.int 0, .int 0, .int 0, .ref (S + (o + 1)), .ref (S + (o + 2)), .ref (S + (o + 3)), .null, .null]) (j := 6) (by omega) (by rw [va_up_ne _ _ (by omega)]; exact va_up_self _ _ _) (by show 6 < 8; omega)
  have w4 := n4.upd (o := o) (y := .inr (5, [.int 0, .int 0, .int 0, .ref (S + (o + 1)), .ref (S + (o + 2)), .ref (S + (o + 3)), .ref (S + (o + 4)), .null])) (by omega)
  have p5 := w4.put (v := .ref q) (o := o) (ci := 5) (fs := [.int 0, .int 0, .int 0, .ref (S + (o + 1)), .ref (S + (o + 2)), .ref (S + (o + 3)), .ref (S + (o + 4)), .null]) (j := 7) (by omega) (va_up_self _ _ _) (by show 7 < 8; omega)
  have w5 := w4.upd (o := o) (y := .inr (5, [.int 0, .int 0, .int 0, .ref (S + (o + 1)), .ref (S + (o + 2)), .ref (S + (o + 3)), .ref (S + (o + 4)), .ref q])) (by omega)
  refine ⟨_, ?_, w5.cg (fun x hx => ?_)⟩
  · have f1 := w0.1
    have f2 := w1.1
    have f3 := w2.1
    have f4 := w3.1
    dsimp only [List.set] at p0 p1 p2 p3 p4 p5
    unfold s_SeriesBook_init
    rw [p0, Option.bind_some, zlen_300, Option.bind_some, Option.bind_some, f1, p1, Option.bind_some, Option.bind_some, Option.bind_some, f2, p2, Option.bind_some, Option.bind_some, Option.bind_some, f3, p3, Option.bind_some, Option.bind_some, Option.bind_some, f4, p4, Option.bind_some, hg, Option.bind_some, p5, Option.bind_some]
  · rcases (show x < o ∨ x = o ∨ x = o + 1 ∨ x = o + 2 ∨ x = o + 3 ∨ x = o + 4 by omega) with hx | rfl | rfl | rfl | rfl | rfl
    · simp (disch := omega) only [va_up_ne]; exact hcs x hx
    · rw [va_up_self]; exact h0
    · simp (disch := omega) only [va_up_ne, va_up_self]; exact h1
    · simp (disch := omega) only [va_up_ne, va_up_self]; exact h2
    · simp (disch := omega) only [va_up_ne, va_up_self]; exact h3
    · simp (disch := omega) only [va_up_ne, va_up_self]; exact h4
end INIT1
