section INIT2
variable {g : zG} {e q S n k c o j m i s : Nat} {σ0 σ : zS} {cs cs' : Nat → zY} {v1 : Int32}
def refsTo (S a d s : Nat) : Nat → Option Nat := fun t => if t < s then some (S + (a + d * t)) else none
theorem refsTo_s {a d : Nat} : va_up (refsTo S a d s) s (some (S + (a + d * s))) = refsTo S a d (s + 1) := by
  funext t
  unfold refsTo va_up
  by_cases h : t = s
  · subst h; rw [if_pos rfl, if_pos (by omega)]
  · rw [if_neg h]
    dsimp only
    by_cases h2 : t < s
    · rw [if_pos h2, if_pos (by omega)]
    · rw [if_neg h2, if_neg (by omega)]
theorem refsTo_0 {a d : Nat} : refsTo S a d 0 = fun _ => none := by
  funext t
  unfold refsTo
  rw [if_neg (by omega)]
def tB (S e o x : Nat) : zY := if (x - (o + 2)) % 3 = 0 then .inr (2, [.ref (S + (x + 1)), .ref (S + (x + 2)), .int 0, .int 0, .int 0, .int 0, .int 0, .int 0, .int 0, .int 0]) else .inr (3, [.ref e, .int 0, .int 0])
def cBs (S e o i : Nat) (cs : Nat → zY) (s x : Nat) : zY := if x < o then cs x else if x = o then .inr (1, [.int (zi i), .ref (S + (o + 1)), .null, .int 0, .int 0, .null, .int 0, .int 0, .int 1]) else if x = o + 1 then .inl (7, 3, rfs (refsTo S (o + 2) 3 s)) else tB S e o x
theorem I_br19 {N : Nat} (h : IW S σ0 (o + 2 + 3 * s) c (cBs S e o i cs s) σ) (hs : s < 3) (hg : g 0 = some e) : ∃ σ', s_Branch_init_19 g (N + 1) (S + o) v1 (zi s) σ = s_Branch_init_19 g N (S + o) v1 (zi (s + 1)) σ' ∧ IW S σ0 (o + 2 + 3 * (s + 1)) (c + 16) (cBs S e o i cs (s + 1)) σ' := by
  have x0 : cBs S e o i cs s o = .inr (1, [.int (zi i), .ref (S + (o + 1)), .null, .int 0, .int 0, .null, .int 0, .int 0, .int 1]) := by unfold cBs; rw [if_neg (by omega), if_pos rfl]
  have x1 : cBs S e o i cs s (o + 1) = .inl (7, 3, rfs (refsTo S (o + 2) 3 s)) := by unfold cBs; rw [if_neg (by omega), if_neg (by omega), if_pos rfl]
  have g1 := h.getR (j := 1) (x := S + (o + 1)) (by omega) x0 rfl
  have n1 := h.new (m := 10) (y := .inr (2, [.null, .null, .int 0, .int 0, .int 0, .int 0, .int 0, .int 0, .int 0, .int 0]))
  obtain ⟨σ2, b1, b2⟩ := I_bs (g := g) (cs' := cBs S e o i cs s) n1 rfl (va_up_self _ _ _) hg (fun x hx => by rw [va_up_ne _ _ (by omega)]) (by unfold cBs tB; rw [if_neg (by omega), if_neg (by omega), if_neg (by omega), if_pos (by omega)]) (by unfold cBs tB; rw [if_neg (by omega), if_neg (by omega), if_neg (by omega), if_neg (by omega)]) (by unfold cBs tB; rw [if_neg (by omega), if_neg (by omega), if_neg (by omega), if_neg (by omega)])
  have b3 := b2.setR (o := o + 1) (i := s) (o' := o + 2 + 3 * s) (ci' := 2) (by omega) x1 hs (by omega) (by omega) (by unfold cBs tB; rw [if_neg (by omega), if_neg (by omega), if_neg (by omega), if_pos (by omega)]) (by decide)
  have b4 := b2.upd (o := o + 1) (y := .inl (7, 3, rfs (va_up (refsTo S (o + 2) 3 s) s (some (S + (o + 2 + 3 * s)))))) (by omega)
  refine ⟨_, ?_, (show IW S σ0 (o + 2 + 3 * (s + 1)) (c + 16) _ _ from b4).cg (fun x hx => ?_)⟩
  · rw [s_Branch_init_19, if_neg (by rw [zi_l3, zi_le (by omega) (by omega)]; omega), g1, Option.bind_some, Option.bind_some, h.1, b1, Option.bind_some, Option.bind_some, b3, Option.bind_some]
    have e1 : zi s + 1 = zi (s + 1) := zi_add s 1
    rw [e1]
  · by_cases hx1 : x = o + 1
    · subst hx1
      rw [va_up_self, refsTo_s]
      unfold cBs; rw [if_neg (by omega), if_neg (by omega), if_pos rfl]
    · rw [va_up_ne _ _ hx1]
      unfold cBs
      rw [if_neg hx1, if_neg hx1]
/-- a branch is made -/
theorem I_br (h : IW S σ0 k c cs σ) (hk : k = o + 1) (hc : cs o = .inr (1, [.int 0, .null, .null, .int 0, .int 0, .null, .int 0, .int 0, .int 0])) (hg : g 0 = some e) : ∃ σ', s_Branch_init g (S + o) (zi i) σ = some σ' ∧ IW S σ0 (o + 11) (c + 51) (cBs S e o i cs 3) σ' := by
  subst hk
  have z1 := (h.ob (o := o) (by omega) hc).2.2
  have p0 := h.put (v := .int 1) (j := 8) (by omega) hc (by show 8 < 9; omega)
  have w0 := h.upd (o := o) (y := .inr (1, [.int 0, .null, .null, .int 0, .int 0, .null, .int 0, .int 0, .int 1])) (by omega)
  have n1 := w0.new (m := 3) (y := .inl (7, 3, rfs (fun _ => none)))
  have p1 := n1.put (v := .ref (S + (o + 1))) (o := o) (ci := 1) (fs := [.int 0, .null, .null, .int 0, .int 0, .null, .int 0, .int 0, .int 1]) (j := 1) (by omega) (by rw [va_up_ne _ _ (by omega)]; exact va_up_self _ _ _) (by show 1 < 9; omega)
  have w1 := n1.upd (o := o) (y := .inr (1, [.int 0, .ref (S + (o + 1)), .null, .int 0, .int 0, .null, .int 0, .int 0, .int 1])) (by omega)
  have p2 := w1.put (v := .int (zi i)) (o := o) (ci := 1) (fs := [.int 0, .ref (S + (o + 1)), .null, .int 0, .int 0, .null, .int 0, .int 0, .int 1]) (j := 0) (by omega) (va_up_self _ _ _) (by show 0 < 9; omega)
  have w2 := w1.upd (o := o) (y := .inr (1, [.int (zi i), .ref (S + (o + 1)), .null, .int 0, .int 0, .null, .int 0, .int 0, .int 1])) (by omega)
  have w3 : IW S σ0 (o + 2 + 3 * 0) (c + 3) (cBs S e o i cs 0) _ := w2.cg (fun x hx => by
    rcases (show x < o ∨ x = o ∨ x = o + 1 by omega) with hx | rfl | rfl
    · simp (disch := omega) only [va_up_ne]
      unfold cBs; rw [if_pos hx]
    · rw [va_up_self]; unfold cBs; rw [if_neg (by omega), if_pos rfl]
    · simp (disch := omega) only [va_up_ne, va_up_self]
      unfold cBs; rw [if_neg (by omega), if_neg (by omega), if_pos rfl, refsTo_0])
  obtain ⟨σ1, r1, i1⟩ := I_br19 (g := g) (v1 := zi i) (N := 1048575) w3 (by omega) hg
  obtain ⟨σ2, r2, i2⟩ := I_br19 (g := g) (v1 := zi i) (N := 1048574) i1 (by omega) hg
  obtain ⟨σ3, r3, i3⟩ := I_br19 (g := g) (v1 := zi i) (N := 1048573) i2 (by omega) hg
  refine ⟨σ3, ?_, i3⟩
  have f1 := w0.1
  dsimp only [List.set] at p0 p1 p2
  unfold s_Branch_init s_Side_init zpF2
  rw [if_pos z1, p0, Option.bind_some, Option.bind_some, zlen_3, Option.bind_some, Option.bind_some, f1]
  have p1' : zpF (znew (zupd σ (S + o) (.inr (1, [.int 0, .null, .null, .int 0, .int 0, .null, .int 0, .int 0, .int 1]))) 3 (.inl (7, 3, .inr (.inr (.inr (.inr (fun _ => none))))))) (S + o) 1 1 (.ref (S + (o + 1))) = _ := p1
  rw [p1', Option.bind_some, p2, Option.bind_some]
  have e0 : zfuel = 1048575 + 1 := rfl
  have r1' := r1
  rw [show zi 0 = (0 : Int32) from rfl] at r1'
  rw [e0, r1', r2, r3, s_Branch_init_19, if_pos (by rw [zi_l3, zi_le (by omega) (by omega)]; omega)]
def tO (S q o x : Nat) : zY := if (x - (o + 3)) % 5 = 0 then .inr (5, [.int 0, .int 0, .int 0, .ref (S + (x + 1)), .ref (S + (x + 2)), .ref (S + (x + 3)), .ref (S + (x + 4)), .ref q]) else if (x - (o + 3)) % 5 = 3 then .inl (1, 300, .inr (.inl (fun _ => 0))) else .inl (0, 300, .inl (fun _ => 0))
def cOs (S q o : Nat) (cs : Nat → zY) (s x : Nat) : zY := if x < o then cs x else if x = o then .inr (4, [.ref (S + (o + 1)), .ref (S + (o + 2)), .null, .null, .null, .null, .int 1]) else if x = o + 1 then .inl (8, 3, rfs (refsTo S (o + 3) 10 s)) else if x = o + 2 then .inl (8, 3, rfs (refsTo S (o + 8) 10 s)) else tO S q o x
theorem I_of22 {N : Nat} (h : IW S σ0 (o + 3 + 10 * s) c (cOs S q o cs s) σ) (hs : s < 3) (hg : g 20 = some q) : ∃ σ', s_Office_init_22 g (N + 1) (S + o) v1 (zi s) σ = s_Office_init_22 g N (S + o) v1 (zi (s + 1)) σ' ∧ IW S σ0 (o + 3 + 10 * (s + 1)) (c + 2416) (cOs S q o cs (s + 1)) σ' := by
  have x0 : cOs S q o cs s o = .inr (4, [.ref (S + (o + 1)), .ref (S + (o + 2)), .null, .null, .null, .null, .int 1]) := by unfold cOs; rw [if_neg (by omega), if_pos rfl]
  have x1 : cOs S q o cs s (o + 1) = .inl (8, 3, rfs (refsTo S (o + 3) 10 s)) := by unfold cOs; rw [if_neg (by omega), if_neg (by omega), if_pos rfl]
  have x2 : cOs S q o cs s (o + 2) = .inl (8, 3, rfs (refsTo S (o + 8) 10 s)) := by unfold cOs; rw [if_neg (by omega), if_neg (by omega), if_neg (by omega), if_pos rfl]
  have tx : ∀ x, o + 3 ≤ x → cOs S q o cs s x = tO S q o x := fun x hx => by unfold cOs; rw [if_neg (by omega), if_neg (by omega), if_neg (by omega), if_neg (by omega)]
  have t0 : ∀ x, (x - (o + 3)) % 5 = 0 → tO S q o x = .inr (5, [.int 0, .int 0, .int 0, .ref (S + (x + 1)), .ref (S + (x + 2)), .ref (S + (x + 3)), .ref (S + (x + 4)), .ref q]) := fun x hx => by unfold tO; rw [if_pos hx]
  have t3 : ∀ x, (x - (o + 3)) % 5 = 3 → tO S q o x = .inl (1, 300, .inr (.inl (fun _ => 0))) := fun x hx => by unfold tO; rw [if_neg (by omega), if_pos hx]
  have t1 : ∀ x, ¬ (x - (o + 3)) % 5 = 0 → ¬ (x - (o + 3)) % 5 = 3 → tO S q o x = .inl (0, 300, .inl (fun _ => 0)) := fun x h1 h2 => by unfold tO; rw [if_neg h1, if_neg h2]
  have g1 := h.getR (j := 0) (x := S + (o + 1)) (by omega) x0 rfl
  have n1 := h.new (m := 8) (y := .inr (5, [.int 0, .int 0, .int 0, .null, .null, .null, .null, .null]))
  obtain ⟨σ2, b1, b2⟩ := I_sb (g := g) (q := q) (cs' := cOs S q o cs s) n1 rfl (va_up_self _ _ _) hg (fun x hx => by rw [va_up_ne _ _ (by omega)]) (by rw [tx _ (by omega), t0 _ (by omega)]) (by rw [tx _ (by omega), t1 _ (by omega) (by omega)]) (by rw [tx _ (by omega), t1 _ (by omega) (by omega)]) (by rw [tx _ (by omega), t3 _ (by omega)]) (by rw [tx _ (by omega), t1 _ (by omega) (by omega)])
  have b3 := b2.setR (o := o + 1) (i := s) (o' := o + 3 + 10 * s) (ci' := 5) (by omega) x1 hs (by omega) (by omega) (by rw [tx _ (by omega), t0 _ (by omega)]) (by decide)
  have b4 := b2.upd (o := o + 1) (y := .inl (8, 3, rfs (va_up (refsTo S (o + 3) 10 s) s (some (S + (o + 3 + 10 * s)))))) (by omega)
  have g2 := b4.getR (j := 1) (x := S + (o + 2)) (o := o) (by omega) (by rw [va_up_ne _ _ (by omega)]; exact x0) rfl
  have n2 := b4.new (m := 8) (y := .inr (5, [.int 0, .int 0, .int 0, .null, .null, .null, .null, .null]))
  obtain ⟨σ3, d1, d2⟩ := I_sb (g := g) (q := q) (cs' := va_up (cOs S q o cs s) (o + 1) (.inl (8, 3, rfs (va_up (refsTo S (o + 3) 10 s) s (some (S + (o + 3 + 10 * s))))))) n2 rfl (va_up_self _ _ _) hg (fun x hx => by rw [va_up_ne _ _ (show x ≠ o + 3 + 10 * s + 5 by omega)]) (by rw [va_up_ne _ _ (by omega), tx _ (by omega), t0 _ (by omega)]) (by rw [va_up_ne _ _ (by omega), tx _ (by omega), t1 _ (by omega) (by omega)]) (by rw [va_up_ne _ _ (by omega), tx _ (by omega), t1 _ (by omega) (by omega)]) (by rw [va_up_ne _ _ (by omega), tx _ (by omega), t3 _ (by omega)]) (by rw [va_up_ne _ _ (by omega), tx _ (by omega), t1 _ (by omega) (by omega)])
  have d3 := d2.setR (o := o + 2) (i := s) (o' := o + 3 + 10 * s + 5) (ci' := 5) (by omega) (by rw [va_up_ne _ _ (by omega)]; exact x2) hs (by omega) (by omega) (by rw [va_up_ne _ _ (by omega), tx _ (by omega), t0 _ (by omega)]) (by decide)
  have d4 := d2.upd (o := o + 2) (y := .inl (8, 3, rfs (va_up (refsTo S (o + 8) 10 s) s (some (S + (o + 3 + 10 * s + 5)))))) (by omega)
  refine ⟨_, ?_, (show IW S σ0 (o + 3 + 10 * (s + 1)) (c + 2416) _ _ from d4).cg (fun x hx => ?_)⟩
  · rw [s_Office_init_22, if_neg (by rw [zi_l3, zi_le (by omega) (by omega)]; omega), g1, Option.bind_some, Option.bind_some, h.1, b1, Option.bind_some, Option.bind_some, b3, Option.bind_some, g2, Option.bind_some, Option.bind_some]
    have e1 := b4.1
    rw [e1, d1, Option.bind_some, Option.bind_some, d3, Option.bind_some]
    have e2 : zi s + 1 = zi (s + 1) := zi_add s 1
    rw [e2]
  · by_cases hx2 : x = o + 2
    · subst hx2
      rw [va_up_self]
      have e3 : o + 3 + 10 * s + 5 = o + 8 + 10 * s := by omega
      rw [e3, refsTo_s]
      unfold cOs; rw [if_neg (by omega), if_neg (by omega), if_neg (by omega), if_pos rfl]
    · rw [va_up_ne _ _ hx2]
      by_cases hx1 : x = o + 1
      · subst hx1
        rw [va_up_self, refsTo_s]
        unfold cOs; rw [if_neg (by omega), if_neg (by omega), if_pos rfl]
      · rw [va_up_ne _ _ hx1]
        unfold cOs
        rw [if_neg hx1, if_neg hx2, if_neg hx1, if_neg hx2]
/-- the office is made -/
theorem I_of (h : IW S σ0 k c cs σ) (hk : k = o + 1) (hc : cs o = .inr (4, [.null, .null, .null, .null, .null, .null, .int 0])) (hg : g 20 = some q) (hn : n ≤ 6) : ∃ σ', s_Office_init g (S + o) (zi n) σ = some σ' ∧ IW S σ0 (o + 37) (c + 7254 + 4 * n) (fun x => if x < o then cs x else if x = o then .inr (4, [.ref (S + (o + 1)), .ref (S + (o + 2)), .ref (S + (o + 33)), .ref (S + (o + 34)), .ref (S + (o + 35)), .ref (S + (o + 36)), .int 1]) else if x < o + 33 then cOs S q o cs 3 x else if x < o + 35 then .inl (3, n, .inl (fun _ => 0)) else .inl (9, n, rfs (fun _ => none))) σ' := by
  subst hk
  have z1 := (h.ob (o := o) (by omega) hc).2.2
  have p0 := h.put (v := .int 1) (j := 6) (by omega) hc (by show 6 < 7; omega)
  have w0 := h.upd (o := o) (y := .inr (4, [.null, .null, .null, .null, .null, .null, .int 1])) (by omega)
  have n1 := w0.new (m := 3) (y := .inl (8, 3, rfs (fun _ => none)))
  have p1 := n1.put (v := .ref (S + (o + 1))) (o := o) (ci := 4) (fs := [.null, .null, .null, .null, .null, .null, .int 1]) (j := 0) (by omega) (by rw [va_up_ne _ _ (by omega)]; exact va_up_self _ _ _) (by show 0 < 7; omega)
  have w1 := n1.upd (o := o) (y := .inr (4, [.ref (S + (o + 1)), .null, .null, .null, .null, .null, .int 1])) (by omega)
  have n2 := w1.new (m := 3) (y := .inl (8, 3, rfs (fun _ => none)))
  have p2 := n2.put (v := .ref (S + (o + 2))) (o := o) (ci := 4) (fs := [.ref (S + (o + 1)), .null, .null, .null, .null, .null, .int 1]) (j := 1) (by omega) (by rw [va_up_ne _ _ (by omega)]; exact va_up_self _ _ _) (by show 1 < 7; omega)
  have w2 := n2.upd (o := o) (y := .inr (4, [.ref (S + (o + 1)), .ref (S + (o + 2)), .null, .null, .null, .null, .int 1])) (by omega)
  have w3 : IW S σ0 (o + 3 + 10 * 0) (c + 3 + 3) (cOs S q o cs 0) _ := w2.cg (fun x hx => by
    rcases (show x < o ∨ x = o ∨ x = o + 1 ∨ x = o + 2 by omega) with hx | rfl | rfl | rfl
    · simp (disch := omega) only [va_up_ne]
      unfold cOs; rw [if_pos hx]
    · rw [va_up_self]; unfold cOs; rw [if_neg (by omega), if_pos rfl]
    · simp (disch := omega) only [va_up_ne, va_up_self]
      unfold cOs; rw [if_neg (by omega), if_neg (by omega), if_pos rfl, refsTo_0]
    · simp (disch := omega) only [va_up_ne, va_up_self]
      unfold cOs; rw [if_neg (by omega), if_neg (by omega), if_neg (by omega), if_pos rfl, refsTo_0])
  obtain ⟨σ1, r1, i1⟩ := I_of22 (g := g) (v1 := zi n) (N := 1048575) w3 (by omega) hg
  obtain ⟨σ2, r2, i2⟩ := I_of22 (g := g) (v1 := zi n) (N := 1048574) i1 (by omega) hg
  obtain ⟨σ3, r3, i3⟩ := I_of22 (g := g) (v1 := zi n) (N := 1048573) i2 (by omega) hg
  have x0 : cOs S q o cs 3 o = .inr (4, [.ref (S + (o + 1)), .ref (S + (o + 2)), .null, .null, .null, .null, .int 1]) := by unfold cOs; rw [if_neg (by omega), if_pos rfl]
  have zn : zlen (zi n) = some n := zlen_zi (by omega)
  have m1 := i3.new (m := n) (y := .inl (3, n, .inl (fun _ => 0)))
  have q1 := m1.put (v := .ref (S + (o + 33))) (o := o) (ci := 4) (fs := [.ref (S + (o + 1)), .ref (S + (o + 2)), .null, .null, .null, .null, .int 1]) (j := 2) (by omega) (by rw [va_up_ne _ _ (by omega)]; exact x0) (by show 2 < 7; omega)
  have u1 := m1.upd (o := o) (y := .inr (4, [.ref (S + (o + 1)), .ref (S + (o + 2)), .ref (S + (o + 33)), .null, .null, .null, .int 1])) (by omega)
  have m2 := u1.new (m := n) (y := .inl (3, n, .inl (fun _ => 0)))
  have q2 := m2.put (v := .ref (S + (o + 34))) (o := o) (ci := 4) (fs := [.ref (S + (o + 1)), .ref (S + (o + 2)), .ref (S + (o + 33)), .null, .null, .null, .int 1]) (j := 3) (by omega) (by rw [va_up_ne _ _ (by omega)]; exact va_up_self _ _ _) (by show 3 < 7; omega)
  have u2 := m2.upd (o := o) (y := .inr (4, [.ref (S + (o + 1)), .ref (S + (o + 2)), .ref (S + (o + 33)), .ref (S + (o + 34)), .null, .null, .int 1])) (by omega)
  have m3 := u2.new (m := n) (y := .inl (9, n, rfs (fun _ => none)))
  have q3 := m3.put (v := .ref (S + (o + 35))) (o := o) (ci := 4) (fs := [.ref (S + (o + 1)), .ref (S + (o + 2)), .ref (S + (o + 33)), .ref (S + (o + 34)), .null, .null, .int 1]) (j := 4) (by omega) (by rw [va_up_ne _ _ (by omega)]; exact va_up_self _ _ _) (by show 4 < 7; omega)
  have u3 := m3.upd (o := o) (y := .inr (4, [.ref (S + (o + 1)), .ref (S + (o + 2)), .ref (S + (o + 33)), .ref (S + (o + 34)), .ref (S + (o + 35)), .null, .int 1])) (by omega)
  have m4 := u3.new (m := n) (y := .inl (9, n, rfs (fun _ => none)))
  have q4 := m4.put (v := .ref (S + (o + 36))) (o := o) (ci := 4) (fs := [.ref (S + (o + 1)), .ref (S + (o + 2)), .ref (S + (o + 33)), .ref (S + (o + 34)), .ref (S + (o + 35)), .null, .int 1]) (j := 5) (by omega) (by rw [va_up_ne _ _ (by omega)]; exact va_up_self _ _ _) (by show 5 < 7; omega)
  have u4 := m4.upd (o := o) (y := .inr (4, [.ref (S + (o + 1)), .ref (S + (o + 2)), .ref (S + (o + 33)), .ref (S + (o + 34)), .ref (S + (o + 35)), .ref (S + (o + 36)), .int 1])) (by omega)
  refine ⟨_, ?_, (show IW S σ0 (o + 37) (c + 7254 + 4 * n) _ _ from ⟨u4.1, by rw [u4.2.1]; omega, u4.2.2.1, u4.2.2.2⟩).cg (fun x hx => ?_)⟩
  · have f0 := w0.1
    have f1 := w1.1
    have f2 := i3.1
    have f3 := u1.1
    have f4 := u2.1
    have f5 := u3.1
    dsimp only [List.set] at p0 p1 p2 q1 q2 q3 q4
    unfold s_Office_init s_Side_init zpF2
    rw [if_neg (by rw [z1]; decide), p0, Option.bind_some, Option.bind_some, zlen_3, Option.bind_some, Option.bind_some, f0]
    have p1' : zpF (znew (zupd σ (S + o) (.inr (4, [.null, .null, .null, .null, .null, .null, .int 1]))) 3 (.inl (8, 3, .inr (.inr (.inr (.inr (fun _ => none))))))) (S + o) 4 0 (.ref (S + (o + 1))) = _ := p1
    rw [p1', Option.bind_some, Option.bind_some, Option.bind_some]
    have f1' : (zupd (znew (zupd σ (S + o) (.inr (4, [.null, .null, .null, .null, .null, .null, .int 1]))) 3 (.inl (8, 3, rfs (fun _ => none)))) (S + o) (.inr (4, [.ref (S + (o + 1)), .null, .null, .null, .null, .null, .int 1]))).1 = S + (o + 2) := f1
    rw [f1']
    have p2' : zpF (znew (zupd (znew (zupd σ (S + o) (.inr (4, [.null, .null, .null, .null, .null, .null, .int 1]))) 3 (.inl (8, 3, rfs (fun _ => none)))) (S + o) (.inr (4, [.ref (S + (o + 1)), .null, .null, .null, .null, .null, .int 1]))) 3 (.inl (8, 3, .inr (.inr (.inr (.inr (fun _ => none))))))) (S + o) 4 1 (.ref (S + (o + 2))) = _ := p2
    rw [p2', Option.bind_some]
    have e0 : zfuel = 1048575 + 1 := rfl
    have r1' := r1
    rw [show zi 0 = (0 : Int32) from rfl] at r1'
    rw [e0, r1', r2, r3, s_Office_init_22, if_pos (by rw [zi_l3, zi_le (by omega) (by omega)]; omega), zn, Option.bind_some, Option.bind_some]
    have f2' : σ3.1 = S + (o + 33) := f2
    rw [f2', q1, Option.bind_some, Option.bind_some, Option.bind_some]
    have f3' : (zupd (znew σ3 n (.inl (3, n, .inl (fun _ => 0)))) (S + o) (.inr (4, [.ref (S + (o + 1)), .ref (S + (o + 2)), .ref (S + (o + 33)), .null, .null, .null, .int 1]))).1 = S + (o + 34) := f3
    rw [f3', q2, Option.bind_some, Option.bind_some, Option.bind_some]
    have f4' : (zupd (znew (zupd (znew σ3 n (.inl (3, n, .inl (fun _ => 0)))) (S + o) (.inr (4, [.ref (S + (o + 1)), .ref (S + (o + 2)), .ref (S + (o + 33)), .null, .null, .null, .int 1]))) n (.inl (3, n, .inl (fun _ => 0)))) (S + o) (.inr (4, [.ref (S + (o + 1)), .ref (S + (o + 2)), .ref (S + (o + 33)), .ref (S + (o + 34)), .null, .null, .int 1]))).1 = S + (o + 35) := f4
    rw [f4']
    have q3' := q3
    unfold rfs at q3'
    rw [q3', Option.bind_some, Option.bind_some, Option.bind_some]
    have f5' := f5
    unfold rfs at f5'
    rw [f5']
    have q4' := q4
    unfold rfs at q4'
    have e36 : S + (o + 3 + 10 * (0 + 1 + 1 + 1) + 1 + 1 + 1) = S + (o + 36) := by omega
    rw [e36, q4', Option.bind_some]
    rfl
  · rcases (show x < o ∨ x = o ∨ (o < x ∧ x < o + 33) ∨ x = o + 33 ∨ x = o + 34 ∨ x = o + 35 ∨ x = o + 36 by omega) with hx | rfl | hx | rfl | rfl | rfl | rfl
    · simp (disch := omega) only [va_up_ne]
      rw [if_pos hx]; unfold cOs; rw [if_pos hx]
    · rw [va_up_self, if_neg (by omega), if_pos rfl]
    · simp (disch := omega) only [va_up_ne]
      rw [if_neg (by omega), if_neg (by omega), if_pos (by omega)]
    · rw [if_neg (by omega), if_neg (by omega), if_neg (by omega), if_pos (by omega)]
      rw [va_up_ne _ _ (by omega), va_up_ne _ _ (by omega), va_up_ne _ _ (by omega), va_up_ne _ _ (by omega), va_up_ne _ _ (by omega), va_up_ne _ _ (by omega), va_up_ne _ _ (by omega)]
      exact (va_up_self _ _ _).symm
    · rw [if_neg (by omega), if_neg (by omega), if_neg (by omega), if_pos (by omega)]
      rw [va_up_ne _ _ (by omega), va_up_ne _ _ (by omega), va_up_ne _ _ (by omega), va_up_ne _ _ (by omega), va_up_ne _ _ (by omega)]
      exact (va_up_self _ _ _).symm
    · rw [if_neg (by omega), if_neg (by omega), if_neg (by omega), if_neg (by omega)]
      rw [va_up_ne _ _ (by omega), va_up_ne _ _ (by omega), va_up_ne _ _ (by omega)]
      exact (va_up_self _ _ _).symm
    · rw [if_neg (by omega), if_neg (by omega), if_neg (by omega), if_neg (by omega)]
      rw [va_up_ne _ _ (by omega)]
      exact (va_up_self _ _ _).symm
end INIT2
