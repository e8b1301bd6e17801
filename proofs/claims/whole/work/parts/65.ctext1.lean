/-! the builder of the list's text -/
theorem zi_sle {a b : Nat} (ha : a < 1073741824) (hb : b < 1073741824) : (zi a - zi b ≤ 0) = (a ≤ b) := by
  refine propext ?_
  rw [Int32.le_iff_toInt_le, Int32.toInt_sub, zi_int (by omega), zi_int (by omega)]
  have e : Int.bmod ((a : Int) - (b : Int)) (2 ^ 32) = (a : Int) - (b : Int) := Int.bmod_eq_of_le (by omega) (by omega)
  rw [e]
  show (a : Int) - (b : Int) ≤ 0 ↔ a ≤ b
  omega
theorem shr0 {x : Int32} : x >>> (zi 0 &&& 31) = x := by
  have : (zi 0 &&& 31) = 0 := by decide
  rw [this, Int32.shiftRight_zero]
theorem shl0 {x : Int32} : x <<< (zi 0 &&& 31) = x := by
  have : (zi 0 &&& 31) = 0 := by decide
  rw [this, Int32.shiftLeft_zero]
theorem upd_zi {bb : Nat → Nat} {k c : Nat} : upd (fun j => zi (bb j)) k (zi c) = fun j => zi (if j = k then c else bb j) := by
  funext j
  unfold upd
  split <;> rfl
def TX (F T D U : Nat) (ρ0 ρ : zS) (l : List Nat) (k : Nat) (H : Nat → Int32) : Prop := ∃ (v cap : Nat) (bb : Nat → Nat) (x2 : Value),
  (F ≤ T ∧ T + 1 < ρ.1) ∧ ρ.2.2 T = some (true, .inr (11, [.ref (T + 1), .ref D])) ∧ ρ.2.2 (T + 1) = some (true, .inr (12, [.ref v, .int (zi 0), x2, .int (zi l.length)])) ∧ (T < v ∧ v < ρ.1) ∧ ρ.2.2 v = some (true, .inl (2, cap, .inl (fun j => zi (bb j)))) ∧ (T < D ∧ D < ρ.1) ∧ ρ.2.2 D = some (true, .inl (4, 20, .inl H)) ∧ (l.length + k ≤ cap ∧ 16 ≤ cap ∧ cap ≤ 2 * (l.length + k) + 16) ∧ (∀ j, bb j < 128) ∧ (∀ j, j < l.length → l[j]? = some (bb j)) ∧ ρ.1 ≤ T + 4 + cap ∧ ρ.2.1 ≤ U + 64 + 2 * cap ∧ (∀ p, p < T → ρ.2.2 p = ρ0.2.2 p)
section CTEXT
variable {g : zG} {S F n T D U : Nat} {C : cS} {ρ0 ρ ρ' : zS} {l : List Nat} {k : Nat} {H : Nat → Int32}
theorem d_arI {a N t : Nat} {b : Bool} {H : Nat → Int32} (h : ρ.2.2 a = some (b, .inl (t, N, .inl H))) (ha : S + cF n ≤ a) : zar (cW S n C ρ) a t = some (N, .inl H) := by
  simp only [zar, cW_out (Or.inr ha), h, if_true]
theorem d_alI {a N t : Nat} {b : Bool} {H : Nat → Int32} (h : ρ.2.2 a = some (b, .inl (t, N, .inl H))) (ha : S + cF n ≤ a) : zal (cW S n C ρ) a t = some (zi N) := by
  simp only [zal, d_arI h ha]
  rfl
theorem d_zaI {a N t i : Nat} {b : Bool} {H : Nat → Int32} (h : ρ.2.2 a = some (b, .inl (t, N, .inl H))) (ha : S + cF n ≤ a) (hi : i < N) (hN : N < 2147483648) : zaI (cW S n C ρ) a t (zi i) = some (H i) := by
  have h2 := zi_nat (a := i) (by omega)
  simp only [zaI, d_arI h ha, if_neg (zi_in hi (show N ≤ 2147483648 by omega))]
  rw [h2]
theorem d_zsI {a N t i : Nat} {H : Nat → Int32} {y : Int32} (h : ρ.2.2 a = some (true, .inl (t, N, .inl H))) (ha : S + cF n ≤ a) (hi : i < N) (hN : N < 2147483648) : zsI (cW S n C ρ) a t (zi i) y = some (cW S n C (zupd ρ a (.inl (t, N, .inl (upd H i y))))) := by
  have h2 := zi_nat (a := i) (by omega)
  have h3 : ¬ ((zi i < 0 ∨ N ≤ (zi i).toNatClampNeg) ∨ zown (cW S n C ρ) a = false) := by
    intro q
    rcases q with q | q
    · exact zi_in hi (show N ≤ 2147483648 by omega) q
    · rw [d_own h (Or.inr ha)] at q
      cases q
  simp only [zsI, d_arI h ha, if_neg h3]
  rw [h2, cW_zupd (Or.inr ha)]
theorem ob_is {p ci : Nat} {b : Bool} {fs : List Value} (h : ρ.2.2 p = some (b, .inr (ci, fs))) (hp : p < S ∨ S + cF n ≤ p) : zis (cW S n C ρ) p ci = some () := by
  simp only [zis, zcls, cW_out hp, h, if_true]
theorem ob_fs {p ci : Nat} {b : Bool} {fs : List Value} (h : ρ.2.2 p = some (b, .inr (ci, fs))) (hp : p < S ∨ S + cF n ≤ p) : zfs (cW S n C ρ) p ci = some fs := by
  simp only [zfs, cW_out hp, h, if_true]
theorem ob_gI {p ci m : Nat} {b : Bool} {fs : List Value} {x : Int32} (h : ρ.2.2 p = some (b, .inr (ci, fs))) (hp : p < S ∨ S + cF n ≤ p) (hk : fs[m]? = some (.int x)) : zgI (cW S n C ρ) p ci m = some x := by
  simp only [zgI, ob_fs h hp, hk]
theorem ob_gR {p ci m : Nat} {b : Bool} {fs : List Value} {x : Nat} (h : ρ.2.2 p = some (b, .inr (ci, fs))) (hp : p < S ∨ S + cF n ≤ p) (hk : fs[m]? = some (.ref x)) : zgR (cW S n C ρ) p ci m = some (some x) := by
  simp only [zgR, ob_fs h hp, hk]
theorem ob_p {p ci m : Nat} {fs : List Value} {v : Value} (h : ρ.2.2 p = some (true, .inr (ci, fs))) (hp : S + cF n ≤ p) (hk : m < fs.length) : zpF (cW S n C ρ) p ci m v = some (cW S n C (zupd ρ p (.inr (ci, fs.set m v)))) := by
  have h4 : m < fs.length ∧ zown (cW S n C ρ) p = true := ⟨hk, d_own h (Or.inr hp)⟩
  simp only [zpF, ob_fs h (Or.inr hp), if_pos h4]
  rw [cW_zupd (Or.inr hp)]
theorem zupd_at {a p : Nat} {y : zY} : (zupd ρ a y).2.2 p = if p = a then some (true, y) else ρ.2.2 p := rfl
theorem znew_at {m p : Nat} {y : zY} : (znew ρ m y).2.2 p = if p = ρ.1 then some (true, y) else ρ.2.2 p := rfl
theorem X_ens (hF : S + cF n ≤ F) (h : TX F T D U ρ0 ρ l 0 H) (hk : k ≤ 3) (hl : l.length ≤ 40000) : ∃ ρ', s_AbstractStringBuilder_ensureCapacityInternal g (T + 1) (zi (l.length + k)) (cW S n C ρ) = some (cW S n C ρ') ∧ TX F T D U ρ0 ρ' l k H := by
  obtain ⟨v, cap, bb, x2, h1, h2, h3, h4, h5, h6, h7, h8, h9, h10, h11, h12, h13⟩ := h
  have o1 : S + cF n ≤ T + 1 := by omega
  have ov : S + cF n ≤ v := by omega
  have g0 : zgR (cW S n C ρ) (T + 1) 12 0 = some (some v) := ob_gR h3 (Or.inr o1) rfl
  have g1 : zgI (cW S n C ρ) (T + 1) 12 1 = some (zi 0) := ob_gI h3 (Or.inr o1) rfl
  have g2 := d_alI (C := C) h5 ov
  by_cases hc : l.length + k ≤ cap
  · refine ⟨ρ, ?_, v, cap, bb, x2, h1, h2, h3, h4, h5, h6, h7, ⟨hc, by omega, by omega⟩, h9, h10, h11, h12, h13⟩
    unfold s_AbstractStringBuilder_ensureCapacityInternal
    rw [g0, Option.bind_some, Option.bind_some, g2, Option.bind_some, g1, Option.bind_some, shr0, if_pos (by rw [zi_sle (by omega) (by omega)]; exact hc)]
    rfl
  · generalize hN : 2 * cap + 2 = N at *
    have ev : ¬ v = ρ.1 := by omega
    refine ⟨zupd (zupd (znew ρ N (.inl (2, N, .inl (fun _ => 0)))) ρ.1 (.inl (2, N, .inl (fun j => zi (if j < cap then bb j else 0))))) (T + 1) (.inr (12, [.ref ρ.1, .int (zi 0), x2, .int (zi l.length)])), ?_, ρ.1, N, fun j => if j < cap then bb j else 0, x2, ⟨h1.1, by show T + 1 < ρ.1 + 1; omega⟩, ?_, ?_, ⟨by omega, by show ρ.1 < ρ.1 + 1; omega⟩, ?_, ⟨h6.1, by show D < ρ.1 + 1; omega⟩, ?_, ⟨by omega, by omega, by omega⟩, ?_, ?_, ?_, ?_, ?_⟩
    · have e1 : zi (l.length + k) - zi cap = zi (l.length + k - cap) := zi_sub (by omega)
      have e2 : s_ArraysSupport_newLength g (zi cap) (zi (l.length + k - cap)) (zi (cap + 2)) (cW S n C ρ) = some (zi N, cW S n C ρ) := by
        unfold s_ArraysSupport_newLength
        rw [if_pos (show zi (l.length + k - cap) < zi (cap + 2) by rw [zi_lt (by omega) (by omega)]; omega), Option.bind_some, zi_add, show cap + (cap + 2) = N by omega, if_neg (by rw [zi_l0, zi_le (by omega) (by omega)]; omega), if_neg (by rw [show (2147483639 : Int32) = zi 2147483639 from rfl, zi_lt (by omega) (by omega)]; omega)]
      have e3 : s_AbstractStringBuilder_newCapacity g (T + 1) (zi (l.length + k)) (cW S n C ρ) = some (zi N, cW S n C ρ) := by
        unfold s_AbstractStringBuilder_newCapacity
        rw [g0, Option.bind_some, Option.bind_some, g2, Option.bind_some, g1, Option.bind_some, Option.bind_some, shl0, shl0, e1, zi_l2, zi_add, e2, Option.bind_some]
        dsimp only
        rw [if_neg (by rw [show (2147483647 : Int32) = zi 2147483647 from rfl, zi_eq (by omega) (by omega)]; omega), g1, Option.bind_some, shr0]
      have cl : (znew ρ N (.inl (2, N, .inl (fun _ => (0 : Int32))))).2.2 ρ.1 = some (true, .inl (2, N, .inl (fun _ => 0))) := by
        rw [znew_at, if_pos rfl]
      have cv : (znew ρ N (.inl (2, N, .inl (fun _ => (0 : Int32))))).2.2 v = some (true, .inl (2, cap, .inl (fun j => zi (bb j)))) := by
        rw [znew_at, if_neg ev, h5]
      have e4 : zcpI (cW S n C (znew ρ N (.inl (2, N, .inl (fun _ => 0))))) .byte v ρ.1 2 0 0 (zi cap) = some (cW S n C (zupd (znew ρ N (.inl (2, N, .inl (fun _ => 0)))) ρ.1 (.inl (2, N, .inl (fun j => zi (if j < cap then bb j else 0)))))) := by
        have w1 := zi_nat (a := cap) (by omega)
        have w2 : (0 : Int32).toNatClampNeg = 0 := rfl
        have w3 : ((¬ (0 : Int32) < 0 ∧ ¬ (0 : Int32) < 0 ∧ ¬ zi cap < 0) ∧ (0 : Int32).toNatClampNeg + (zi cap).toNatClampNeg ≤ cap ∧ (0 : Int32).toNatClampNeg + (zi cap).toNatClampNeg ≤ N) ∧ zown (cW S n C (znew ρ N (.inl (2, N, .inl (fun _ => 0))))) ρ.1 = true ∧ ∀ i, i < (zi cap).toNatClampNeg → fits .byte (.int ((fun j => zi (bb j)) ((0 : Int32).toNatClampNeg + i))) = true := by
          rw [w1, w2, zi_lt0 (by omega)]
          refine ⟨⟨⟨by decide, by decide, fun q => q⟩, by omega, by omega⟩, d_own cl (Or.inr (by omega)), fun i hi => ?_⟩
          have fb : ∀ c : Nat, c < 128 → fits .byte (.int (zi c)) = true := by
            intro c hc
            have h2 : ∀ x : Fin 128, fits .byte (.int (zi x.val)) = true := by decide +kernel
            exact h2 ⟨c, hc⟩
          exact fb _ (h9 _)
        unfold zcpI
        rw [d_arI cv (by omega), d_arI cl (by omega)]
        refine (if_pos w3).trans ?_
        rw [w1, w2, cW_zupd (Or.inr (by omega))]
        refine congrArg (fun q => some (cW S n C (zupd (znew ρ N (.inl (2, N, .inl (fun _ => 0)))) ρ.1 (.inl (2, N, .inl q))))) ?_
        funext j
        show (if 0 ≤ j ∧ j < 0 + cap then zi (bb (0 + (j - 0))) else 0) = _
        by_cases hj : j < cap
        · rw [if_pos (by omega), if_pos hj, Nat.zero_add, Nat.sub_zero]
        · rw [if_neg (by omega), if_neg hj]
          rfl
      have e5 : s_Arrays_copyOf3 g (some v) (zi N) (cW S n C ρ) = some (some ρ.1, cW S n C (zupd (znew ρ N (.inl (2, N, .inl (fun _ => 0)))) ρ.1 (.inl (2, N, .inl (fun j => zi (if j < cap then bb j else 0)))))) := by
        unfold s_Arrays_copyOf3
        rw [Option.bind_some, g2, Option.bind_some, if_neg (by rw [zi_eq (by omega) (by omega)]; omega), zlen_zi (by omega), Option.bind_some, Option.bind_some, cW_znew (by omega), d_alI cv ov, Option.bind_some, if_neg (by rw [zi_lt (by omega) (by omega)]; omega), Option.bind_some]
        have e4' : zcpI (cW S n C (znew ρ N (.inl (2, N, .inl (fun _ => 0))))) .byte v (cW S n C ρ).1 2 0 0 (zi cap) = some (cW S n C (zupd (znew ρ N (.inl (2, N, .inl (fun _ => 0)))) ρ.1 (.inl (2, N, .inl (fun j => zi (if j < cap then bb j else 0)))))) := e4
        rw [e4', Option.bind_some]
        rfl
      have c3 : (zupd (znew ρ N (.inl (2, N, .inl (fun _ => 0)))) ρ.1 (.inl (2, N, .inl (fun j => zi (if j < cap then bb j else 0))))).2.2 (T + 1) = some (true, .inr (12, [.ref v, .int (zi 0), x2, .int (zi l.length)])) := by
        rw [zupd_at, if_neg (by omega), znew_at, if_neg (by omega), h3]
      have e6 := ob_p (C := C) (m := 0) (v := va_rf (some ρ.1)) c3 o1 (by decide : 0 < 4)
      unfold s_AbstractStringBuilder_ensureCapacityInternal
      rw [g0, Option.bind_some, Option.bind_some, g2, Option.bind_some, g1, Option.bind_some, shr0, if_neg (by rw [zi_sle (by omega) (by omega)]; exact hc), Option.bind_some, ob_is h3 (Or.inr o1), Option.bind_some, e3, Option.bind_some]
      dsimp only
      rw [g1, Option.bind_some, shl0, e5, Option.bind_some]
      dsimp only
      rw [e6, Option.bind_some]
      rfl
    · rw [zupd_at, if_neg (by omega), zupd_at, if_neg (by omega), znew_at, if_neg (by omega), h2]
    · rw [zupd_at, if_pos rfl]
    · rw [zupd_at, if_neg (by omega), zupd_at, if_pos rfl]
    · rw [zupd_at, if_neg ?_, zupd_at, if_neg (by omega), znew_at, if_neg (by omega), h7]
      intro q
      rw [q, h3] at h7
      cases h7
    · intro j
      dsimp only
      split
      · exact h9 j
      · decide
    · intro j hj
      have : j < cap := by omega
      dsimp only
      rw [if_pos this]
      exact h10 j hj
    · show ρ.1 + 1 ≤ T + 4 + N
      omega
    · show ρ.2.1 + N ≤ U + 64 + 2 * N
      omega
    · intro p hp
      rw [zupd_at, if_neg (by omega), zupd_at, if_neg (by omega), znew_at, if_neg (by omega)]
      exact h13 p hp
theorem X_app {c : Nat} (hF : S + cF n ≤ F) (h : TX F T D U ρ0 ρ l 0 H) (hc : c < 128) (hl : l.length ≤ 40000) : ∃ ρ', s_StringBuilder_append g (T + 1) (zi c) (cW S n C ρ) = some (some (T + 1), cW S n C ρ') ∧ TX F T D U ρ0 ρ' (l ++ [c]) 0 H := by
  obtain ⟨ρ1, e1, h⟩ := X_ens (g := g) (C := C) (k := 1) hF h (by decide) hl
  have g3 : zgI (cW S n C ρ) (T + 1) 12 3 = some (zi l.length) ∧ zis (cW S n C ρ) (T + 1) 12 = some () := by
    obtain ⟨v, cap, bb, x2, h1, h2, h3, _⟩ := ‹TX F T D U ρ0 ρ l 0 H›
    exact ⟨ob_gI h3 (Or.inr (by omega)) rfl, ob_is h3 (Or.inr (by omega))⟩
  obtain ⟨v, cap, bb, x2, h1, h2, h3, h4, h5, h6, h7, h8, h9, h10, h11, h12, h13⟩ := h
  have o1 : S + cF n ≤ T + 1 := by omega
  have ov : S + cF n ≤ v := by omega
  have g0 : zgR (cW S n C ρ1) (T + 1) 12 0 = some (some v) := ob_gR h3 (Or.inr o1) rfl
  have g1 : zgI (cW S n C ρ1) (T + 1) 12 1 = some (zi 0) := ob_gI h3 (Or.inr o1) rfl
  have g4 : zgI (cW S n C ρ1) (T + 1) 12 3 = some (zi l.length) := ob_gI h3 (Or.inr o1) rfl
  have g5 : zis (cW S n C ρ1) (T + 1) 12 = some () := ob_is h3 (Or.inr o1)
  have vne : ¬ v = T + 1 := by
    intro q
    rw [q, h3] at h5
    cases h5
  have dne : ¬ D = T + 1 := by
    intro q
    rw [q, h3] at h7
    cases h7
  have dnv : ¬ D = v := by
    intro q
    rw [q, h5] at h7
    cases h7
  have e6 := ob_p (C := C) (m := 3) (v := .int (zi (l.length + 1))) h3 o1 (by decide : 3 < 4)
  have c5 : (zupd ρ1 (T + 1) (.inr (12, [.ref v, .int (zi 0), x2, .int (zi (l.length + 1))]))).2.2 v = some (true, .inl (2, cap, .inl (fun j => zi (bb j)))) := by
    rw [zupd_at, if_neg vne, h5]
  have e7 := d_zsI (C := C) (i := l.length) (y := zi c) c5 ov (by omega) (by omega)
  rw [upd_zi] at e7
  have el : (l ++ [c]).length = l.length + 1 := by rw [List.length_append]; rfl
  refine ⟨zupd (zupd ρ1 (T + 1) (.inr (12, [.ref v, .int (zi 0), x2, .int (zi (l.length + 1))]))) v (.inl (2, cap, .inl (fun j => zi (if j = l.length then c else bb j)))), ?_, v, cap, fun j => if j = l.length then c else bb j, x2, h1, ?_, ?_, h4, ?_, h6, ?_, ⟨by rw [el]; omega, by omega, by rw [el]; omega⟩, ?_, ?_, h11, h12, ?_⟩
  · have q1 : s_AbstractStringBuilder_isLatin1 g (T + 1) (cW S n C ρ1) = some (zi 1, cW S n C ρ1) := by
      unfold s_AbstractStringBuilder_isLatin1 s_AbstractStringBuilder_isLatin1_18
      rw [g1, Option.bind_some, if_pos (show zi 0 = 0 from rfl)]
      rfl
    have q2 : s_StringLatin1_canEncode g (zi c) (cW S n C ρ1) = some (zi 1, cW S n C ρ1) := by
      unfold s_StringLatin1_canEncode s_StringLatin1_canEncode_12
      rw [if_neg (by rw [show (255 : Int32) = zi 255 from rfl, zi_lt (by omega) (by omega)]; omega)]
      rfl
    have e6' : zpF (cW S n C ρ1) (T + 1) 12 3 (.int (zi (l.length + 1))) = some (cW S n C (zupd ρ1 (T + 1) (.inr (12, [.ref v, .int (zi 0), x2, .int (zi (l.length + 1))])))) := e6
    unfold s_StringBuilder_append s_AbstractStringBuilder_append
    rw [g3.2, Option.bind_some, g3.1, Option.bind_some, Option.bind_some, zi_l1, zi_add, e1, Option.bind_some, g5, Option.bind_some, q1, Option.bind_some]
    dsimp only
    rw [if_neg (show ¬ zi 1 = 0 by decide), q2, Option.bind_some]
    dsimp only
    rw [if_neg (show ¬ zi 1 = 0 by decide), g0, Option.bind_some, g4, Option.bind_some, zi_add, e6', Option.bind_some, Option.bind_some, zi_t8 hc, zi_byte hc, e7, Option.bind_some]
    rfl
  · rw [zupd_at, if_neg (by omega), zupd_at, if_neg (by omega), h2]
  · rw [zupd_at, if_neg (fun q => vne q.symm), zupd_at, if_pos rfl, el]
  · rw [zupd_at, if_pos rfl]
  · rw [zupd_at, if_neg dnv, zupd_at, if_neg dne, h7]
  · intro j
    dsimp only
    split
    · exact hc
    · exact h9 j
  · intro j hj
    rw [el] at hj
    dsimp only
    by_cases hjl : j = l.length
    · rw [if_pos hjl, hjl, List.getElem?_append_right (Nat.le_refl _), Nat.sub_self]
      rfl
    · rw [if_neg hjl, List.getElem?_append_left (by omega)]
      exact h10 j (by omega)
  · intro p hp
    rw [zupd_at, if_neg (by omega), zupd_at, if_neg (by omega)]
    exact h13 p hp
/-- a text constant -/
def kst (S : Nat) (ρ : zS) (q : Nat) (t : List Nat) : Prop := ∃ (v : Nat) (x2 x3 : Value) (B : Nat → Int32), (q < S ∧ v < S) ∧ ρ.2.2 q = some (false, .inr (13, [.ref v, .int 0, x2, x3])) ∧ ρ.2.2 v = some (false, .inl (2, t.length, .inl B)) ∧ ∀ j, j < t.length → ∃ c, c < 128 ∧ t[j]? = some c ∧ B j = zi c
theorem shr0' {x : Int32} : x >>> ((0 : Int32) &&& 31) = x := by
  have : ((0 : Int32) &&& 31) = 0 := by decide
  rw [this, Int32.shiftRight_zero]
theorem fits_b {c : Nat} (hc : c < 128) : fits .byte (.int (zi c)) = true := by
  have h2 : ∀ x : Fin 128, fits .byte (.int (zi x.val)) = true := by decide +kernel
  exact h2 ⟨c, hc⟩
theorem X_str {q : Nat} {t : List Nat} (hF : S + cF n ≤ F) (h : TX F T D U ρ0 ρ l 0 H) (hq : kst S ρ0 q t) (ht : t.length ≤ 3) (hl : l.length ≤ 40000) : ∃ ρ', s_StringBuilder_append2 g (T + 1) (some q) (cW S n C ρ) = some (some (T + 1), cW S n C ρ') ∧ TX F T D U ρ0 ρ' (l ++ t) 0 H := by
  obtain ⟨ρ1, e1, hh⟩ := X_ens (g := g) (C := C) (k := t.length) hF h ht hl
  obtain ⟨sv, sx2, sx3, B, ⟨sq, sv2⟩, s1, s2, s3⟩ := hq
  have g3 : zgI (cW S n C ρ) (T + 1) 12 3 = some (zi l.length) ∧ zis (cW S n C ρ) (T + 1) 12 = some () ∧ F ≤ T ∧ ∀ p, p < T → ρ.2.2 p = ρ0.2.2 p := by
    obtain ⟨v, cap, bb, x2, h1, h2, h3, h4, h5, h6, h7, h8, h9, h10, h11, h12, h13⟩ := h
    exact ⟨ob_gI h3 (Or.inr (by omega)) rfl, ob_is h3 (Or.inr (by omega)), h1.1, h13⟩
  obtain ⟨v, cap, bb, x2, h1, h2, h3, h4, h5, h6, h7, h8, h9, h10, h11, h12, h13⟩ := hh
  have o1 : S + cF n ≤ T + 1 := by omega
  have ov : S + cF n ≤ v := by omega
  have g0 : zgR (cW S n C ρ1) (T + 1) 12 0 = some (some v) := ob_gR h3 (Or.inr o1) rfl
  have g1 : zgI (cW S n C ρ1) (T + 1) 12 1 = some (zi 0) := ob_gI h3 (Or.inr o1) rfl
  have g4 : zgI (cW S n C ρ1) (T + 1) 12 3 = some (zi l.length) := ob_gI h3 (Or.inr o1) rfl
  have g5 : zis (cW S n C ρ1) (T + 1) 12 = some () := ob_is h3 (Or.inr o1)
  have vne : ¬ v = T + 1 := by
    intro q
    rw [q, h3] at h5
    cases h5
  have dne : ¬ D = T + 1 := by
    intro q
    rw [q, h3] at h7
    cases h7
  have dnv : ¬ D = v := by
    intro q
    rw [q, h5] at h7
    cases h7
  have k1 : ρ.2.2 q = some (false, .inr (13, [.ref sv, .int 0, sx2, sx3])) := by rw [g3.2.2.2 q (by omega), s1]
  have k2 : ρ.2.2 sv = some (false, .inl (2, t.length, .inl B)) := by rw [g3.2.2.2 sv (by omega), s2]
  have k3 : ρ1.2.2 q = some (false, .inr (13, [.ref sv, .int 0, sx2, sx3])) := by rw [h13 q (by omega), s1]
  have k4 : ρ1.2.2 sv = some (false, .inl (2, t.length, .inl B)) := by rw [h13 sv (by omega), s2]
  have a1 : ∀ (C : cS) {N : Nat} {b : Bool} {X : zS} {H : Nat → Int32}, X.2.2 sv = some (b, .inl (2, N, .inl H)) → zar (cW S n C X) sv 2 = some (N, .inl H) := by
    intro C N b X H hX
    simp only [zar, cW_out (Or.inl sv2), hX, if_true]
  have a2 : ∀ (C : cS) {N : Nat} {b : Bool} {X : zS} {H : Nat → Int32}, X.2.2 sv = some (b, .inl (2, N, .inl H)) → zal (cW S n C X) sv 2 = some (zi N) := by
    intro C N b X H hX
    simp only [zal, a1 C hX]
    rfl
  have cod : ∀ X : zS, X.2.2 q = some (false, .inr (13, [.ref sv, .int 0, sx2, sx3])) → s_String_coder g q (cW S n C X) = some (0, cW S n C X) := by
    intro X hX
    have w : zgI (cW S n C X) q 13 1 = some 0 := ob_gI hX (Or.inl sq) rfl
    unfold s_String_coder s_String_coder_14
    rw [w, Option.bind_some]
    rfl
  have len : s_String_length g q (cW S n C ρ) = some (zi t.length, cW S n C ρ) := by
    have w : zgR (cW S n C ρ) q 13 0 = some (some sv) := ob_gR k1 (Or.inl sq) rfl
    unfold s_String_length
    rw [w, Option.bind_some, Option.bind_some, a2 C k2, Option.bind_some, ob_is k1 (Or.inl sq), Option.bind_some, cod ρ k1, Option.bind_some]
    dsimp only
    rw [shr0']
  have el : (l ++ t).length = l.length + t.length := List.length_append
  have cp : zcpI (cW S n C ρ1) .byte sv v 2 0 (zi l.length) (zi t.length) = some (cW S n C (zupd ρ1 v (.inl (2, cap, .inl (fun j => zi (if l.length ≤ j ∧ j < l.length + t.length then (t[j - l.length]?).getD 0 else bb j)))))) := by
    have w1 := zi_nat (a := t.length) (by omega)
    have w2 : (0 : Int32).toNatClampNeg = 0 := rfl
    have w3 := zi_nat (a := l.length) (by omega)
    have w4 : ((¬ (0 : Int32) < 0 ∧ ¬ zi l.length < 0 ∧ ¬ zi t.length < 0) ∧ (0 : Int32).toNatClampNeg + (zi t.length).toNatClampNeg ≤ t.length ∧ (zi l.length).toNatClampNeg + (zi t.length).toNatClampNeg ≤ cap) ∧ zown (cW S n C ρ1) v = true ∧ ∀ i, i < (zi t.length).toNatClampNeg → fits .byte (.int (B ((0 : Int32).toNatClampNeg + i))) = true := by
      rw [w1, w2, w3, zi_lt0 (by omega), zi_lt0 (by omega)]
      refine ⟨⟨⟨by decide, fun q => q, fun q => q⟩, by omega, by omega⟩, d_own h5 (Or.inr ov), fun i hi => ?_⟩
      obtain ⟨c, c1, c2, c3⟩ := s3 i hi
      rw [Nat.zero_add, c3]
      exact fits_b c1
    unfold zcpI
    rw [a1 C k4, d_arI h5 ov]
    refine (if_pos w4).trans ?_
    rw [w1, w2, w3, cW_zupd (Or.inr ov)]
    refine congrArg (fun q => some (cW S n C (zupd ρ1 v (.inl (2, cap, .inl q))))) ?_
    funext j
    show (if l.length ≤ j ∧ j < l.length + t.length then B (0 + (j - l.length)) else zi (bb j)) = _
    by_cases hj : l.length ≤ j ∧ j < l.length + t.length
    · obtain ⟨c, c1, c2, c3⟩ := s3 (j - l.length) (by omega)
      rw [if_pos hj, if_pos hj, Nat.zero_add, c3, c2]
      rfl
    · rw [if_neg hj, if_neg hj]
  have c3' : (zupd ρ1 v (.inl (2, cap, .inl (fun j => zi (if l.length ≤ j ∧ j < l.length + t.length then (t[j - l.length]?).getD 0 else bb j))))).2.2 (T + 1) = some (true, .inr (12, [.ref v, .int (zi 0), x2, .int (zi l.length)])) := by
    rw [zupd_at, if_neg (fun q => vne q.symm), h3]
  have e6 := ob_p (C := C) (m := 3) (v := .int (zi (l.length + t.length))) c3' o1 (by decide : 3 < 4)
  have g7 : zgI (cW S n C (zupd ρ1 v (.inl (2, cap, .inl (fun j => zi (if l.length ≤ j ∧ j < l.length + t.length then (t[j - l.length]?).getD 0 else bb j)))))) (T + 1) 12 3 = some (zi l.length) := ob_gI c3' (Or.inr o1) rfl
  refine ⟨zupd (zupd ρ1 v (.inl (2, cap, .inl (fun j => zi (if l.length ≤ j ∧ j < l.length + t.length then (t[j - l.length]?).getD 0 else bb j))))) (T + 1) (.inr (12, [.ref v, .int (zi 0), x2, .int (zi (l.length + t.length))])), ?_, v, cap, fun j => if l.length ≤ j ∧ j < l.length + t.length then (t[j - l.length]?).getD 0 else bb j, x2, h1, ?_, ?_, h4, ?_, h6, ?_, ⟨by rw [el]; omega, by omega, by rw [el]; omega⟩, ?_, ?_, h11, h12, ?_⟩
  · have inf : s_AbstractStringBuilder_inflateIfNeededFor g (T + 1) (some q) (cW S n C ρ1) = some (cW S n C ρ1) := by
      unfold s_AbstractStringBuilder_inflateIfNeededFor
      rw [g1, Option.bind_some, Option.bind_some, ob_is k3 (Or.inl sq), Option.bind_some, cod ρ1 k3, Option.bind_some]
      dsimp only
      rw [if_pos (show zi 0 = 0 from rfl)]
      rfl
    have gb : s_String_getBytes g q (some v) (zi l.length) (zi 0) (cW S n C ρ1) = some (cW S n C (zupd ρ1 v (.inl (2, cap, .inl (fun j => zi (if l.length ≤ j ∧ j < l.length + t.length then (t[j - l.length]?).getD 0 else bb j)))))) := by
      have w : zgR (cW S n C ρ1) q 13 0 = some (some sv) := ob_gR k3 (Or.inl sq) rfl
      unfold s_String_getBytes
      rw [ob_is k3 (Or.inl sq), Option.bind_some, cod ρ1 k3, Option.bind_some]
      dsimp only
      rw [if_pos (show (0 : Int32) = zi 0 from rfl), w, Option.bind_some, Option.bind_some, Option.bind_some, a2 C k4, Option.bind_some, Option.bind_some, Option.bind_some, shl0, cp, Option.bind_some]
      rfl
    have ps : s_AbstractStringBuilder_putStringAt g (T + 1) (zi l.length) (some q) (cW S n C ρ1) = some (cW S n C (zupd ρ1 v (.inl (2, cap, .inl (fun j => zi (if l.length ≤ j ∧ j < l.length + t.length then (t[j - l.length]?).getD 0 else bb j)))))) := by
      unfold s_AbstractStringBuilder_putStringAt
      rw [g5, Option.bind_some, inf, Option.bind_some, g0, Option.bind_some, g1, Option.bind_some, Option.bind_some, ob_is k3 (Or.inl sq), Option.bind_some, gb, Option.bind_some]
    unfold s_StringBuilder_append2 s_AbstractStringBuilder_append2
    rw [g3.2.1, Option.bind_some]
    dsimp only
    rw [ob_is k1 (Or.inl sq), Option.bind_some, len, Option.bind_some]
    dsimp only
    rw [g3.1, Option.bind_some, g3.2.1, Option.bind_some, zi_add, e1, Option.bind_some, g4, Option.bind_some, g5, Option.bind_some, ps, Option.bind_some, g7, Option.bind_some, zi_add, e6, Option.bind_some]
    rfl
  · rw [zupd_at, if_neg (by omega), zupd_at, if_neg (by omega), h2]
  · rw [zupd_at, if_pos rfl, el]
  · rw [zupd_at, if_neg vne, zupd_at, if_pos rfl]
  · rw [zupd_at, if_neg dne, zupd_at, if_neg dnv, h7]
  · intro j
    dsimp only
    split
    · rename_i hj
      obtain ⟨c, c1, c2, c3⟩ := s3 (j - l.length) (by omega)
      rw [c2]
      exact c1
    · exact h9 j
  · intro j hj
    rw [el] at hj
    dsimp only
    by_cases hjl : l.length ≤ j
    · obtain ⟨c, c1, c2, c3⟩ := s3 (j - l.length) (by omega)
      rw [if_pos ⟨hjl, hj⟩, List.getElem?_append_right hjl, c2]
      rfl
    · rw [if_neg (fun q => hjl q.1), List.getElem?_append_left (by omega)]
      exact h10 j (by omega)
  · intro p hp
    rw [zupd_at, if_neg (by omega), zupd_at, if_neg (by omega)]
    exact h13 p hp
end CTEXT
