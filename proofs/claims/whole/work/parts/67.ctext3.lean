def cLin (C : cS) (n s k : Nat) : List Nat := tN (k + 1) ++ ([32] ++ ((if C.1 (oFa n 0 s) k = 2 then [85, 32] ++ (tMon (C.2.2.1 (oCe n 0 s) k).toNatClampNeg ++ tI (C.2.1 (oDe n 0 s) k).toInt64) else if C.1 (oFa n 0 s) k = 3 then [86, 32] ++ tI (C.2.1 (oDe n 0 s) k).toInt64 else [76]) ++ [10]))
def cLs (C : cS) (n s : Nat) : Nat → List Nat
  | 0 => []
  | k + 1 => cLs C n s k ++ cLin C n s k
def cTo (C : cS) (n s : Nat) : Nat → Int64
  | 0 => 0
  | k + 1 => if C.1 (oFa n 0 s) k = 2 then cTo C n s k + C.2.2.1 (oCe n 0 s) k else cTo C n s k
def cAll (C : cS) (n s : Nat) : List Nat := cLs C n s (C.1 (oSb n 0 s) 2) ++ ([84, 32] ++ (tMon (cTo C n s (C.1 (oSb n 0 s) 2)).toNatClampNeg ++ (tN (C.1 (oSb n 0 s) 1) ++ [10])))
/-- a text: a constant, or one that was made -/
def strC (S F : Nat) (ρ : zS) (p : Nat) (l : List Nat) : Prop := ∃ (b : Bool) (v : Nat) (x2 x3 : Value) (B : Nat → Int32), (p < ρ.1 ∧ (p < S ∨ F ≤ p)) ∧ (v < ρ.1 ∧ (v < S ∨ F ≤ v)) ∧ ρ.2.2 p = some (b, .inr (13, [.ref v, .int 0, x2, x3])) ∧ ρ.2.2 v = some (b, .inl (2, l.length, .inl B)) ∧ ∀ j, j < l.length → ∃ c, c < 128 ∧ l[j]? = some c ∧ B j = zi c
section CTEXT3
variable {g : zG} {S F n T D U s : Nat} {C : cS} {ρ0 ρ ρ' : zS} {l : List Nat} {k : Nat} {H : Nat → Int32}
theorem strC.mono {p : Nat} (h : strC S F ρ p l) (hx : dX ρ ρ') : strC S F ρ' p l := by
  obtain ⟨b, v, x2, x3, B, h1, h2, h3, h4, h5⟩ := h
  exact ⟨b, v, x2, x3, B, ⟨Nat.lt_of_lt_of_le h1.1 hx.1.1, h1.2⟩, ⟨Nat.lt_of_lt_of_le h2.1 hx.1.1, h2.2⟩, by rw [hx.2 p h1.1 (fun b x q => by rw [h3] at q; cases q)]; exact h3, by rw [hx.2 v h2.1 (fun b x q => by rw [h4] at q; cases q)]; exact h4, h5⟩
theorem chr_and {c : Nat} (hc : c < 128) : (((zi c &&& 255).toUInt32 % 65536).toInt32) = zi c := by
  have h2 : ∀ x : Fin 128, (((zi x.val &&& 255).toUInt32 % 65536).toInt32) = zi x.val := by decide +kernel
  exact h2 ⟨c, hc⟩
theorem X_byte {p i : Nat} (hF : S + cF n ≤ F) (hs : s < 3) (hp : C.2.2.2 (oSb n 0 s) 7 = some p) (h : strC S F ρ p l) (hl : l.length < 100000) (hi : i < 2147483648) : s_SeriesBook_listByteAt g (S + oSb n 0 s) (zi i) (cW S n C ρ) = some (fnd l i, cW S n C ρ) := by
  obtain ⟨b, v, x2, x3, B, h1, h2, h3, h4, h5⟩ := h
  have op : p < S ∨ S + cF n ≤ p := by omega
  have ov : v < S ∨ S + cF n ≤ v := by omega
  have w0 : zgR (cW S n C ρ) p 13 0 = some (some v) := ob_gR h3 op rfl
  have w1 : zgI (cW S n C ρ) p 13 1 = some 0 := ob_gI h3 op rfl
  have w2 : zar (cW S n C ρ) v 2 = some (l.length, .inl B) := by
    simp only [zar, cW_out ov, h4, if_true]
  have w3 : zal (cW S n C ρ) v 2 = some (zi l.length) := by
    simp only [zal, w2]
    rfl
  have cod : s_String_coder g p (cW S n C ρ) = some (0, cW S n C ρ) := by
    unfold s_String_coder s_String_coder_14
    rw [w1, Option.bind_some]
    rfl
  have len : s_String_length g p (cW S n C ρ) = some (zi l.length, cW S n C ρ) := by
    unfold s_String_length
    rw [w0, Option.bind_some, Option.bind_some, w3, Option.bind_some, ob_is h3 op, Option.bind_some, cod, Option.bind_some]
    dsimp only
    rw [shr0']
  unfold s_SeriesBook_listByteAt s_SeriesBook_listByteAt_26 s_SeriesBook_listByteAt_27
  rw [if_neg (by rw [zi_lt0 hi]; exact id), x_gSb7 (by decide) hs, Option.bind_some, hp, Option.bind_some, ob_is h3 op, Option.bind_some, len, Option.bind_some]
  dsimp only
  unfold fnd
  by_cases hil : i < l.length
  · obtain ⟨c, c1, c2, c3⟩ := h5 i hil
    have w4 : zaI (cW S n C ρ) v 2 (zi i) = some (B i) := by
      have z2 := zi_nat (a := i) hi
      simp only [zaI, w2, if_neg (zi_in hil (show l.length ≤ 2147483648 by omega))]
      rw [z2]
    have ci : s_String_checkIndex g (zi i) (zi l.length) (cW S n C ρ) = some (cW S n C ρ) := by
      unfold s_String_checkIndex s_Preconditions_checkIndex
      rw [Option.bind_some, if_neg (by rw [zi_lt0 hi]; exact id), if_pos (by rw [zi_lt hi (by omega)]; exact hil), Option.bind_some]
    have ca : s_StringLatin1_charAt g (some v) (zi i) (cW S n C ρ) = some (zi c, cW S n C ρ) := by
      unfold s_StringLatin1_charAt
      rw [Option.bind_some, w3, Option.bind_some, ci, Option.bind_some, w4, Option.bind_some, c3, chr_and c1, if_pos (chr_ok c1).2]
    have il : s_String_isLatin1 g p (cW S n C ρ) = some (zi 1, cW S n C ρ) := by
      unfold s_String_isLatin1 s_String_isLatin1_18
      rw [w1, Option.bind_some, if_pos rfl]
      rfl
    have ch : s_String_charAt g p (zi i) (cW S n C ρ) = some (zi c, cW S n C ρ) := by
      unfold s_String_charAt
      rw [ob_is h3 op, Option.bind_some, il, Option.bind_some]
      dsimp only
      rw [if_neg (show ¬ zi 1 = 0 by decide), w0, Option.bind_some, ca, Option.bind_some]
      dsimp only
      rw [if_pos (chr_ok c1).2]
    rw [if_neg (by rw [zi_le (by omega) hi]; omega), x_gSb7 (by decide) hs, Option.bind_some, hp, Option.bind_some, ob_is h3 op, Option.bind_some, ch, Option.bind_some, c2]
  · have e : l[i]? = none := List.getElem?_eq_none (by omega)
    rw [if_pos (by rw [zi_le (by omega) hi]; omega), e]
theorem X_byteN {x : Int32} (hx : x < 0) : s_SeriesBook_listByteAt g (S + oSb n 0 s) x (cW S n C ρ) = some (-1, cW S n C ρ) := by
  unfold s_SeriesBook_listByteAt
  rw [if_pos hx]
  rfl
/-- the end: the text becomes a String -/
theorem X_toS (hF : S + cF n ≤ F) (h : TX F T D U ρ0 ρ l 0 H) (hl : l.length ≤ 40000) : ∃ ρ', s_StringBuilder_toString g (T + 1) (cW S n C ρ) = some (some ρ.1, cW S n C ρ') ∧ strC S F ρ' ρ.1 l ∧ (∀ p, p < T → ρ'.2.2 p = ρ0.2.2 p) ∧ ρ'.1 = ρ.1 + 2 ∧ ρ'.2.1 = ρ.2.1 + 4 + l.length := by
  obtain ⟨v, cap, bb, x2, h1, h2, h3, h4, h5, h6, h7, h8, h9, h10, h11, h12, h13⟩ := h
  have o1 : S + cF n ≤ T + 1 := by omega
  have ov : S + cF n ≤ v := by omega
  generalize hY : znew ρ 4 (.inr (13, [.null, .int 0, .int 0, .int 0])) = Y at *
  have y1 : Y.1 = ρ.1 + 1 := by rw [← hY]; rfl
  have y3 : Y.2.2 (T + 1) = some (true, .inr (12, [.ref v, .int (zi 0), x2, .int (zi l.length)])) := by
    rw [← hY, znew_at, if_neg (by omega), h3]
  have y4 : Y.2.2 ρ.1 = some (true, .inr (13, [.null, .int 0, .int 0, .int 0])) := by
    rw [← hY, znew_at, if_pos rfl]
  have y5 : Y.2.2 v = some (true, .inl (2, cap, .inl (fun j => zi (bb j)))) := by
    rw [← hY, znew_at, if_neg (by omega), h5]
  have g0 : zgR (cW S n C Y) (T + 1) 12 0 = some (some v) := ob_gR y3 (Or.inr o1) rfl
  have g1 : zgI (cW S n C Y) (T + 1) 12 1 = some (zi 0) := ob_gI y3 (Or.inr o1) rfl
  have g4 : zgI (cW S n C Y) (T + 1) 12 3 = some (zi l.length) := ob_gI y3 (Or.inr o1) rfl
  have g5 : zis (cW S n C Y) (T + 1) 12 = some () := ob_is y3 (Or.inr o1)
  have q1 : s_AbstractStringBuilder_isLatin1 g (T + 1) (cW S n C Y) = some (zi 1, cW S n C Y) := by
    unfold s_AbstractStringBuilder_isLatin1 s_AbstractStringBuilder_isLatin1_18
    rw [g1, Option.bind_some, if_pos (show zi 0 = 0 from rfl)]
    rfl
  have q2 := ob_p (S := S) (n := n) (C := C) (m := 1) (v := .int 0) y4 (by omega) (by decide : 1 < 4)
  generalize hW : zupd Y ρ.1 (.inr (13, [.null, .int 0, .int 0, .int 0].set 1 (.int 0))) = W at *
  have w1 : W.1 = ρ.1 + 1 := by rw [← hW]; exact y1
  have w4 : W.2.2 ρ.1 = some (true, .inr (13, [.null, .int 0, .int 0, .int 0])) := by
    rw [← hW, zupd_at, if_pos rfl]
    rfl
  have w5 : W.2.2 v = some (true, .inl (2, cap, .inl (fun j => zi (bb j)))) := by
    rw [← hW, zupd_at, if_neg (by omega), y5]
  -- the copy of the bytes
  have key : ∃ B : Nat → Int32, (∀ j, j < l.length → B j = zi (bb j)) ∧ s_Arrays_copyOfRange g (some v) 0 (zi l.length) (cW S n C W) = some (some (ρ.1 + 1), cW S n C (znew W l.length (.inl (2, l.length, .inl B)))) := by
    have al := d_alI (C := C) w5 ov
    by_cases hc : l.length = cap
    · refine ⟨fun j => zi (bb j), fun j _ => rfl, ?_⟩
      have cl : zcl1 (cW S n C W) v = some (cW S n C (znew W cap (.inl (2, cap, .inl (fun j => zi (bb j)))))) := by
        unfold zcl1
        rw [d_arI w5 ov]
        refine (if_pos ⟨d_own w5 (Or.inr ov), fun i _ => fits_b (h9 i)⟩).trans ?_
        rw [cW_znew (by rw [w1]; omega)]
      have zo : zoa (cW S n C (znew W cap (.inl (2, cap, .inl (fun j => zi (bb j)))))) W.1 2 = some () := by
        have c : (znew W cap (.inl (2, cap, .inl (fun j => zi (bb j))))).2.2 W.1 = some (true, .inl (2, cap, .inl (fun j => zi (bb j)))) := by
          rw [znew_at, if_pos rfl]
        unfold zoa
        rw [d_arI c (by rw [w1]; omega), d_own c (Or.inr (by rw [w1]; omega))]
        rfl
      unfold s_Arrays_copyOfRange
      rw [if_pos rfl, Option.bind_some, al, Option.bind_some, hc, if_pos rfl, cl, Option.bind_some]
      have zo' : zoa (cW S n C (znew W cap (.inl (2, cap, .inl (fun j => zi (bb j)))))) (cW S n C W).1 2 = some () := zo
      rw [zo', Option.bind_some]
      have : (cW S n C W).1 = ρ.1 + 1 := w1
      rw [this]
    · refine ⟨va_cpy (fun j => zi (bb j)) (fun _ => 0) 0 0 l.length, fun j hj => ?_, ?_⟩
      · show (if 0 ≤ j ∧ j < 0 + l.length then zi (bb (0 + (j - 0))) else 0) = _
        rw [if_pos (by omega), Nat.zero_add, Nat.sub_zero]
      · have e0 : zi l.length - 0 = zi l.length := Int32.sub_zero _
        have e1 : zi cap - 0 = zi cap := Int32.sub_zero _
        have c1 : (znew W l.length (.inl (2, l.length, .inl (fun _ => (0 : Int32))))).2.2 W.1 = some (true, .inl (2, l.length, .inl (fun _ => 0))) := by
          rw [znew_at, if_pos rfl]
        have c2 : (znew W l.length (.inl (2, l.length, .inl (fun _ => (0 : Int32))))).2.2 v = some (true, .inl (2, cap, .inl (fun j => zi (bb j)))) := by
          rw [znew_at, if_neg (by omega), w5]
        have cp : zcpI (cW S n C (znew W l.length (.inl (2, l.length, .inl (fun _ => 0))))) .byte v W.1 2 0 0 (zi l.length) = some (cW S n C (znew W l.length (.inl (2, l.length, .inl (va_cpy (fun j => zi (bb j)) (fun _ => 0) 0 0 l.length))))) := by
          have z1 := zi_nat (a := l.length) (by omega)
          have z2 : (0 : Int32).toNatClampNeg = 0 := rfl
          have z3 : ((¬ (0 : Int32) < 0 ∧ ¬ (0 : Int32) < 0 ∧ ¬ zi l.length < 0) ∧ (0 : Int32).toNatClampNeg + (zi l.length).toNatClampNeg ≤ cap ∧ (0 : Int32).toNatClampNeg + (zi l.length).toNatClampNeg ≤ l.length) ∧ zown (cW S n C (znew W l.length (.inl (2, l.length, .inl (fun _ => 0))))) W.1 = true ∧ ∀ i, i < (zi l.length).toNatClampNeg → fits .byte (.int ((fun j => zi (bb j)) ((0 : Int32).toNatClampNeg + i))) = true := by
            rw [z1, z2, zi_lt0 (by omega)]
            exact ⟨⟨⟨by decide, by decide, fun q => q⟩, by omega, by omega⟩, d_own c1 (Or.inr (by rw [w1]; omega)), fun i hi => fits_b (h9 _)⟩
          unfold zcpI
          rw [d_arI c2 ov, d_arI c1 (by rw [w1]; omega)]
          refine (if_pos z3).trans ?_
          rw [z1, z2, cW_zupd (Or.inr (by rw [w1]; omega)), zupd_new]
        unfold s_Arrays_copyOfRange s_Arrays_copyOfRange_10 s_Arrays_copyOfRangeByte s_Arrays_checkLength
        rw [if_pos rfl, Option.bind_some, al, Option.bind_some, if_neg (by rw [zi_eq (by omega) (by omega)]; exact hc), if_pos (by rw [zi_l0, zi_le (by omega) (by omega)]; omega), Option.bind_some, e0, zlen_zi (by omega), Option.bind_some, Option.bind_some, Option.bind_some, cW_znew (by rw [w1]; omega), d_alI c2 ov, Option.bind_some, e1, if_pos (by rw [zi_lt (by omega) (by omega)]; omega), Option.bind_some]
        have cp' : zcpI (cW S n C (znew W l.length (.inl (2, l.length, .inl (fun _ => 0))))) .byte v (cW S n C W).1 2 0 0 (zi l.length) = some (cW S n C (znew W l.length (.inl (2, l.length, .inl (va_cpy (fun j => zi (bb j)) (fun _ => 0) 0 0 l.length))))) := cp
        rw [cp', Option.bind_some, Option.bind_some]
        have : (cW S n C W).1 = ρ.1 + 1 := w1
        rw [this]
  obtain ⟨B, kb, kr⟩ := key
  have z4 : (znew W l.length (.inl (2, l.length, .inl B))).2.2 ρ.1 = some (true, .inr (13, [.null, .int 0, .int 0, .int 0])) := by
    rw [znew_at, if_neg (by omega), w4]
  have q3 := ob_p (S := S) (n := n) (C := C) (m := 0) (v := va_rf (some (ρ.1 + 1))) z4 (by omega) (by decide : 0 < 4)
  refine ⟨zupd (znew W l.length (.inl (2, l.length, .inl B))) ρ.1 (.inr (13, [.ref (ρ.1 + 1), .int 0, .int 0, .int 0])), ?_, ?_, ?_, ?_, ?_⟩
  · have i2 : s_String_init2 g ρ.1 (some (T + 1)) none (cW S n C Y) = some (cW S n C (zupd (znew W l.length (.inl (2, l.length, .inl B))) ρ.1 (.inr (13, [.ref (ρ.1 + 1), .int 0, .int 0, .int 0])))) := by
      unfold s_String_init2 s_AbstractStringBuilder_getValue s_StringBuilder_length s_AbstractStringBuilder_length
      rw [Option.bind_some, g5, Option.bind_some, g0, Option.bind_some, Option.bind_some]
      dsimp only
      rw [g5, Option.bind_some, Option.bind_some, g4, Option.bind_some, Option.bind_some]
      dsimp only
      rw [Option.bind_some, g5, Option.bind_some, q1, Option.bind_some]
      dsimp only
      rw [if_neg (show ¬ zi 1 = 0 by decide), q2, Option.bind_some, kr, Option.bind_some]
      dsimp only
      rw [q3, Option.bind_some]
      rfl
    have i2' : s_String_init2 g (cW S n C ρ).1 (some (T + 1)) none (cW S n C Y) = some (cW S n C (zupd (znew W l.length (.inl (2, l.length, .inl B))) ρ.1 (.inr (13, [.ref (ρ.1 + 1), .int 0, .int 0, .int 0])))) := i2
    unfold s_StringBuilder_toString s_String_init
    rw [Option.bind_some, cW_znew (by omega), hY, i2', Option.bind_some, Option.bind_some]
    rfl
  · refine ⟨true, ρ.1 + 1, .int 0, .int 0, B, ⟨?_, Or.inr (by omega)⟩, ⟨?_, Or.inr (by omega)⟩, ?_, ?_, fun j hj => ⟨bb j, h9 j, h10 j hj, kb j hj⟩⟩
    · show ρ.1 < W.1 + 1
      rw [w1]
      omega
    · show ρ.1 + 1 < W.1 + 1
      rw [w1]
      omega
    · rw [zupd_at, if_pos rfl]
    · rw [zupd_at, if_neg (by omega), znew_at, if_pos w1.symm]
  · intro p hp
    rw [zupd_at, if_neg (by omega), znew_at, if_neg (by rw [w1]; omega), ← hW, zupd_at, if_neg (by omega), ← hY, znew_at, if_neg (by omega)]
    exact h13 p hp
  · show W.1 + 1 = ρ.1 + 2
    rw [w1]
  · show W.2.1 + l.length = ρ.2.1 + 4 + l.length
    rw [← hW, ← hY]
    rfl
end CTEXT3
