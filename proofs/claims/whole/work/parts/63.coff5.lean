section COFF5
variable {g : zG} {e S F n i s b a o c d k : Nat} {C C' C1 : cS} {ρ ρ' ρ1 : zS} {f f' : Nat → Nat → Nat} {q ser w ev kd num : Nat}
theorem Y_newAns {st : Nat} (hF : S + cF n ≤ F) (hF2 : F ≤ ρ.1) (hq : isLet F ρ q ser w ev kd b num) (hst : st < 2) : s_Answer_init g ρ.1 (some q) (zi st) none (cW S n C (znew ρ 5 (.inr (6, [.int 0, .null, .int 0, .int 0, .int 0])))) = some (cW S n C (znew ρ 5 (.inr (6, [.int (zi st), .null, .int (zi 3), .int (zi b), .int (zi num)])))) := by
  have h := Y_ansInit (g := g) (C := C) (bl := none) hF (dOb.new (y := 0) (k := 5) (ci := 6) (fs := [.int 0, .null, .int 0, .int 0, .int 0]) hF2) (dOb.mono hq dX.new) hst
  rw [zupd_new] at h
  exact h
theorem Y_takeS (hF : S + cF n ≤ F) (hF2 : F ≤ ρ.1) (hn : n ≤ 6) (hi : i < n) (hs : ser < 3) (hq : isLet F ρ q ser w ev kd i num) (h : C.1 (oSt n 0) i = 1) : s_Office_take g (S + oOf n) (some q) (cW S n C ρ) = some (some ρ.1, cW S n C (znew ρ 5 (.inr (6, [.int (zi 1), .null, .int (zi 3), .int (zi i), .int (zi num)])))) := by
  have q1 : zgI (cW S n C ρ) q 9 0 = some (zi ser) := dOb.gI hq hF rfl
  have q2 : zgI (cW S n C ρ) q 9 4 = some (zi i) := dOb.gI hq hF rfl
  have q3 : s_Answer_init g (cW S n C ρ).1 (some q) 1 none (cW S n C (znew ρ 5 (.inr (6, [.int 0, .null, .int 0, .int 0, .int 0])))) = some (cW S n C (znew ρ 5 (.inr (6, [.int (zi 1), .null, .int (zi 3), .int (zi i), .int (zi num)])))) := Y_newAns hF hF2 hq (by decide)
  unfold s_Office_take
  rw [Option.bind_some, q1, Option.bind_some, x_isOf, Option.bind_some, Y_bookAtO hs, Option.bind_some]
  dsimp only
  rw [q2, Option.bind_some, x_isOf, Option.bind_some, Y_knows hi hn, Option.bind_some]
  dsimp only
  rw [if_neg (show ¬ zi 1 = 0 by decide), x_gOf2, Option.bind_some, q2, Option.bind_some, Option.bind_some, x_rSt (by decide) hi hn, Option.bind_some, h, if_neg (show ¬ zi 1 = 0 by decide)]
  unfold s_Office_take_37
  rw [if_neg (by decide)]
  unfold s_Office_take_46
  rw [Option.bind_some, cW_znew (Nat.le_trans hF hF2), q3, Option.bind_some]
  rfl
theorem Y_take_pre {X : Option (Option Nat × zS)} (hF : S + cF n ≤ F) (hn : n ≤ 6) (hi : i < n) (hs : ser < 3) (hq : isLet F ρ q ser w ev kd i num) (h : C.1 (oSt n 0) i = 0) (hX : s_Office_take_37 g (S + oOf n) (some q) (some (S + oSb n 0 ser)) 0 (cW S n C ρ) = X) : s_Office_take g (S + oOf n) (some q) (cW S n C ρ) = X := by
  have q1 : zgI (cW S n C ρ) q 9 0 = some (zi ser) := dOb.gI hq hF rfl
  have q2 : zgI (cW S n C ρ) q 9 4 = some (zi i) := dOb.gI hq hF rfl
  unfold s_Office_take
  rw [Option.bind_some, q1, Option.bind_some, x_isOf, Option.bind_some, Y_bookAtO hs, Option.bind_some]
  dsimp only
  rw [q2, Option.bind_some, x_isOf, Option.bind_some, Y_knows hi hn, Option.bind_some]
  dsimp only
  rw [if_neg (show ¬ zi 1 = 0 by decide), x_gOf2, Option.bind_some, q2, Option.bind_some, Option.bind_some, x_rSt (by decide) hi hn, Option.bind_some, h, if_pos (show zi 0 = 0 from rfl)]
  unfold s_Office_take_36
  exact hX
theorem Y_takeG0 (hF : S + cF n ≤ F) (hF2 : F ≤ ρ.1) (hn : n ≤ 6) (hi : i < n) (hs : ser < 3) (hq : isLet F ρ q ser w ev 1 i num) (h : C.1 (oSt n 0) i = 0) (h0 : C.1 (oSb n 0 ser) 0 < 128) (hg : C.1 (oSb n 0 ser) 2 ≤ 300) (hw : 1 ≤ w ∧ w ≤ 100) (hno : ¬ (C.1 (oSb n 0 ser) 0 = 1 ∧ C.1 (oSb n 0 ser) 2 < 300)) : s_Office_take g (S + oOf n) (some q) (cW S n C ρ) = some (some ρ.1, cW S n C (znew ρ 5 (.inr (6, [.int (zi 0), .null, .int (zi 3), .int (zi i), .int (zi num)])))) := by
  refine Y_take_pre hF hn hi hs hq h ?_
  have hq2 := dOb.mono hq (dX.new (k := 5) (y := .inr (6, [.int 0, .null, .int 0, .int 0, .int 0])))
  have q0 : zgI (cW S n C ρ) q 9 3 = some (zi 1) := dOb.gI hq hF rfl
  have q1 : zgI (cW S n C (znew ρ 5 (.inr (6, [.int 0, .null, .int 0, .int 0, .int 0])))) q 9 4 = some (zi i) := dOb.gI hq2 hF rfl
  have q2 : zgI (cW S n C (znew ρ 5 (.inr (6, [.int 0, .null, .int 0, .int 0, .int 0])))) q 9 1 = some (zi w) := dOb.gI hq2 hF rfl
  have q3 : s_Answer_init g (cW S n C ρ).1 (some q) 0 none (cW S n C (znew ρ 5 (.inr (6, [.int 0, .null, .int 0, .int 0, .int 0])))) = some (cW S n C (znew ρ 5 (.inr (6, [.int (zi 0), .null, .int (zi 3), .int (zi i), .int (zi num)])))) := Y_newAns hF hF2 hq (by decide)
  have q4 := Y_give0 (g := g) (S := S) (n := n) (C := C) (ρ := znew ρ 5 (.inr (6, [.int 0, .null, .int 0, .int 0, .int 0]))) (b := i) hs h0 hg hw hno
  unfold s_Office_take_37
  rw [if_pos rfl]
  dsimp only
  rw [Option.bind_some, q0, Option.bind_some, if_pos (show zi 1 = 1 from rfl), Option.bind_some, cW_znew (Nat.le_trans hF hF2), q1, Option.bind_some, q2, Option.bind_some, x_isSb (by decide) hs, Option.bind_some, q4, Option.bind_some]
  dsimp only
  rw [q3, Option.bind_some]
  rfl
def gvn (ρ : zS) (x m i num : Nat) : zS := zupd (znew (znew ρ 5 (.inr (6, [.int 0, .null, .int 0, .int 0, .int 0]))) 2 (.inr (7, [.int (zi x), .int (zi m)]))) ρ.1 (.inr (6, [.int (zi 0), .ref (ρ.1 + 1), .int (zi 3), .int (zi i), .int (zi num)]))
theorem Y_takeG {m : Nat} (hF : S + cF n ≤ F) (hF2 : F ≤ ρ.1) (hn : n ≤ 6) (hi : i < n) (hs : ser < 3) (hq : isLet F ρ q ser w ev 1 i num) (h : C.1 (oSt n 0) i = 0) (h0 : C.1 (oSb n 0 ser) 0 = 1) (hg : C.1 (oSb n 0 ser) 2 < 300) (hw : 1 ≤ w ∧ w ≤ 100) (hm : m = min w (300 - C.1 (oSb n 0 ser) 2)) : s_Office_take g (S + oOf n) (some q) (cW S n C ρ) = some (some ρ.1, cW S n (cSN (cGv C n ser i m) (oSb n 0 ser) 2 (C.1 (oSb n 0 ser) 2 + m)) (gvn ρ (C.1 (oSb n 0 ser) 2 + 1) m i num)) := by
  refine Y_take_pre hF hn hi hs hq h ?_
  have hq2 := dOb.mono hq (dX.new (k := 5) (y := .inr (6, [.int 0, .null, .int 0, .int 0, .int 0])))
  have q0 : zgI (cW S n C ρ) q 9 3 = some (zi 1) := dOb.gI hq hF rfl
  have q1 : zgI (cW S n C (znew ρ 5 (.inr (6, [.int 0, .null, .int 0, .int 0, .int 0])))) q 9 4 = some (zi i) := dOb.gI hq2 hF rfl
  have q2 : zgI (cW S n C (znew ρ 5 (.inr (6, [.int 0, .null, .int 0, .int 0, .int 0])))) q 9 1 = some (zi w) := dOb.gI hq2 hF rfl
  have q4 := Y_give (g := g) (S := S) (n := n) (C := C) (ρ := znew ρ 5 (.inr (6, [.int 0, .null, .int 0, .int 0, .int 0]))) (b := i) (m := m) (by show S + cF n ≤ ρ.1 + 1; omega) hs h0 hg hw hm
  have hA : dOb F (znew (znew ρ 5 (.inr (6, [.int 0, .null, .int 0, .int 0, .int 0]))) 2 (.inr (7, [.int (zi (C.1 (oSb n 0 ser) 2 + 1)), .int (zi m)]))) ρ.1 6 [.int 0, .null, .int 0, .int 0, .int 0] := dOb.mono (dOb.new (y := 0) hF2) dX.new
  have q5 := Y_ansInit (g := g) (C := cSN (cGv C n ser i m) (oSb n 0 ser) 2 (C.1 (oSb n 0 ser) 2 + m)) (st := 0) (bl := some (ρ.1 + 1)) hF hA (dOb.mono hq2 dX.new) (by decide)
  have q6 : s_Answer_init g (cW S n C ρ).1 (some q) 0 (some (znew ρ 5 (.inr (6, [.int 0, .null, .int 0, .int 0, .int 0]))).1) (cW S n (cSN (cGv C n ser i m) (oSb n 0 ser) 2 (C.1 (oSb n 0 ser) 2 + m)) (znew (znew ρ 5 (.inr (6, [.int 0, .null, .int 0, .int 0, .int 0]))) 2 (.inr (7, [.int (zi (C.1 (oSb n 0 ser) 2 + 1)), .int (zi m)])))) = some (cW S n (cSN (cGv C n ser i m) (oSb n 0 ser) 2 (C.1 (oSb n 0 ser) 2 + m)) (gvn ρ (C.1 (oSb n 0 ser) 2 + 1) m i num)) := q5
  unfold s_Office_take_37
  rw [if_pos rfl]
  dsimp only
  rw [Option.bind_some, q0, Option.bind_some, if_pos (show zi 1 = 1 from rfl), Option.bind_some, cW_znew (Nat.le_trans hF hF2), q1, Option.bind_some, q2, Option.bind_some, x_isSb (by decide) hs, Option.bind_some, q4, Option.bind_some]
  dsimp only
  rw [q6, Option.bind_some]
  rfl
theorem gvn_ok {x m : Nat} (hF2 : F ≤ ρ.1) : isAns F (gvn ρ x m i num) ρ.1 0 (some (ρ.1 + 1)) i num ∧ isBlk F (gvn ρ x m i num) (ρ.1 + 1) x m ∧ dX ρ (gvn ρ x m i num) ∧ (gvn ρ x m i num).1 = ρ.1 + 2 ∧ (gvn ρ x m i num).2.1 = ρ.2.1 + 7 := by
  have hA : dOb F (znew (znew ρ 5 (.inr (6, [.int 0, .null, .int 0, .int 0, .int 0]))) 2 (.inr (7, [.int (zi x), .int (zi m)]))) ρ.1 6 [.int 0, .null, .int 0, .int 0, .int 0] := dOb.mono (dOb.new (y := 0) hF2) dX.new
  refine ⟨dOb.upd hA, ⟨by omega, by show ρ.1 + 1 < ρ.1 + 1 + 1; omega, ?_⟩, ⟨⟨by show ρ.1 ≤ ρ.1 + 1 + 1; omega, by show ρ.2.1 ≤ ρ.2.1 + 5 + 2; omega⟩, fun p hp _ => ?_⟩, rfl, rfl⟩
  · show (if ρ.1 + 1 = ρ.1 then _ else (if ρ.1 + 1 = ρ.1 + 1 then _ else _)) = _
    rw [if_neg (by omega), if_pos rfl]
  · show (if p = ρ.1 then _ else (if p = ρ.1 + 1 then _ else (if p = ρ.1 then _ else ρ.2.2 p))) = _
    rw [if_neg (by omega), if_neg (by omega), if_neg (by omega)]
/-! entering a letter's events -/
def cEnL (C : cS) (n s : Nat) (en eu : Nat → Nat) (ec : Nat → Int64) (ed : Nat → Int32) : Nat → cS
  | 0 => C
  | m + 1 => cEn (cEnL C n s en eu ec ed m) n s (en m) (eu m) (ec m) (ed m)
theorem cEn_fr {u : Nat} {ct : Int64} {dt : Int32} : (∀ x, ¬ x = oFa n 0 s → (cEn C n s k u ct dt).1 x = C.1 x) ∧ (∀ x, ¬ x = oDe n 0 s → (cEn C n s k u ct dt).2.1 x = C.2.1 x) ∧ (∀ x, ¬ x = oCe n 0 s → (cEn C n s k u ct dt).2.2.1 x = C.2.2.1 x) ∧ (cEn C n s k u ct dt).2.2.2 = C.2.2.2 := by
  unfold cEn
  split
  · refine ⟨fun x hx => ?_, fun x hx => ?_, fun x hx => ?_, rfl⟩
    · funext t
      simp only [cSI_1, cSL_1, cSN_at, hx, false_and, if_false]
    · funext t
      simp only [cSI_at, cSL_21, cSN_21, hx, false_and, if_false]
    · funext t
      simp only [cSI_221, cSL_at, cSN_221, hx, false_and, if_false]
  · exact ⟨fun x _ => rfl, fun x _ => rfl, fun x _ => rfl, rfl⟩
theorem cEn_lt {u : Nat} {ct : Int64} {dt : Int32} (hf : ∀ k, k < 300 → C.1 (oFa n 0 s) k < 128) : ∀ k', k' < 300 → (cEn C n s k u ct dt).1 (oFa n 0 s) k' < 128 := by
  intro k' hk'
  unfold cEn
  split
  · simp only [cSI_1, cSL_1, cSN_at]
    split
    · omega
    · exact hf k' hk'
  · exact hf k' hk'
variable {en eu : Nat → Nat} {ec : Nat → Int64} {ed : Nat → Int32}
theorem cEnL_fr {m : Nat} : (∀ x, ¬ x = oFa n 0 s → (cEnL C n s en eu ec ed m).1 x = C.1 x) ∧ (∀ x, ¬ x = oDe n 0 s → (cEnL C n s en eu ec ed m).2.1 x = C.2.1 x) ∧ (∀ x, ¬ x = oCe n 0 s → (cEnL C n s en eu ec ed m).2.2.1 x = C.2.2.1 x) ∧ (cEnL C n s en eu ec ed m).2.2.2 = C.2.2.2 := by
  induction m with
  | zero => exact ⟨fun x _ => rfl, fun x _ => rfl, fun x _ => rfl, rfl⟩
  | succ m ih =>
    obtain ⟨a1, a2, a3, a4⟩ := ih
    obtain ⟨b1, b2, b3, b4⟩ := cEn_fr (C := cEnL C n s en eu ec ed m) (n := n) (s := s) (k := en m) (u := eu m) (ct := ec m) (dt := ed m)
    exact ⟨fun x hx => by rw [cEnL, b1 x hx, a1 x hx], fun x hx => by rw [cEnL, b2 x hx, a2 x hx], fun x hx => by rw [cEnL, b3 x hx, a3 x hx], by rw [cEnL, b4, a4]⟩
theorem cEnL_lt {m : Nat} (hf : ∀ k, k < 300 → C.1 (oFa n 0 s) k < 128) : ∀ k', k' < 300 → (cEnL C n s en eu ec ed m).1 (oFa n 0 s) k' < 128 := by
  induction m with
  | zero => exact hf
  | succ m ih => exact cEn_lt ih
theorem Y_takeF {len : Nat} {G : Nat → Option Nat} {pe : Nat → Nat} (hF : S + cF n ≤ F) (hF2 : F ≤ ρ.1) (hn : n ≤ 6) (hi : i < n) (hs : ser < 3) (hq : isLet F ρ q ser w ev 2 i num) (h : C.1 (oSt n 0) i = 0) (h0 : C.1 (oSb n 0 ser) 0 < 128) (hg : C.1 (oSb n 0 ser) 2 ≤ 300) (hf : ∀ k, k < 300 → C.1 (oFa n 0 ser) k < 128) (hl : len ≤ 30) (hev : isEvA F ρ ev len G) (hE : ∀ j, j < len → G j = some (pe j) ∧ isEv F ρ (pe j) (en j + 1) (eu j) (ec j) (ed j) ∧ eu j < 2 ∧ en j < C.1 (oSb n 0 ser) 2) : s_Office_take g (S + oOf n) (some q) (cW S n C ρ) = some (some ρ.1, cW S n (cEnL C n ser en eu ec ed len) (znew ρ 5 (.inr (6, [.int (zi 0), .null, .int (zi 3), .int (zi i), .int (zi num)])))) := by
  refine Y_take_pre hF hn hi hs hq h ?_
  have q0 : zgI (cW S n C ρ) q 9 3 = some (zi 2) := dOb.gI hq hF rfl
  have q1 : ∀ X : cS, zgR (cW S n X ρ) q 9 2 = some (some ev) := fun X => dOb.gR (r := some ev) hq hF rfl
  have m1 : ¬ oSb n 0 ser = oFa n 0 ser := by unfold oSb oFa; omega
  have q3 : ∀ X : cS, s_Answer_init g (cW S n X ρ).1 (some q) 0 none (cW S n X (znew ρ 5 (.inr (6, [.int 0, .null, .int 0, .int 0, .int 0])))) = some (cW S n X (znew ρ 5 (.inr (6, [.int (zi 0), .null, .int (zi 3), .int (zi i), .int (zi num)])))) := fun X => Y_newAns hF hF2 hq (by decide)
  have key : ∀ (m k fuel : Nat), k + m = len → m < fuel → s_Office_take_90 g fuel (S + oOf n) (some q) (some (S + oSb n 0 ser)) 0 (zi k) (cW S n (cEnL C n ser en eu ec ed k) ρ) = some (some ρ.1, cW S n (cEnL C n ser en eu ec ed len) (znew ρ 5 (.inr (6, [.int (zi 0), .null, .int (zi 3), .int (zi i), .int (zi num)])))) := by
    intro m
    induction m with
    | zero =>
      intro k fuel h1 h2
      obtain ⟨fuel, rfl⟩ : ∃ k, fuel = k + 1 := ⟨fuel - 1, by omega⟩
      have e1 : k = len := by omega
      subst e1
      rw [s_Office_take_90]
      rw [Option.bind_some, q1, Option.bind_some, Option.bind_some, isEvA.len hev hF, Option.bind_some, if_pos (Int32.le_refl _), Option.bind_some, cW_znew (Nat.le_trans hF hF2), q3, Option.bind_some]
      rfl
    | succ m ih =>
      intro k fuel h1 h2
      obtain ⟨fuel, rfl⟩ : ∃ k, fuel = k + 1 := ⟨fuel - 1, by omega⟩
      obtain ⟨b1, b2, b3, b4⟩ := hE k (by omega)
      have fr := cEnL_fr (C := C) (n := n) (s := ser) (en := en) (eu := eu) (ec := ec) (ed := ed) (m := k)
      have fl := cEnL_lt (C := C) (n := n) (s := ser) (en := en) (eu := eu) (ec := ec) (ed := ed) (m := k) hf
      have q5 := Y_enter (g := g) (S := S) (C := cEnL C n ser en eu ec ed k) (ρ := ρ) hF hs (by rw [fr.1 _ m1]; exact hg) (by rw [fr.1 _ m1]; exact b4) b2 b3 (by rw [fr.1 _ m1]; exact h0) (fl _ (by omega))
      have q := ih (k + 1) fuel (by omega) (by omega)
      rw [s_Office_take_90]
      rw [Option.bind_some, q1, Option.bind_some, Option.bind_some, isEvA.len hev hF, Option.bind_some, if_neg (by rw [zi_le (by omega) (by omega)]; omega), Option.bind_some, Option.bind_some, isEvA.get hev hF (by omega) (by omega), Option.bind_some, Option.bind_some, x_isSb (by decide) hs, Option.bind_some, b1, q5, Option.bind_some, zi_l1, zi_add]
      exact q
  have z := key len 0 zfuel (by omega) (by unfold zfuel; omega)
  unfold s_Office_take_37
  rw [if_pos rfl]
  dsimp only
  rw [Option.bind_some, q0, Option.bind_some, if_neg (show ¬ zi 2 = 1 by decide)]
  exact z
/-! the office's answer to a letter -/
def tkOK (F : Nat) (ρ : zS) (r : Option Nat) (tk : Nat) : Prop := (r = none ∧ tk = 0) ∨ ∃ p st bl b, r = some p ∧ isAns F ρ p st bl b tk
theorem Y_ans_pre {tk : Nat} {X : Option (Option Nat × zS)} (hF : S + cF n ≤ F) (hn : n ≤ 6) (hi : i < n) (hq : isLet F ρ q ser w ev kd i num) (ht : tkOK F ρ (C.2.2.2 (oAn n 0) i) tk) (hX : s_Office_answerTo_35 g (S + oOf n) (some q) (C.2.2.2 (oAn n 0) i) (zi tk) (cW S n C ρ) = X) : s_Office_answerTo g (S + oOf n) (some q) (cW S n C ρ) = X := by
  have q1 : zgI (cW S n C ρ) q 9 4 = some (zi i) := dOb.gI hq hF rfl
  unfold s_Office_answerTo
  rw [Option.bind_some, q1, Option.bind_some, x_isOf, Option.bind_some, Y_knows hi hn, Option.bind_some]
  dsimp only
  rw [if_neg (show ¬ zi 1 = 0 by decide), x_gOf4, Option.bind_some, q1, Option.bind_some, Option.bind_some, x_rAn (by decide) hi hn, Option.bind_some]
  rcases ht with ⟨h1, h2⟩ | ⟨p, st, bl, b, h1, h2⟩
  · rw [h1] at hX ⊢
    dsimp only
    rw [h2] at hX
    exact hX
  · rw [h1] at hX ⊢
    dsimp only
    have q2 : zgI (cW S n C ρ) p 6 4 = some (zi tk) := dOb.gI h2 hF rfl
    rw [q2, Option.bind_some]
    exact hX
theorem Y_ansOld {tk : Nat} (hF : S + cF n ≤ F) (hn : n ≤ 6) (hi : i < n) (hq : isLet F ρ q ser w ev kd i num) (ht : tkOK F ρ (C.2.2.2 (oAn n 0) i) tk) (he : num = tk) : s_Office_answerTo g (S + oOf n) (some q) (cW S n C ρ) = some (C.2.2.2 (oAn n 0) i, cW S n C ρ) := by
  refine Y_ans_pre hF hn hi hq ht ?_
  have q1 : zgI (cW S n C ρ) q 9 5 = some (zi num) := dOb.gI hq hF rfl
  unfold s_Office_answerTo_35
  rw [Option.bind_some, q1, Option.bind_some, if_pos (by rw [he])]
theorem Y_ansNo {tk : Nat} (hF : S + cF n ≤ F) (hn : n ≤ 6) (hi : i < n) (hq : isLet F ρ q ser w ev kd i num) (ht : tkOK F ρ (C.2.2.2 (oAn n 0) i) tk) (h1 : ¬ num = tk) (h2 : ¬ num = tk + 1) (hb : num < 2147483648 ∧ tk + 1 < 2147483648) : s_Office_answerTo g (S + oOf n) (some q) (cW S n C ρ) = some (none, cW S n C ρ) := by
  refine Y_ans_pre hF hn hi hq ht ?_
  have q1 : zgI (cW S n C ρ) q 9 5 = some (zi num) := dOb.gI hq hF rfl
  unfold s_Office_answerTo_35
  rw [Option.bind_some, q1, Option.bind_some, if_neg (by rw [zi_eq hb.1 (by omega)]; exact h1), Option.bind_some, if_neg (by rw [zi_l1, zi_add, zi_eq hb.1 hb.2]; exact h2)]
theorem Y_ansNew {tk p : Nat} (hF : S + cF n ≤ F) (hn : n ≤ 6) (hi : i < n) (hq : isLet F ρ q ser w ev kd i num) (ht : tkOK F ρ (C.2.2.2 (oAn n 0) i) tk) (he : num = tk + 1) (hb : tk + 1 < 2147483648) (hT : s_Office_take g (S + oOf n) (some q) (cW S n C ρ) = some (some p, cW S n C1 ρ1)) (hx : dX ρ ρ1) (hAn : C1.2.2.2 (oAn n 0) = C.2.2.2 (oAn n 0)) (hSt : C1.1 (oSt n 0) = C.1 (oSt n 0)) (hA : ansR F n C ρ 0) (hp : ∃ fs, dOb F ρ1 p 6 fs) (h2 : ∀ k, k < n → C.1 (oSt n 0) k < 2) : s_Office_answerTo g (S + oOf n) (some q) (cW S n C ρ) = some (some p, cW S n (cCpO (cSP C1 (oAn n 0) i (some p)) n 0 1) ρ1) := by
  refine Y_ans_pre hF hn hi hq ht ?_
  have q1 : zgI (cW S n C ρ) q 9 5 = some (zi num) := dOb.gI hq hF rfl
  have q2 : zgI (cW S n C1 ρ1) q 9 4 = some (zi i) := dOb.gI (dOb.mono hq hx) hF rfl
  have q3 := c_wP (S := S) (C := C1) (ρ := ρ1) (k := i) (v := some p) (ck_An (n := n) (c := 0) (by decide)) (lt_An (by decide)) hi hn (ans_ok hF (fun q hq => by cases hq; exact hp))
  have q4 := Y_saveO (g := g) (S := S) (C := cSP C1 (oAn n 0) i (some p)) (ρ := ρ1) hF hn (fun k hk r hr => by
    have e : (cSP C1 (oAn n 0) i (some p)).2.2.2 (oAn n 0) k = if k = i then some p else C1.2.2.2 (oAn n 0) k := by
      simp only [cSP_at, true_and]
    rw [e] at hr
    by_cases hki : k = i
    · rw [if_pos hki] at hr
      cases hr
      exact hp
    · rw [if_neg hki, hAn] at hr
      obtain ⟨fs, h⟩ := hA k hk r hr
      exact ⟨fs, dOb.mono h hx⟩) (fun k hk => by show C1.1 (oSt n 0) k < 2; rw [hSt]; exact h2 k hk)
  unfold s_Office_answerTo_35
  rw [Option.bind_some, q1, Option.bind_some, if_neg (by rw [zi_eq (by omega) (by omega)]; omega), Option.bind_some, if_pos (by rw [zi_l1, zi_add, he]), x_isOf, Option.bind_some, hT, Option.bind_some]
  dsimp only
  rw [x_gOf4, Option.bind_some, q2, Option.bind_some, Option.bind_some, q3, Option.bind_some, x_isOf, Option.bind_some, q4, Option.bind_some]
end COFF5
