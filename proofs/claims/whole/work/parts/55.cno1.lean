def isEvA (F : Nat) (ρ : zS) (p len : Nat) (G : Nat → Option Nat) : Prop := F ≤ p ∧ p < ρ.1 ∧ ρ.2.2 p = some (true, .inl (11, len, rfs G))
section CNO1
variable {g : zG} {e S F n i s b : Nat} {C C' : cS} {ρ ρ' : zS} {f f' : Nat → Nat → Nat}
theorem isEvA.mono {p len : Nat} {G : Nat → Option Nat} (h : isEvA F ρ p len G) (hx : dX ρ ρ') : isEvA F ρ' p len G :=
  ⟨h.1, Nat.lt_of_lt_of_le h.2.1 hx.1.1, by rw [hx.2 p h.2.1 (fun b x q => by rw [h.2.2] at q; cases q)]; exact h.2.2⟩
theorem isEvA.len {p len : Nat} {G : Nat → Option Nat} (h : isEvA F ρ p len G) (hF : S + cF n ≤ F) : zal (cW S n C ρ) p 11 = some (zi len) := by
  simp only [zal, zar, cW_out (Or.inr (Nat.le_trans hF h.1)), h.2.2, if_true]
  rfl
theorem isEvA.get {p len k : Nat} {G : Nat → Option Nat} (h : isEvA F ρ p len G) (hF : S + cF n ≤ F) (hk : k < len) (hl : len ≤ 1000) : zaR (cW S n C ρ) p 11 (zi k) = some (G k) := by
  have h2 := zi_nat (a := k) (by omega)
  have w1 : zar (cW S n C ρ) p 11 = some (len, rfs G) := by
    simp only [zar, cW_out (Or.inr (Nat.le_trans hF h.1)), h.2.2, if_true]
  simp only [zaR, w1, rfs, if_neg (zi_in hk (show len ≤ 2147483648 by omega))]
  rw [h2]
theorem Z_gB (hi : i < n) : zgI2 (cW S n C ρ) (S + oBr i) 1 8 4 6 = some (zi (C.1 (oBr i) 8)) := by
  unfold zgI2
  rw [if_pos (x_clBr hi), x_gBr8 hi]
theorem Z_gO : zgI2 (cW S n C ρ) (S + oOf n) 1 8 4 6 = some (zi (C.1 (oOf n) 6)) := by
  unfold zgI2
  rw [if_neg (by rw [x_clOf]; decide), x_gOf6]
theorem Z_pB {v : Nat} (hi : i < n) : zpF2 (cW S n C ρ) (S + oBr i) 1 8 4 6 (.int (zi v)) = some (cW S n (cSN C (oBr i) 8 v) ρ) := by
  unfold zpF2
  rw [if_pos (x_clBr hi), x_pBr8 hi]
theorem Z_pO {v : Nat} : zpF2 (cW S n C ρ) (S + oOf n) 1 8 4 6 (.int (zi v)) = some (cW S n (cSN C (oOf n) 6 v) ρ) := by
  unfold zpF2
  rw [if_neg (by rw [x_clOf]; decide), x_pOf6]
theorem Y_upB (hi : i < n) (h : C.1 (oBr i) 8 = 1) : s_No_requireUp g (some (S + oBr i)) (cW S n C ρ) = some (.inl (), cW S n C ρ) := by
  unfold s_No_requireUp
  rw [Option.bind_some, Z_gB hi, Option.bind_some, h, if_neg (by decide)]
theorem Y_upO (h : C.1 (oOf n) 6 = 1) : s_No_requireUp g (some (S + oOf n)) (cW S n C ρ) = some (.inl (), cW S n C ρ) := by
  unfold s_No_requireUp
  rw [Option.bind_some, Z_gO, Option.bind_some, h, if_neg (by decide)]
def exc (g : zG) (q : Nat) (ρ : zS) : zS := znew ρ 6 (.inr (8, [.ref ρ.1, va_rf (g 1), va_rf (g 2), .ref q, .null, .int 0]))
theorem Y_dnB {q : Nat} (hF : S + cF n ≤ ρ.1) (hi : i < n) (h : C.1 (oBr i) 8 = 0) (hg : g 21 = some q) : s_No_requireUp g (some (S + oBr i)) (cW S n C ρ) = some (.inr ρ.1, cW S n C (exc g q ρ)) := by
  unfold s_No_requireUp
  rw [Option.bind_some, Z_gB hi, Option.bind_some, h, if_pos (by decide), hg, Option.bind_some, cW_znew hF]
  rfl
theorem Y_dnO {q : Nat} (hF : S + cF n ≤ ρ.1) (h : C.1 (oOf n) 6 = 0) (hg : g 21 = some q) : s_No_requireUp g (some (S + oOf n)) (cW S n C ρ) = some (.inr ρ.1, cW S n C (exc g q ρ)) := by
  unfold s_No_requireUp
  rw [Option.bind_some, Z_gO, Option.bind_some, h, if_pos (by decide), hg, Option.bind_some, cW_znew hF]
  rfl
theorem Y_sendF {p : Option Nat} (h : C.1 (oPo n) 1 = 64) : s_No_send g S p (cW S n C ρ) = some (zi 0, cW S n C ρ) := by
  have q1 := L_size (g := g) (S := S) (n := n) (C := C) (ρ := ρ) ck_Po lt_Po
  unfold s_No_send
  rw [c_gNo2, Option.bind_some, Option.bind_some, x_isPo, Option.bind_some, q1, Option.bind_some]
  dsimp only
  rw [h, if_neg (by decide)]
  rfl
theorem Y_sendA {p : Nat} (h : LLs e S F n C ρ f) (hg : g 0 = some e) (hg2 : ∃ mi, g 10 = some mi) (hp : okE F ρ p) (hL : C.1 (oPo n) 1 < 64) : ∃ C' ρ', s_No_send g S (some p) (cW S n C ρ) = some (zi 1, cW S n C' ρ') ∧ LLs e S F n C' ρ' (fSet f (oPo n) (C.1 (oPo n) 1) p) ∧ C'.1 (oPo n) 1 = C.1 (oPo n) 1 + 1 ∧ sameC (oPo n) C C' ∧ dX ρ ρ' ∧ ρ'.1 ≤ ρ.1 + 1 ∧ ρ'.2.1 ≤ ρ.2.1 + 1000 := by
  obtain ⟨C', ρ', a1, a2⟩ := L_add (g := g) (r := p) h hg hg2 ck_Po lt_Po hp (by omega)
  refine ⟨C', ρ', ?_, a2⟩
  have q1 := L_size (g := g) (S := S) (n := n) (C := C) (ρ := ρ) ck_Po lt_Po
  unfold s_No_send
  rw [c_gNo2, Option.bind_some, Option.bind_some, x_isPo, Option.bind_some, q1, Option.bind_some]
  dsimp only
  rw [if_pos (by rw [zi_l64, zi_lt (by omega) (by omega)]; exact hL), c_gNo2, Option.bind_some, Option.bind_some, x_isPo, Option.bind_some, a1]
  rfl
def isMail (F : Nat) (ρ : zS) (p : Nat) : Prop := (∃ fs, dOb F ρ p 9 fs) ∨ (∃ fs, dOb F ρ p 6 fs)
theorem Y_mailN {x : Int32} (hL : C.1 (oPo n) 1 ≤ 64) (h : x < 0 ∨ ∃ k, k < 2147483648 ∧ C.1 (oPo n) 1 ≤ k ∧ x = zi k) : s_No_mailAt g S x (cW S n C ρ) = some (none, cW S n C ρ) := by
  have q1 := L_size (g := g) (S := S) (n := n) (C := C) (ρ := ρ) ck_Po lt_Po
  unfold s_No_mailAt s_No_mailAt_29 s_No_mailAt_30
  rcases h with h | ⟨k, h1, h2, rfl⟩
  · rw [if_pos h]
  · rw [if_neg (by rw [zi_lt0 h1]; exact id), c_gNo2, Option.bind_some, Option.bind_some, x_isPo, Option.bind_some, q1, Option.bind_some]
    dsimp only
    rw [if_pos (by rw [zi_le (by omega) h1]; exact h2)]
theorem Y_mail {k : Nat} (h : LLs e S F n C ρ f) (hk : k < C.1 (oPo n) 1) (hm : isMail F ρ (f (oPo n) k)) : s_No_mailAt g S (zi k) (cW S n C ρ) = some (some (f (oPo n) k), cW S n C ρ) := by
  have q0 := (h.2.1 _ ck_Po lt_Po).1
  have q1 := L_size (g := g) (S := S) (n := n) (C := C) (ρ := ρ) ck_Po lt_Po
  have q2 := L_get (g := g) h ck_Po lt_Po hk
  have q3 : zis2 (cW S n C ρ) (f (oPo n) k) 9 6 = some () := by
    unfold zis2
    rcases hm with ⟨fs, hm⟩ | ⟨fs, hm⟩
    · rw [if_pos (dOb.cls hm h.1.2.1)]
    · rw [if_neg (by rw [dOb.cls hm h.1.2.1]; decide), dOb.is hm h.1.2.1]
  unfold s_No_mailAt s_No_mailAt_29 s_No_mailAt_30
  rw [if_neg (by rw [zi_lt0 (by omega)]; exact id), c_gNo2, Option.bind_some, Option.bind_some, x_isPo, Option.bind_some, q1, Option.bind_some]
  dsimp only
  rw [if_neg (by rw [zi_le (by omega) (by omega)]; omega), c_gNo2, Option.bind_some, Option.bind_some, x_isPo, Option.bind_some, q2, Option.bind_some]
  dsimp only
  rw [Option.bind_some, q3, Option.bind_some]
/-! what an answer does to a branch -/
theorem Y_read0 {p : Nat} (hi : i < n) (h : C.1 (oBr i) 3 = 0) : s_Branch_read g (S + oBr i) (some p) (cW S n C ρ) = some (cW S n C ρ) := by
  unfold s_Branch_read
  rw [x_isBr hi, Option.bind_some, Y_unans0 hi h, Option.bind_some]
  rfl
section READ
variable {p q ser w ev k b num st b' num' : Nat} {bl : Option Nat}
theorem Y_readN (hF : S + cF n ≤ F) (hi : i < n) (h : C.1 (oBr i) 3 = 1) (hl : C.2.2.2 (oBr i) 2 = some q) (hq : isLet F ρ q ser w ev k b num) (hp : isAns F ρ p st bl b' num') (hne : ¬ num' = num) (h1 : num < 2147483648 ∧ num' < 2147483648) : s_Branch_read g (S + oBr i) (some p) (cW S n C ρ) = some (cW S n C ρ) := by
  have q1 : zgI (cW S n C ρ) p 6 4 = some (zi num') := dOb.gI hp hF rfl
  have q2 : zgI (cW S n C ρ) q 9 5 = some (zi num) := dOb.gI hq hF rfl
  unfold s_Branch_read
  rw [x_isBr hi, Option.bind_some, Y_unans1 hi h, Option.bind_some, hl]
  dsimp only
  rw [Option.bind_some, q1, Option.bind_some, q2, Option.bind_some, if_neg (by rw [zi_eq h1.2 h1.1]; exact hne)]
  rfl
theorem Y_read_pre {X : zS} (hF : S + cF n ≤ F) (hi : i < n) (h : C.1 (oBr i) 3 = 1) (hl : C.2.2.2 (oBr i) 2 = some q) (hq : isLet F ρ q ser w ev k b num) (hs : ser < 3) (hp : isAns F ρ p st bl b' num) (hX : (if zi st = 0 then (zgI (cW S n (cSN C (oBr i) 3 0) ρ) q 9 3).bind fun x24 => if x24 = 2 then (zgI (cW S n (cSN C (oBr i) 3 0) ρ) (S + oBs i ser) 2 4).bind fun x27 => (zgR (cW S n (cSN C (oBr i) 3 0) ρ) q 9 2).bind fun x29 => (x29).bind fun a31 => (zal (cW S n (cSN C (oBr i) 3 0) ρ) a31 11).bind fun x32 => (zpF (cW S n (cSN C (oBr i) 3 0) ρ) (S + oBs i ser) 2 4 (.int (x27 + x32))).bind fun σ34 => s_Branch_read_102 g (S + oBr i) (some p) (some q) (some (S + oBs i ser)) σ34 else s_Branch_read_79 g (S + oBr i) (some p) (some q) (some (S + oBs i ser)) (cW S n (cSN C (oBr i) 3 0) ρ) else (zpF (cW S n (cSN C (oBr i) 3 0) ρ) (S + oBr i) 1 4 (.int 1)).bind fun σ36 => s_Branch_read_102 g (S + oBr i) (some p) (some q) (some (S + oBs i ser)) σ36) = some X) : s_Branch_read g (S + oBr i) (some p) (cW S n C ρ) = some X := by
  have q1 : zgI (cW S n C ρ) p 6 4 = some (zi num) := dOb.gI hp hF rfl
  have q2 : zgI (cW S n C ρ) q 9 5 = some (zi num) := dOb.gI hq hF rfl
  have q3 : zgI (cW S n (cSN C (oBr i) 3 0) ρ) q 9 0 = some (zi ser) := dOb.gI hq hF rfl
  have q4 : zgI (cW S n (cSN C (oBr i) 3 0) ρ) p 6 0 = some (zi st) := dOb.gI hp hF rfl
  have q5 : zpF (cW S n C ρ) (S + oBr i) 1 3 (.int 0) = some (cW S n (cSN C (oBr i) 3 0) ρ) := x_pBr3 (v := 0) hi
  have q6 := Y_bookAtB (g := g) (S := S) (n := n) (C := cSN C (oBr i) 3 0) (ρ := ρ) hi hs
  unfold s_Branch_read
  rw [x_isBr hi, Option.bind_some, Y_unans1 hi h, Option.bind_some, hl]
  dsimp only
  rw [Option.bind_some, q1, Option.bind_some, q2, Option.bind_some, if_pos rfl, q5, Option.bind_some, q3, Option.bind_some, x_isBr hi, Option.bind_some, q6, Option.bind_some]
  dsimp only
  rw [q4, Option.bind_some]
  exact hX
theorem Y_readS (hF : S + cF n ≤ F) (hi : i < n) (h : C.1 (oBr i) 3 = 1) (hl : C.2.2.2 (oBr i) 2 = some q) (hq : isLet F ρ q ser w ev k b num) (hs : ser < 3) (hp : isAns F ρ p 1 bl b' num) : s_Branch_read g (S + oBr i) (some p) (cW S n C ρ) = some (cW S n (cSN (cSN C (oBr i) 3 0) (oBr i) 4 1) ρ) := by
  refine Y_read_pre hF hi h hl hq hs hp ?_
  have q5 : zpF (cW S n (cSN C (oBr i) 3 0) ρ) (S + oBr i) 1 4 (.int 1) = some (cW S n (cSN (cSN C (oBr i) 3 0) (oBr i) 4 1) ρ) := x_pBr4 (v := 1) hi
  rw [if_neg (by decide), q5]
  rfl
theorem Y_readF {len : Nat} {G : Nat → Option Nat} (hF : S + cF n ≤ F) (hi : i < n) (h : C.1 (oBr i) 3 = 1) (hl : C.2.2.2 (oBr i) 2 = some q) (hq : isLet F ρ q ser w ev 2 b num) (hs : ser < 3) (hp : isAns F ρ p 0 bl b' num) (he : isEvA F ρ ev len G) : s_Branch_read g (S + oBr i) (some p) (cW S n C ρ) = some (cW S n (cSN (cSN C (oBr i) 3 0) (oBs i ser) 4 (C.1 (oBs i ser) 4 + len)) ρ) := by
  refine Y_read_pre hF hi h hl hq hs hp ?_
  have q1 : zgI (cW S n (cSN C (oBr i) 3 0) ρ) q 9 3 = some (zi 2) := dOb.gI hq hF rfl
  have q2 : zgR (cW S n (cSN C (oBr i) 3 0) ρ) q 9 2 = some (some ev) := dOb.gR (r := some ev) hq hF rfl
  have q3 : (cSN C (oBr i) 3 0).1 (oBs i ser) 4 = C.1 (oBs i ser) 4 := if_neg (by omega)
  rw [if_pos (show zi 0 = 0 from rfl), q1, Option.bind_some, if_pos (show zi 2 = 2 from rfl), x_gBs4 hi hs, Option.bind_some, q2, Option.bind_some, Option.bind_some, isEvA.len he hF, Option.bind_some, zi_add, x_pBs4 hi hs, q3]
  rfl
theorem Y_readZ (hF : S + cF n ≤ F) (hi : i < n) (h : C.1 (oBr i) 3 = 1) (hl : C.2.2.2 (oBr i) 2 = some q) (hq : isLet F ρ q ser w ev 1 b num) (hs : ser < 3) (hp : isAns F ρ p 0 none b' num) : s_Branch_read g (S + oBr i) (some p) (cW S n C ρ) = some (cW S n (cSN C (oBr i) 3 0) ρ) := by
  refine Y_read_pre hF hi h hl hq hs hp ?_
  have q1 : zgI (cW S n (cSN C (oBr i) 3 0) ρ) q 9 3 = some (zi 1) := dOb.gI hq hF rfl
  have q2 : zgR (cW S n (cSN C (oBr i) 3 0) ρ) p 6 1 = some none := dOb.gR (r := none) hp hF rfl
  rw [if_pos (show zi 0 = 0 from rfl), q1, Option.bind_some, if_neg (show ¬ zi 1 = 2 by decide)]
  unfold s_Branch_read_79
  dsimp only
  rw [Option.bind_some, q2]
  rfl
theorem Y_readB {bq x c : Nat} (hL : LLs e S F n C ρ f) (hg : g 0 = some e) (hg2 : ∃ mi, g 10 = some mi) (hi : i < n) (h : C.1 (oBr i) 3 = 1) (hl : C.2.2.2 (oBr i) 2 = some q) (hq : isLet F ρ q ser w ev 1 b num) (hs : ser < 3) (hp : isAns F ρ p 0 (some bq) b' num) (hb : isBlk F ρ bq x c) (h6 : C.1 (oLs i ser 0) 1 < 600) : ∃ C' ρ', s_Branch_read g (S + oBr i) (some p) (cW S n C ρ) = some (cW S n C' ρ') ∧ LLs e S F n C' ρ' (fSet f (oLs i ser 0) (C.1 (oLs i ser 0) 1) bq) ∧ C'.1 (oLs i ser 0) 1 = C.1 (oLs i ser 0) 1 + 1 ∧ sameC (oLs i ser 0) (cSN C (oBr i) 3 0) C' ∧ dX ρ ρ' ∧ ρ'.1 ≤ ρ.1 + 1 ∧ ρ'.2.1 ≤ ρ.2.1 + 1000 := by
  have hF := hL.1.2.1
  have hne : ∀ j, ck n j = 5 → ¬ j = oBr i := by
    intro j hj hjj
    rw [hjj, ck_Br hi] at hj
    cases hj
  have hn2 : ¬ oLs i ser 0 = oBr i := hne _ (ck_Ls hi hs (by decide))
  have e1 : (cSN C (oBr i) 3 0).1 (oLs i ser 0) 1 = C.1 (oLs i ser 0) 1 := if_neg (fun w => hn2 w.1)
  obtain ⟨C', ρ', a1, a2, a3, a4⟩ := L_add (g := g) (r := bq) (hL.same (C' := cSN C (oBr i) 3 0) (fun j hj _ => ⟨(sameC.N j (hne j hj)).1, rfl⟩)) hg hg2 (ck_Ls hi hs (show 0 < 2 by decide)) (lt_Ls hi hs (by decide)) (dOb.okE hb (by decide)) (by rw [e1]; exact h6)
  rw [e1] at a2 a3
  refine ⟨C', ρ', ?_, a2, a3, a4⟩
  refine Y_read_pre hF hi h hl hq hs hp ?_
  have q1 : zgI (cW S n (cSN C (oBr i) 3 0) ρ) q 9 3 = some (zi 1) := dOb.gI hq hF rfl
  have q2 : zgR (cW S n (cSN C (oBr i) 3 0) ρ) p 6 1 = some (some bq) := dOb.gR (r := some bq) hp hF rfl
  rw [if_pos (show zi 0 = 0 from rfl), q1, Option.bind_some, if_neg (show ¬ zi 1 = 2 by decide)]
  unfold s_Branch_read_79
  dsimp only
  rw [Option.bind_some, q2, Option.bind_some]
  dsimp only
  rw [x_gBs0 hi hs, Option.bind_some, Option.bind_some, Option.bind_some, x_isLs hi hs (by decide), Option.bind_some, a1]
  rfl
end READ
end CNO1
