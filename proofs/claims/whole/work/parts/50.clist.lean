/-! lists of the class: the row of a list stands outside the fixed places, what it leads to never changes -/
def okE (F : Nat) (ρ : zS) (p : Nat) : Prop := F ≤ p ∧ p < ρ.1 ∧ ∃ ci fs, ρ.2.2 p = some (true, .inr (ci, fs)) ∧ zasg.contains (10, ci) = true
def rfs (G : Nat → Option Nat) : (Nat → Int32) ⊕ (Nat → Int64) ⊕ (Nat → UInt32) ⊕ (Nat → UInt64) ⊕ (Nat → Option Nat) := .inr (.inr (.inr (.inr G)))
def LLs0 (e S F n : Nat) (ρ : zS) : Prop := e < S ∧ S + cF n ≤ F ∧ F ≤ ρ.1 ∧ n ≤ 6 ∧ ρ.2.2 e = some (false, .inl (10, 0, rfs (fun _ => none)))
def LLs1 (e F : Nat) (C : cS) (ρ : zS) (f : Nat → Nat → Nat) (o : Nat) : Prop := C.1 o 1 ≤ 600 ∧ ((C.2.2.2 o 0 = some e ∧ C.1 o 1 = 0) ∨ ∃ a cap G, C.2.2.2 o 0 = some a ∧ (F ≤ a ∧ a < ρ.1) ∧ ρ.2.2 a = some (true, .inl (10, cap, rfs G)) ∧ C.1 o 1 ≤ cap ∧ (0 < cap ∧ cap ≤ 1000) ∧ ∀ i, i < C.1 o 1 → G i = some (f o i) ∧ okE F ρ (f o i))
def LLs (e S F n : Nat) (C : cS) (ρ : zS) (f : Nat → Nat → Nat) : Prop :=
  LLs0 e S F n ρ ∧ (∀ o, ck n o = 5 → o < cF n → LLs1 e F C ρ f o) ∧ (∀ o o', ck n o = 5 → o < cF n → ck n o' = 5 → o' < cF n → ¬ o = o' → C.2.2.2 o 0 = C.2.2.2 o' 0 → C.2.2.2 o 0 = some e)
theorem zi_shr {a : Nat} (h : a ≤ 1000) : zi a >>> (1 &&& 31) = zi (a / 2) := by
  have h2 : ∀ x : Fin 1001, zi x.val >>> (1 &&& 31) = zi (x.val / 2) := by decide +kernel
  exact h2 ⟨a, by omega⟩
theorem zlen_zi {a : Nat} (h : a ≤ 60000000) : zlen (zi a) = some a := by
  unfold zlen
  rw [zi_nat (by omega), if_neg]
  intro q
  rcases q with q | q
  · rw [zi_lt0 (by omega)] at q
    exact q
  · omega
section CLIST
variable {g : zG} {e S F n o k i r : Nat} {C C' : cS} {ρ ρ' : zS} {f f' : Nat → Nat → Nat}
theorem okE.mono (h : okE F ρ k) (h1 : ρ.1 ≤ ρ'.1) (h2 : ρ'.2.2 k = ρ.2.2 k) : okE F ρ' k := by
  obtain ⟨a, b, ci, fs, c, d⟩ := h
  exact ⟨a, by omega, ci, fs, by rw [h2]; exact c, d⟩
theorem LLs.put {a cap : Nat} {G : Nat → Option Nat} (h : LLs e S F n C ρ f) (ho : ck n o = 5) (ho2 : o < cF n) (hC : ∀ j, ¬ j = o → C'.1 j = C.1 j ∧ C'.2.2.2 j = C.2.2.2 j) (ha : C'.2.2.2 o 0 = some a) (hk : C'.1 o 1 ≤ cap) (hcap : 0 < cap ∧ cap ≤ 1000) (h6 : C'.1 o 1 ≤ 600) (hcell : ρ'.2.2 a = some (true, .inl (10, cap, rfs G))) (hFa : F ≤ a ∧ a < ρ'.1) (hG : ∀ i, i < C'.1 o 1 → G i = some (f' o i) ∧ okE F ρ' (f' o i)) (hρ : ρ.1 ≤ ρ'.1) (hold : ∀ p, p < ρ.1 → ¬ p = a → ρ'.2.2 p = ρ.2.2 p) (hnew : C.2.2.2 o 0 = some a ∨ ρ.1 ≤ a) (hf : ∀ o', ¬ o' = o → f' o' = f o') : LLs e S F n C' ρ' f' := by
  obtain ⟨⟨h1, h2, h3, h4, h5⟩, hL, hS⟩ := h
  have hobj : ∀ p, okE F ρ p → okE F ρ' p := by
    intro p hp
    obtain ⟨b1, b2, ci, fs, b3, b4⟩ := hp
    have hne : ¬ p = a := by
      intro q
      subst q
      rcases hnew with hn | hn
      · rcases (hL o ho ho2).2 with ⟨q1, q2⟩ | ⟨a', cap', G', q1, q2, q3, q4⟩
        · rw [hn] at q1
          have : p = e := by injection q1
          omega
        · rw [hn] at q1
          have q5 : p = a' := by injection q1
          subst q5
          rw [b3] at q3
          cases q3
      · omega
    exact okE.mono ⟨b1, b2, ci, fs, b3, b4⟩ hρ (hold p b2 hne)
  refine ⟨⟨h1, h2, by omega, h4, by rw [hold e (by omega) (by omega)]; exact h5⟩, ?_, ?_⟩
  · intro o' c1 c2
    by_cases hoo : o' = o
    · subst hoo
      exact ⟨h6, Or.inr ⟨a, cap, G, ha, hFa, hcell, hk, hcap, hG⟩⟩
    · obtain ⟨e1, e2⟩ := hC o' hoo
      have hl := hL o' c1 c2
      unfold LLs1 at hl ⊢
      rw [e1, e2, hf o' hoo]
      refine ⟨hl.1, ?_⟩
      rcases hl.2 with q | ⟨a', cap', G', q1, q2, q3, q4, q5, q6⟩
      · exact Or.inl q
      · refine Or.inr ⟨a', cap', G', q1, ⟨q2.1, by omega⟩, ?_, q4, q5, fun i hi => ⟨(q6 i hi).1, hobj _ (q6 i hi).2⟩⟩
        rw [hold a' q2.2 ?_]
        · exact q3
        · intro q
          subst q
          rcases hnew with hn | hn
          · have := hS o' o c1 c2 ho ho2 hoo (by rw [q1, hn])
            rw [q1] at this
            have : a' = e := by injection this
            omega
          · omega
  · intro o1 o2 c1 c2 c3 c4 hne heq
    by_cases d1 : o1 = o
    · subst d1
      obtain ⟨e1, e2⟩ := hC o2 (fun q => hne q.symm)
      rw [e2] at heq
      rw [ha] at heq
      rcases (hL o2 c3 c4).2 with ⟨q1, q2⟩ | ⟨a', cap', G', q1, q2, q3, q4⟩
      · rw [ha, heq]
        exact q1
      · exfalso
        rw [q1] at heq
        have : a = a' := by injection heq
        subst this
        rcases hnew with hn | hn
        · have := hS o1 o2 c1 c2 c3 c4 hne (by rw [q1, hn])
          rw [hn] at this
          have : a = e := by injection this
          omega
        · omega
    · obtain ⟨e1, e2⟩ := hC o1 d1
      by_cases d2 : o2 = o
      · subst d2
        rw [e2] at heq ⊢
        rw [ha] at heq
        rcases (hL o1 c1 c2).2 with ⟨q1, q2⟩ | ⟨a', cap', G', q1, q2, q3, q4⟩
        · exact q1
        · exfalso
          rw [q1] at heq
          have : a' = a := by injection heq
          subst this
          rcases hnew with hn | hn
          · have := hS o1 o2 c1 c2 c3 c4 hne (by rw [q1, hn])
            rw [q1] at this
            have : a' = e := by injection this
            omega
          · omega
      · obtain ⟨e3, e4⟩ := hC o2 d2
        rw [e2, e4] at heq
        rw [e2]
        exact hS o1 o2 c1 c2 c3 c4 hne heq
/-- nothing that stood is changed, places that are no lists may be -/
theorem LLs.mono (h : LLs e S F n C ρ f) (hC : ∀ j, ck n j = 5 → j < cF n → C'.1 j 1 = C.1 j 1 ∧ C'.2.2.2 j 0 = C.2.2.2 j 0) (hρ : ρ.1 ≤ ρ'.1) (hold : ∀ p, p < ρ.1 → (p < S ∨ F ≤ p) → ρ'.2.2 p = ρ.2.2 p) : LLs e S F n C' ρ' f := by
  obtain ⟨⟨h1, h2, h3, h4, h5⟩, hL, hS⟩ := h
  refine ⟨⟨h1, h2, by omega, h4, by rw [hold e (by omega) (Or.inl h1)]; exact h5⟩, ?_, ?_⟩
  · intro o' c1 c2
    obtain ⟨e1, e2⟩ := hC o' c1 c2
    have hl := hL o' c1 c2
    unfold LLs1 at hl ⊢
    rw [e1, e2]
    refine ⟨hl.1, ?_⟩
    rcases hl.2 with q | ⟨a', cap', G', q1, q2, q3, q4, q5, q6⟩
    · exact Or.inl q
    · exact Or.inr ⟨a', cap', G', q1, ⟨q2.1, by omega⟩, by rw [hold a' q2.2 (Or.inr q2.1)]; exact q3, q4, q5, fun i hi => ⟨(q6 i hi).1, (q6 i hi).2.mono hρ (hold _ (q6 i hi).2.2.1 (Or.inr (q6 i hi).2.1))⟩⟩
  · intro o1 o2 c1 c2 c3 c4 hne heq
    rw [(hC o1 c1 c2).2, (hC o2 c3 c4).2] at heq
    rw [(hC o1 c1 c2).2]
    exact hS o1 o2 c1 c2 c3 c4 hne heq
theorem d_ar {a cap : Nat} {b : Bool} {G : Nat → Option Nat} (h : ρ.2.2 a = some (b, .inl (10, cap, rfs G))) (ha : a < S ∨ S + cF n ≤ a) : zar (cW S n C ρ) a 10 = some (cap, rfs G) := by
  simp only [zar, cW_out ha, h, if_true]
theorem d_aR {a cap : Nat} {b : Bool} {G : Nat → Option Nat} (h : ρ.2.2 a = some (b, .inl (10, cap, rfs G))) (ha : a < S ∨ S + cF n ≤ a) (hi : i < cap) (hc : cap ≤ 1000) : zaR (cW S n C ρ) a 10 (zi i) = some (G i) := by
  have h2 := zi_nat (a := i) (by omega)
  simp only [zaR, d_ar h ha, rfs, if_neg (zi_in hi (show cap ≤ 2147483648 by omega))]
  rw [h2]
theorem d_al {a cap : Nat} {b : Bool} {G : Nat → Option Nat} (h : ρ.2.2 a = some (b, .inl (10, cap, rfs G))) (ha : a < S ∨ S + cF n ≤ a) : zal (cW S n C ρ) a 10 = some (zi cap) := by
  simp only [zal, d_ar h ha]
  rfl
theorem L_size (ho : ck n o = 5) (ho2 : o < cF n) : s_ArrayList_size g (S + o) (cW S n C ρ) = some (zi (C.1 o 1), cW S n C ρ) := by
  simp only [s_ArrayList_size, c_gAl1 ho ho2, Option.bind_some]
theorem L_get (h : LLs e S F n C ρ f) (ho : ck n o = 5) (ho2 : o < cF n) (hi : i < C.1 o 1) : s_ArrayList_get g (S + o) (zi i) (cW S n C ρ) = some (some (f o i), cW S n C ρ) := by
  obtain ⟨⟨h1, h2, h3, h4, h5⟩, hL, hS⟩ := h
  obtain ⟨hl1, hl2⟩ := hL o ho ho2
  rcases hl2 with ⟨q1, q2⟩ | ⟨a, cap, G, q1, q2, q3, q4, q5, q6⟩
  · omega
  · simp (disch := omega) only [s_ArrayList_get, c_gAl1 ho ho2, s_Objects_checkIndex, s_Preconditions_checkIndex, zi_lt0, zi_lt, nlt_T, ↓reduceIte, Option.bind_some, c_isAl ho ho2, s_ArrayList_elementData, c_gAl0 ho ho2, q1]
    rw [d_aR q3 (Or.inr (by omega)) (by omega) (by omega)]
    rw [(q6 i hi).1]
    rfl
theorem d_own {a : Nat} {y : zY} (h : ρ.2.2 a = some (true, y)) (ha : a < S ∨ S + cF n ≤ a) : zown (cW S n C ρ) a = true := by
  simp only [zown, cW_out ha, h]
theorem okE.ok (h : okE F ρ r) (hF : S + cF n ≤ F) : zokR (cW S n C ρ) 10 (some r) = true := by
  obtain ⟨h1, h2, ci, fs, h3, h4⟩ := h
  simp only [zokR, cW_out (Or.inr (show S + cF n ≤ r by omega)), h3, h4]
theorem L_add11 {a cap : Nat} {G : Nat → Option Nat} (ho : ck n o = 5) (ho2 : o < cF n) (h : ρ.2.2 a = some (true, .inl (10, cap, rfs G))) (hF : S + cF n ≤ F) (ha : F ≤ a) (hk : k < cap) (hc : cap ≤ 1000) (hr : okE F ρ r) : s_ArrayList_add2_11 g (S + o) (some r) (some a) (zi k) (cW S n C ρ) = some (cW S n (cSN C o 1 (k + 1)) (zupd ρ a (.inl (10, cap, rfs (va_up G k (some r)))))) := by
  have ha2 : a < S ∨ S + cF n ≤ a := Or.inr (by omega)
  have h2 := zi_nat (a := k) (by omega)
  have h3 : ¬ (((zi k < 0 ∨ cap ≤ (zi k).toNatClampNeg) ∨ zown (cW S n C ρ) a = false) ∨ zokR (cW S n C ρ) 10 (some r) = false) := by
    intro q
    rcases q with (q | q) | q
    · exact zi_in hk (show cap ≤ 2147483648 by omega) q
    · rw [d_own h ha2] at q
      cases q
    · rw [hr.ok hF] at q
      cases q
  have h4 : zsR (cW S n C ρ) a 10 (zi k) (some r) = some (cW S n C (zupd ρ a (.inl (10, cap, rfs (va_up G k (some r)))))) := by
    simp only [zsR, d_ar h ha2, rfs, if_neg h3]
    rw [h2, cW_zupd ha2]
  simp only [s_ArrayList_add2_11, Option.bind_some, h4, zi_l1, zi_add, c_pAl1 ho ho2]
theorem L_grow0 (h : LLs0 e S F n ρ) (hg : g 0 = some e) (ho : ck n o = 5) (ho2 : o < cF n) (h1 : C.2.2.2 o 0 = some e) (h2 : C.1 o 1 = 0) : s_ArrayList_grow g (S + o) (cW S n C ρ) = some (some ρ.1, cW S n (cSP C o 0 (some ρ.1)) (znew ρ 10 (.inl (10, 10, rfs (fun _ => none))))) := by
  obtain ⟨a1, a2, a3, a4, a5⟩ := h
  have q1 := d_al (C := C) (n := n) (S := S) a5 (Or.inl a1)
  have q2 : (cW S n C ρ).1 = ρ.1 := rfl
  have q3 : cW S n C ρ = cW S n C ρ := rfl
  have q4 : ∀ x : Nat, zpF (cW S n C (znew ρ 10 (.inl (10, 10, rfs (fun _ => none))))) (S + o) 3 0 (.ref x) = some (cW S n (cSP C o 0 (some x)) (znew ρ 10 (.inl (10, 10, rfs (fun _ => none))))) := fun x => c_pAl0 (v := some x) ho ho2
  have q5 : zlen (zi 10) = some 10 := zlen_zi (by decide)
  have q6 : (if (10 : Int32) < zi 0 + 1 then zi 0 + 1 else 10) = zi 10 := by decide
  unfold rfs at q4
  simp only [s_ArrayList_grow, s_ArrayList_grow2, c_gAl1 ho ho2, c_gAl0 ho ho2, c_isAl ho ho2, h1, h2, Option.bind_some, q1, hg, if_neg (show ¬ (0 : Int32) < zi 0 by decide), if_true, q6, q5, cW_znew (show S + cF n ≤ ρ.1 by omega), q2, q4]
  rfl
theorem L_grow {a cap : Nat} {G : Nat → Option Nat} (h : LLs0 e S F n ρ) (hg : ∃ mi, g 10 = some mi) (ho : ck n o = 5) (ho2 : o < cF n) (h1 : C.2.2.2 o 0 = some a) (h2 : C.1 o 1 = cap) (h3 : ρ.2.2 a = some (true, .inl (10, cap, rfs G))) (hF : F ≤ a ∧ a < ρ.1) (hc : 0 < cap ∧ cap ≤ 600) (hG : ∀ i, i < cap → ∃ p, G i = some p ∧ okE F ρ p) : s_ArrayList_grow g (S + o) (cW S n C ρ) = some (some ρ.1, cW S n (cSP C o 0 (some ρ.1)) (zupd (znew ρ (cap + max 1 (cap / 2)) (.inl (10, cap + max 1 (cap / 2), rfs (fun _ => none)))) ρ.1 (.inl (10, cap + max 1 (cap / 2), rfs (va_cpy G (fun _ => none) 0 0 cap))))) := by
  obtain ⟨a1, a2, a3, a4, a5⟩ := h
  obtain ⟨mi, hmi⟩ := hg
  have q1 := d_al (C := C) (n := n) (S := S) h3 (Or.inr (show S + cF n ≤ a by omega))
  have q2 : (cW S n C ρ).1 = ρ.1 := rfl
  have q3 : zoa (cW S n C ρ) a 10 = some () := by
    simp only [zoa, d_ar h3 (Or.inr (show S + cF n ≤ a by omega)), d_own h3 (Or.inr (show S + cF n ≤ a by omega)), if_true]
  have q5 : zlen (zi (cap + max 1 (cap / 2))) = some (cap + max 1 (cap / 2)) := zlen_zi (by omega)
  generalize hN : cap + max 1 (cap / 2) = N at *
  have hN1 : cap < N ∧ N ≤ 1000 := by omega
  have q6 : s_ArraysSupport_newLength g (zi cap) (zi cap + 1 - zi cap) (zi cap >>> (1 &&& 31)) (cW S n C ρ) = some (zi N, cW S n C ρ) := by
    rw [zi_shr (by omega), zi_l1, zi_add, zi_sub (by omega), show cap + 1 - cap = 1 by omega]
    unfold s_ArraysSupport_newLength
    have e0 : (zi 1 < zi (cap / 2)) = (1 < cap / 2) := zi_lt (by omega) (by omega)
    have e1 : (if zi 1 < zi (cap / 2) then zi (cap / 2) else zi 1) = zi (max 1 (cap / 2)) := by
      split
      · rename_i hh
        rw [e0] at hh
        rw [Nat.max_eq_right (by omega)]
      · rename_i hh
        rw [e0] at hh
        rw [Nat.max_eq_left (by omega)]
    rw [e1]
    simp only [Option.bind_some, zi_add, hN]
    rw [if_neg, if_neg]
    · rw [show (2147483639 : Int32) = zi 2147483639 from rfl, zi_lt (by omega) (by omega)]
      omega
    · rw [zi_l0, zi_le (by omega) (by omega)]
      omega
  have q7 : (znew ρ N (.inl (10, N, rfs (fun _ => none)))).2.2 ρ.1 = some (true, .inl (10, N, rfs (fun _ => none))) := by
    simp only [znew, va_up, if_true]
  have q8 : (znew ρ N (.inl (10, N, rfs (fun _ => none)))).2.2 a = some (true, .inl (10, cap, rfs G)) := by
    have : ¬ a = ρ.1 := by omega
    simp only [znew, va_up, if_neg this]
    exact h3
  have q9 : zcpR (cW S n C (znew ρ N (.inl (10, N, rfs (fun _ => none))))) a ρ.1 10 0 0 (zi cap) = some (cW S n C (zupd (znew ρ N (.inl (10, N, rfs (fun _ => none)))) ρ.1 (.inl (10, N, rfs (va_cpy G (fun _ => none) 0 0 cap))))) := by
    have w1 := zi_nat (a := cap) (by omega)
    have w2 : (0 : Int32).toNatClampNeg = 0 := rfl
    have w3 : ((¬ (0 : Int32) < 0 ∧ ¬ (0 : Int32) < 0 ∧ ¬ zi cap < 0) ∧ (0 : Int32).toNatClampNeg + (zi cap).toNatClampNeg ≤ cap ∧ (0 : Int32).toNatClampNeg + (zi cap).toNatClampNeg ≤ N) ∧ zown (cW S n C (znew ρ N (.inl (10, N, rfs (fun _ => none))))) ρ.1 = true ∧ ∀ i, i < (zi cap).toNatClampNeg → zokR (cW S n C (znew ρ N (.inl (10, N, rfs (fun _ => none))))) 10 (G ((0 : Int32).toNatClampNeg + i)) = true := by
      rw [w1, w2, zi_lt0 (by omega)]
      refine ⟨⟨⟨by decide, by decide, fun q => q⟩, by omega, by omega⟩, d_own q7 (Or.inr (by omega)), fun i hi => ?_⟩
      obtain ⟨p, b1, b2⟩ := hG i hi
      rw [Nat.zero_add, b1]
      refine okE.ok (F := F) (b2.mono ?_ ?_) a2
      · show ρ.1 ≤ ρ.1 + 1
        omega
      · have := b2.2.1
        have b3 : ¬ p = ρ.1 := by omega
        simp only [znew, va_up, if_neg b3]
    unfold zcpR
    rw [d_ar q8 (Or.inr (by omega)), d_ar q7 (Or.inr (by omega))]
    refine (if_pos w3).trans ?_
    rw [w1, w2]
    exact congrArg some (cW_zupd (Or.inr (by omega)))
  have q10 : zal (cW S n C (znew ρ N (.inl (10, N, rfs (fun _ => none))))) a 10 = some (zi cap) := d_al q8 (Or.inr (by omega))
  have q11 : (if zi N < zi cap then zi N else zi cap) = zi cap := by
    rw [if_neg]
    rw [zi_lt (by omega) (by omega)]
    omega
  unfold rfs at q9 q10 ⊢
  have q12 : ∀ X : zS, zpF (cW S n C X) (S + o) 3 0 (va_rf (some ρ.1)) = some (cW S n (cSP C o 0 (some ρ.1)) X) := fun X => c_pAl0 (v := some ρ.1) ho ho2
  have q13 : (0 : Int32) < zi cap := by
    rw [zi_l0, zi_lt (by omega) (by omega)]
    omega
  simp only [s_ArrayList_grow, s_ArrayList_grow2, s_ArrayList_grow2_20, c_gAl1 ho ho2, c_gAl0 ho ho2, c_isAl ho ho2, h1, h2, Option.bind_some, q1, q6, if_pos q13, s_Arrays_copyOf, s_Arrays_copyOf2, s_Arrays_copyOf2_24, q3, hmi, if_true, q5, cW_znew (show S + cF n ≤ ρ.1 by omega), q2, q10, q11, q9, q12]
/-- outside the lists' rows nothing that stood is changed -/
def dX (ρ ρ' : zS) : Prop := (ρ.1 ≤ ρ'.1 ∧ ρ.2.1 ≤ ρ'.2.1) ∧ ∀ p, p < ρ.1 → (∀ b x, ¬ ρ.2.2 p = some (b, .inl (10, x))) → ρ'.2.2 p = ρ.2.2 p
theorem dX.refl : dX ρ ρ := ⟨⟨Nat.le_refl _, Nat.le_refl _⟩, fun _ _ _ => rfl⟩
theorem dX.trans {ρ'' : zS} (h1 : dX ρ ρ') (h2 : dX ρ' ρ'') : dX ρ ρ'' := ⟨⟨Nat.le_trans h1.1.1 h2.1.1, Nat.le_trans h1.1.2 h2.1.2⟩, fun p hp hn => by
  have e1 := h1.2 p hp hn
  rw [h2.2 p (Nat.lt_of_lt_of_le hp h1.1.1) (fun b x q => hn b x (by rw [← e1]; exact q)), e1]⟩
def sameC (o : Nat) (C C' : cS) : Prop := ∀ j, ¬ j = o → C'.1 j = C.1 j ∧ C'.2.1 j = C.2.1 j ∧ C'.2.2.1 j = C.2.2.1 j ∧ C'.2.2.2 j = C.2.2.2 j
def fSet (f : Nat → Nat → Nat) (o k r : Nat) : Nat → Nat → Nat := fun a b => if a = o ∧ b = k then r else f a b
theorem sameC.N {k v : Nat} : sameC o C (cSN C o k v) := fun j hj => ⟨by funext b; simp only [cSN, hj, false_and, if_false], rfl, rfl, rfl⟩
theorem sameC.I {k : Nat} {v : Int32} : sameC o C (cSI C o k v) := fun j hj => ⟨rfl, by funext b; simp only [cSI, hj, false_and, if_false], rfl, rfl⟩
theorem sameC.P {k : Nat} {v : Option Nat} : sameC o C (cSP C o k v) := fun j hj => ⟨rfl, rfl, rfl, by funext b; simp only [cSP, hj, false_and, if_false]⟩
theorem sameC.trans {C'' : cS} (h1 : sameC o C C') (h2 : sameC o C' C'') : sameC o C C'' := fun j hj => by
  obtain ⟨a1, a2, a3, a4⟩ := h1 j hj
  obtain ⟨b1, b2, b3, b4⟩ := h2 j hj
  exact ⟨by rw [b1, a1], by rw [b2, a2], by rw [b3, a3], by rw [b4, a4]⟩
theorem L_add (h : LLs e S F n C ρ f) (hg : g 0 = some e) (hg2 : ∃ mi, g 10 = some mi) (ho : ck n o = 5) (ho2 : o < cF n) (hr : okE F ρ r) (h6 : C.1 o 1 < 600) : ∃ C' ρ', s_ArrayList_add g (S + o) (some r) (cW S n C ρ) = some (1, cW S n C' ρ') ∧ LLs e S F n C' ρ' (fSet f o (C.1 o 1) r) ∧ C'.1 o 1 = C.1 o 1 + 1 ∧ sameC o C C' ∧ dX ρ ρ' ∧ ρ'.1 ≤ ρ.1 + 1 ∧ ρ'.2.1 ≤ ρ.2.1 + 1000 := by
  have hh := h
  obtain ⟨h0, hL, hS⟩ := hh
  obtain ⟨h1, h2, h3, h4, h5⟩ := h0
  have hl := (hL o ho ho2).2
  generalize hk : C.1 o 1 = k at *
  have y1 : ∀ v : Int32, zpF (cW S n C ρ) (S + o) 3 2 (.int v) = some (cW S n (cSI C o 2 v) ρ) := fun v => c_pAl2 ho ho2
  have c1 : ∀ v : Int32, (cSI C o 2 v).1 o 1 = k := fun v => hk
  have c2 : ∀ v : Int32, (cSI C o 2 v).2.2.2 o 0 = C.2.2.2 o 0 := fun v => rfl
  have c3 : ∀ v : Int32, LLs e S F n (cSI C o 2 v) ρ f := fun v => LLs.mono h (fun j _ _ => ⟨rfl, rfl⟩) (Nat.le_refl _) (fun _ _ _ => rfl)
  have fk : ∀ i, i < k → fSet f o k r o i = f o i := fun i hi => if_neg (by omega)
  have fk2 : fSet f o k r o k = r := if_pos ⟨rfl, rfl⟩
  have fo : ∀ o', ¬ o' = o → fSet f o k r o' = f o' := fun o' h' => by
    funext b
    exact if_neg (fun q => h' q.1)
  rcases hl with ⟨q1, q2⟩ | ⟨a, cap, G, q1, q2, q3, q4, q5, q6⟩
  · -- the first element: a row of ten
    have y2 := fun v : Int32 => L_grow0 (g := g) (C := cSI C o 2 v) ⟨h1, h2, h3, h4, h5⟩ hg ho ho2 q1 (by rw [c1, q2])
    have hr2 : okE F (znew ρ 10 (.inl (10, 10, rfs (fun _ => none)))) r := hr.mono (by show ρ.1 ≤ ρ.1 + 1; omega) (by
      have := hr.2.1
      have b3 : ¬ r = ρ.1 := by omega
      simp only [znew, va_up, if_neg b3])
    have cl : (znew ρ 10 (.inl (10, 10, rfs (fun _ => none)))).2.2 ρ.1 = some (true, .inl (10, 10, rfs (fun _ => none))) := by
      simp only [znew, va_up, if_true]
    have y3 := fun v : Int32 => L_add11 (g := g) (C := cSP (cSI C o 2 v) o 0 (some ρ.1)) (k := 0) ho ho2 cl h2 h3 (by decide) (by decide) hr2
    have y4 : zal (cW S n (cSI C o 2 (C.2.1 o 2 + 1)) ρ) e 10 = some (zi 0) := d_al h5 (Or.inl h1)
    refine ⟨cSN (cSP (cSI C o 2 (C.2.1 o 2 + 1)) o 0 (some ρ.1)) o 1 (0 + 1), zupd (znew ρ 10 (.inl (10, 10, rfs (fun _ => none)))) ρ.1 (.inl (10, 10, rfs (va_up (fun _ => none) 0 (some r)))), ?_, ?_, ?_, (sameC.I.trans sameC.P).trans sameC.N, ?_, ?_, ?_⟩
    · simp only [s_ArrayList_add, s_ArrayList_add2, c_gAl2 ho ho2, c_gAl0 ho ho2, c_gAl1 ho ho2, c_isAl ho ho2, Option.bind_some, y1, c1, c2, q1, q2, y4, if_true, y2, y3]
    · refine LLs.put (a := ρ.1) (cap := 10) (G := va_up (fun _ => none) 0 (some r)) h ho ho2 (fun j hj => ⟨(((sameC.I.trans sameC.P).trans sameC.N) j hj).1, (((sameC.I.trans sameC.P).trans sameC.N) j hj).2.2.2⟩) ?_ ?_ (by decide) ?_ ?_ ?_ ?_ ?_ ?_ (Or.inr (Nat.le_refl _)) fo
      · simp only [cSN, cSP, and_self, if_true]
      · simp only [cSN, and_self, if_true]
        decide
      · simp only [cSN, and_self, if_true]
        decide
      · simp only [zupd, va_up, if_true]
      · refine ⟨h3, ?_⟩
        show ρ.1 < ρ.1 + 1
        omega
      · intro i hi
        simp only [cSN, and_self, if_true] at hi
        have hi0 : i = 0 := by omega
        subst hi0
        rw [q2] at fk2
        rw [q2, fk2]
        refine ⟨rfl, hr2.mono (Nat.le_refl _) ?_⟩
        have := hr.2.1
        have b3 : ¬ r = ρ.1 := by omega
        simp only [zupd, va_up, if_neg b3]
      · show ρ.1 ≤ ρ.1 + 1
        omega
      · intro p hp hpa
        simp only [zupd, znew, va_up, if_neg hpa]
    · simp only [cSN, and_self, if_true]
      omega
    · refine ⟨⟨by show ρ.1 ≤ ρ.1 + 1; omega, by show ρ.2.1 ≤ ρ.2.1 + 10; omega⟩, fun p hp hn => ?_⟩
      have hpa : ¬ p = ρ.1 := by omega
      simp only [zupd, znew, va_up, if_neg hpa]
    · exact Nat.le_refl _
    · show ρ.2.1 + 10 ≤ ρ.2.1 + 1000
      omega
  · have y4 : zal (cW S n (cSI C o 2 (C.2.1 o 2 + 1)) ρ) a 10 = some (zi cap) := d_al q3 (Or.inr (by omega))
    by_cases hkc : k = cap
    · -- the row is full
      have hGG : ∀ i, i < cap → ∃ p, G i = some p ∧ okE F ρ p := fun i hi => ⟨f o i, q6 i (by omega)⟩
      have y2 := fun v : Int32 => L_grow (g := g) (C := cSI C o 2 v) ⟨h1, h2, h3, h4, h5⟩ hg2 ho ho2 q1 (by rw [c1]; exact hkc) q3 q2 (by omega) hGG
      generalize hN : cap + max 1 (cap / 2) = N at *
      have hN1 : cap < N ∧ N ≤ 1000 := by omega
      have ex : ∀ p, okE F ρ p → okE F (zupd (znew ρ N (.inl (10, N, rfs (fun _ => none)))) ρ.1 (.inl (10, N, rfs (va_cpy G (fun _ => none) 0 0 cap)))) p := fun p hp => hp.mono (by show ρ.1 ≤ ρ.1 + 1; omega) (by
        have := hp.2.1
        have b3 : ¬ p = ρ.1 := by omega
        simp only [zupd, znew, va_up, if_neg b3])
      have cl : (zupd (znew ρ N (.inl (10, N, rfs (fun _ => none)))) ρ.1 (.inl (10, N, rfs (va_cpy G (fun _ => none) 0 0 cap)))).2.2 ρ.1 = some (true, .inl (10, N, rfs (va_cpy G (fun _ => none) 0 0 cap))) := by
        simp only [zupd, va_up, if_true]
      have y3 := fun v : Int32 => L_add11 (g := g) (C := cSP (cSI C o 2 v) o 0 (some ρ.1)) (k := k) ho ho2 cl h2 h3 (by omega) hN1.2 (ex r hr)
      have y5 : (zi k = zi cap) = True := by rw [hkc]; exact eq_self _
      refine ⟨cSN (cSP (cSI C o 2 (C.2.1 o 2 + 1)) o 0 (some ρ.1)) o 1 (k + 1), zupd (zupd (znew ρ N (.inl (10, N, rfs (fun _ => none)))) ρ.1 (.inl (10, N, rfs (va_cpy G (fun _ => none) 0 0 cap)))) ρ.1 (.inl (10, N, rfs (va_up (va_cpy G (fun _ => none) 0 0 cap) k (some r)))), ?_, ?_, ?_, (sameC.I.trans sameC.P).trans sameC.N, ?_, ?_, ?_⟩
      · simp only [s_ArrayList_add, s_ArrayList_add2, c_gAl2 ho ho2, c_gAl0 ho ho2, c_gAl1 ho ho2, c_isAl ho ho2, Option.bind_some, y1, c1, c2, q1, y4, y5, if_true, y2, y3]
      · refine LLs.put (a := ρ.1) (cap := N) (G := va_up (va_cpy G (fun _ => none) 0 0 cap) k (some r)) h ho ho2 (fun j hj => ⟨(((sameC.I.trans sameC.P).trans sameC.N) j hj).1, (((sameC.I.trans sameC.P).trans sameC.N) j hj).2.2.2⟩) ?_ ?_ (by omega) ?_ ?_ ?_ ?_ ?_ ?_ (Or.inr (Nat.le_refl _)) fo
        · simp only [cSN, cSP, and_self, if_true]
        · simp only [cSN, and_self, if_true]
          omega
        · simp only [cSN, and_self, if_true]
          omega
        · simp only [zupd, va_up, if_true]
        · refine ⟨h3, ?_⟩
          show ρ.1 < ρ.1 + 1
          omega
        · intro i hi
          simp only [cSN, and_self, if_true] at hi
          have ex2 : ∀ p, okE F ρ p → okE F (zupd (zupd (znew ρ N (.inl (10, N, rfs (fun _ => none)))) ρ.1 (.inl (10, N, rfs (va_cpy G (fun _ => none) 0 0 cap)))) ρ.1 (.inl (10, N, rfs (va_up (va_cpy G (fun _ => none) 0 0 cap) k (some r))))) p := fun p hp => hp.mono (by show ρ.1 ≤ ρ.1 + 1; omega) (by
            have := hp.2.1
            have b3 : ¬ p = ρ.1 := by omega
            simp only [zupd, znew, va_up, if_neg b3])
          by_cases hik : i = k
          · subst hik
            rw [fk2]
            exact ⟨by simp only [va_up, if_true], ex2 r hr⟩
          · have hik2 : i < k := by omega
            rw [fk i hik2]
            refine ⟨?_, ex2 _ (q6 i hik2).2⟩
            have w : 0 ≤ i ∧ i < 0 + cap := by omega
            show (if i = k then some r else if 0 ≤ i ∧ i < 0 + cap then G (0 + (i - 0)) else none) = _
            rw [if_neg hik, if_pos w, Nat.zero_add, Nat.sub_zero]
            exact (q6 i hik2).1
        · show ρ.1 ≤ ρ.1 + 1
          omega
        · intro p hp hpa
          simp only [zupd, znew, va_up, if_neg hpa]
      · simp only [cSN, and_self, if_true]
      · refine ⟨⟨by show ρ.1 ≤ ρ.1 + 1; omega, by show ρ.2.1 ≤ ρ.2.1 + N; omega⟩, fun p hp hn => ?_⟩
        have hpa : ¬ p = ρ.1 := by omega
        simp only [zupd, znew, va_up, if_neg hpa]
      · exact Nat.le_refl _
      · show ρ.2.1 + N ≤ ρ.2.1 + 1000
        omega
    · -- there is room
      have y3 := fun v : Int32 => L_add11 (g := g) (C := cSI C o 2 v) (k := k) ho ho2 q3 h2 q2.1 (by omega) q5.2 hr
      have y5 : (zi k = zi cap) = False := by
        rw [zi_eq (by omega) (by omega)]
        exact eq_false hkc
      refine ⟨cSN (cSI C o 2 (C.2.1 o 2 + 1)) o 1 (k + 1), zupd ρ a (.inl (10, cap, rfs (va_up G k (some r)))), ?_, ?_, ?_, sameC.I.trans sameC.N, ?_, ?_, ?_⟩
      · simp only [s_ArrayList_add, s_ArrayList_add2, c_gAl2 ho ho2, c_gAl0 ho ho2, c_gAl1 ho ho2, c_isAl ho ho2, Option.bind_some, y1, c1, c2, q1, y4, y5, if_false, y3]
      · refine LLs.put (a := a) (cap := cap) (G := va_up G k (some r)) h ho ho2 (fun j hj => ⟨((sameC.I.trans sameC.N) j hj).1, ((sameC.I.trans sameC.N) j hj).2.2.2⟩) q1 ?_ (by omega) ?_ ?_ q2 ?_ ?_ ?_ (Or.inl q1) fo
        · simp only [cSN, and_self, if_true]
          omega
        · simp only [cSN, and_self, if_true]
          omega
        · simp only [zupd, va_up, if_true]
        · intro i hi
          simp only [cSN, and_self, if_true] at hi
          have ex2 : ∀ p, okE F ρ p → okE F (zupd ρ a (.inl (10, cap, rfs (va_up G k (some r))))) p := fun p hp => hp.mono (Nat.le_refl _) (by
            obtain ⟨w1, w2, ci, fs, w3, w4⟩ := hp
            have b3 : ¬ p = a := by
              intro q
              subst q
              rw [q3] at w3
              cases w3
            simp only [zupd, va_up, if_neg b3])
          by_cases hik : i = k
          · subst hik
            rw [fk2]
            exact ⟨by simp only [va_up, if_true], ex2 r hr⟩
          · have hik2 : i < k := by omega
            rw [fk i hik2]
            refine ⟨?_, ex2 _ (q6 i hik2).2⟩
            simp only [va_up, if_neg hik]
            exact (q6 i hik2).1
        · exact Nat.le_refl _
        · intro p hp hpa
          simp only [zupd, va_up, if_neg hpa]
      · simp only [cSN, and_self, if_true]
      · refine ⟨⟨Nat.le_refl _, Nat.le_refl _⟩, fun p hp hn => ?_⟩
        have hpa : ¬ p = a := by
          intro q
          subst q
          exact hn _ _ q3
        simp only [zupd, va_up, if_neg hpa]
      · show ρ.1 ≤ ρ.1 + 1
        omega
      · show ρ.2.1 ≤ ρ.2.1 + 1000
        omega
def fDel (f : Nat → Nat → Nat) (o i : Nat) : Nat → Nat → Nat := fun a b => if a = o ∧ i ≤ b then f a (b + 1) else f a b
theorem L_rem34 {a cap : Nat} {G : Nat → Option Nat} {x : Int32} (ho : ck n o = 5) (ho2 : o < cF n) (h : ρ.2.2 a = some (true, .inl (10, cap, rfs G))) (ha : S + cF n ≤ a) (hk : k < cap) (hc : cap ≤ 1000) : s_ArrayList_fastRemove_34 g (S + o) (some a) x (zi k) (cW S n C ρ) = some (cW S n (cSN C o 1 k) (zupd ρ a (.inl (10, cap, rfs (va_up G k none))))) := by
  have ha2 : a < S ∨ S + cF n ≤ a := Or.inr ha
  have h2 := zi_nat (a := k) (by omega)
  have h3 : ¬ (((zi k < 0 ∨ cap ≤ (zi k).toNatClampNeg) ∨ zown (cW S n (cSN C o 1 k) ρ) a = false) ∨ zokR (cW S n (cSN C o 1 k) ρ) 10 none = false) := by
    intro q
    rcases q with (q | q) | q
    · exact zi_in hk (show cap ≤ 2147483648 by omega) q
    · rw [d_own h ha2] at q
      cases q
    · cases q
  have h4 : zsR (cW S n (cSN C o 1 k) ρ) a 10 (zi k) none = some (cW S n (cSN C o 1 k) (zupd ρ a (.inl (10, cap, rfs (va_up G k none))))) := by
    simp only [zsR, d_ar h ha2, rfs, if_neg h3]
    rw [h2, cW_zupd ha2]
  simp only [s_ArrayList_fastRemove_34, Option.bind_some, h4, c_pAl1 ho ho2]
theorem L_remove (h : LLs e S F n C ρ f) (ho : ck n o = 5) (ho2 : o < cF n) (hi : i < C.1 o 1) : ∃ C' ρ', s_ArrayList_remove g (S + o) (zi i) (cW S n C ρ) = some (some (f o i), cW S n C' ρ') ∧ LLs e S F n C' ρ' (fDel f o i) ∧ C'.1 o 1 = C.1 o 1 - 1 ∧ sameC o C C' ∧ dX ρ ρ' ∧ ρ'.1 = ρ.1 ∧ ρ'.2.1 = ρ.2.1 := by
  have hh := h
  obtain ⟨h0, hL, hS⟩ := hh
  obtain ⟨h1, h2, h3, h4, h5⟩ := h0
  have h6 := (hL o ho ho2).1
  have hl := (hL o ho ho2).2
  generalize hk : C.1 o 1 = k at *
  have y1 : ∀ v : Int32, zpF (cW S n C ρ) (S + o) 3 2 (.int v) = some (cW S n (cSI C o 2 v) ρ) := fun v => c_pAl2 ho ho2
  have c1 : ∀ v : Int32, (cSI C o 2 v).1 o 1 = k := fun v => hk
  have fo : ∀ o', ¬ o' = o → fDel f o i o' = f o' := fun o' h' => by
    funext b
    exact if_neg (fun q => h' q.1)
  rcases hl with ⟨q1, q2⟩ | ⟨a, cap, G, q1, q2, q3, q4, q5, q6⟩
  · omega
  · have y2 : zaR (cW S n C ρ) a 10 (zi i) = some (some (f o i)) := by
      rw [d_aR q3 (Or.inr (by omega)) (by omega) (by omega), (q6 i hi).1]
    have y0 : s_Objects_checkIndex g (zi i) (zi k) (cW S n C ρ) = some (zi i, cW S n C ρ) := by
      simp (disch := omega) only [s_Objects_checkIndex, s_Preconditions_checkIndex, zi_lt0, zi_lt, nlt_T, ↓reduceIte, Option.bind_some]
    have e1 : zi k - 1 = zi (k - 1) := by rw [zi_l1, zi_sub (by omega)]
    have ex : ∀ (G' : Nat → Option Nat) (p : Nat), okE F ρ p → okE F (zupd ρ a (.inl (10, cap, rfs G'))) p := fun G' p hp => hp.mono (Nat.le_refl _) (by
      obtain ⟨w1, w2, ci, fs, w3, w4⟩ := hp
      have b3 : ¬ p = a := by
        intro q
        subst q
        rw [q3] at w3
        cases w3
      simp only [zupd, va_up, if_neg b3])
    have fin : ∀ (G' : Nat → Option Nat), (∀ j, j < k - 1 → G' j = some (fDel f o i o j) ∧ okE F ρ (fDel f o i o j)) → LLs e S F n (cSN (cSI C o 2 (C.2.1 o 2 + 1)) o 1 (k - 1)) (zupd ρ a (.inl (10, cap, rfs G'))) (fDel f o i) := by
      intro G' hG'
      refine LLs.put (a := a) (cap := cap) (G := G') h ho ho2 (fun j hj => ⟨((sameC.I.trans sameC.N) j hj).1, ((sameC.I.trans sameC.N) j hj).2.2.2⟩) q1 ?_ (by omega) ?_ ?_ q2 ?_ ?_ ?_ (Or.inl q1) fo
      · simp only [cSN, and_self, if_true]
        omega
      · simp only [cSN, and_self, if_true]
        omega
      · simp only [zupd, va_up, if_true]
      · intro j hj
        simp only [cSN, and_self, if_true] at hj
        exact ⟨(hG' j hj).1, ex G' _ (hG' j hj).2⟩
      · exact Nat.le_refl _
      · intro p hp hpa
        simp only [zupd, va_up, if_neg hpa]
    have fdx : ∀ (G' : Nat → Option Nat), dX ρ (zupd ρ a (.inl (10, cap, rfs G'))) := by
      intro G'
      refine ⟨⟨Nat.le_refl _, Nat.le_refl _⟩, fun p hp hn => ?_⟩
      have hpa : ¬ p = a := by
        intro q
        subst q
        exact hn _ _ q3
      simp only [zupd, va_up, if_neg hpa]
    by_cases hlast : k - 1 ≤ i
    · have y3 := L_rem34 (g := g) (C := cSI C o 2 (C.2.1 o 2 + 1)) (x := zi i) (k := k - 1) ho ho2 q3 (show S + cF n ≤ a by omega) (by omega) q5.2
      have y5 : (zi (k - 1) ≤ zi i) = True := by
        rw [zi_le (by omega) (by omega)]
        exact eq_true hlast
      refine ⟨cSN (cSI C o 2 (C.2.1 o 2 + 1)) o 1 (k - 1), zupd ρ a (.inl (10, cap, rfs (va_up G (k - 1) none))), ?_, ?_, ?_, sameC.I.trans sameC.N, fdx _, rfl, rfl⟩
      · simp only [s_ArrayList_remove, s_ArrayList_fastRemove, hk, c_gAl2 ho ho2, c_gAl0 ho ho2, c_gAl1 ho ho2, c_isAl ho ho2, Option.bind_some, y0, y1, c1, q1, y2, e1, y5, if_true, y3]
      · refine fin _ (fun j hj => ?_)
        have w1 : fDel f o i o j = f o j := if_neg (by omega)
        have w2 : ¬ j = k - 1 := by omega
        rw [w1]
        refine ⟨?_, (q6 j (by omega)).2⟩
        simp only [va_up, if_neg w2]
        exact (q6 j (by omega)).1
      · simp only [cSN, and_self, if_true]
    · have w1 : (zi (i + 1)).toNatClampNeg = i + 1 := zi_nat (by omega)
      have w2 : (zi i).toNatClampNeg = i := zi_nat (by omega)
      have w3 : (zi (k - 1 - i)).toNatClampNeg = k - 1 - i := zi_nat (by omega)
      have y4 : zcpR (cW S n (cSI C o 2 (C.2.1 o 2 + 1)) ρ) a a 10 (zi (i + 1)) (zi i) (zi (k - 1 - i)) = some (cW S n (cSI C o 2 (C.2.1 o 2 + 1)) (zupd ρ a (.inl (10, cap, rfs (va_cpy G G (i + 1) i (k - 1 - i)))))) := by
        have w4 : ((¬ zi (i + 1) < 0 ∧ ¬ zi i < 0 ∧ ¬ zi (k - 1 - i) < 0) ∧ (zi (i + 1)).toNatClampNeg + (zi (k - 1 - i)).toNatClampNeg ≤ cap ∧ (zi i).toNatClampNeg + (zi (k - 1 - i)).toNatClampNeg ≤ cap) ∧ zown (cW S n (cSI C o 2 (C.2.1 o 2 + 1)) ρ) a = true ∧ ∀ j, j < (zi (k - 1 - i)).toNatClampNeg → zokR (cW S n (cSI C o 2 (C.2.1 o 2 + 1)) ρ) 10 (G ((zi (i + 1)).toNatClampNeg + j)) = true := by
          rw [w1, w2, w3, zi_lt0 (by omega), zi_lt0 (by omega), zi_lt0 (by omega)]
          refine ⟨⟨⟨fun q => q, fun q => q, fun q => q⟩, by omega, by omega⟩, d_own q3 (Or.inr (by omega)), fun j hj => ?_⟩
          rw [(q6 (i + 1 + j) (by omega)).1]
          exact okE.ok (q6 (i + 1 + j) (by omega)).2 h2
        unfold zcpR
        rw [d_ar q3 (Or.inr (by omega))]
        refine (if_pos w4).trans ?_
        rw [w1, w2, w3]
        exact congrArg some (cW_zupd (Or.inr (by omega)))
      have cl : (zupd ρ a (.inl (10, cap, rfs (va_cpy G G (i + 1) i (k - 1 - i))))).2.2 a = some (true, .inl (10, cap, rfs (va_cpy G G (i + 1) i (k - 1 - i)))) := by
        simp only [zupd, va_up, if_true]
      have y3 := L_rem34 (g := g) (C := cSI C o 2 (C.2.1 o 2 + 1)) (x := zi i) (k := k - 1) ho ho2 cl (show S + cF n ≤ a by omega) (by omega) q5.2
      have uu : ∀ y1 y2 : zY, zupd (zupd ρ a y1) a y2 = zupd ρ a y2 := by
        intro y1 y2
        unfold zupd
        refine congrArg (fun q => (ρ.1, ρ.2.1, q)) ?_
        funext b
        unfold va_up
        dsimp only
        split <;> rfl
      rw [uu] at y3
      have y5 : (zi (k - 1) ≤ zi i) = False := by
        rw [zi_le (by omega) (by omega)]
        exact eq_false hlast
      have e2 : zi i + 1 = zi (i + 1) := by rw [zi_l1, zi_add]
      have e3 : zi (k - 1) - zi i = zi (k - 1 - i) := zi_sub (by omega)
      refine ⟨cSN (cSI C o 2 (C.2.1 o 2 + 1)) o 1 (k - 1), zupd ρ a (.inl (10, cap, rfs (va_up (va_cpy G G (i + 1) i (k - 1 - i)) (k - 1) none))), ?_, ?_, ?_, sameC.I.trans sameC.N, fdx _, rfl, rfl⟩
      · simp only [s_ArrayList_remove, s_ArrayList_fastRemove, hk, c_gAl2 ho ho2, c_gAl0 ho ho2, c_gAl1 ho ho2, c_isAl ho ho2, Option.bind_some, y0, y1, c1, q1, y2, e1, y5, if_false, e2, e3, y4, y3]
      · refine fin _ (fun j hj => ?_)
        have w5 : ¬ j = k - 1 := by omega
        by_cases hji : i ≤ j
        · have w6 : fDel f o i o j = f o (j + 1) := if_pos ⟨rfl, hji⟩
          have w7 : i ≤ j ∧ j < i + (k - 1 - i) := by omega
          have w8 : i + 1 + (j - i) = j + 1 := by omega
          rw [w6]
          refine ⟨?_, (q6 (j + 1) (by omega)).2⟩
          show (if j = k - 1 then none else if i ≤ j ∧ j < i + (k - 1 - i) then G (i + 1 + (j - i)) else G j) = _
          rw [if_neg w5, if_pos w7, w8]
          exact (q6 (j + 1) (by omega)).1
        · have w6 : fDel f o i o j = f o j := if_neg (fun q => hji q.2)
          have w7 : ¬ (i ≤ j ∧ j < i + (k - 1 - i)) := by omega
          rw [w6]
          refine ⟨?_, (q6 j (by omega)).2⟩
          show (if j = k - 1 then none else if i ≤ j ∧ j < i + (k - 1 - i) then G (i + 1 + (j - i)) else G j) = _
          rw [if_neg w5, if_neg w7]
          exact (q6 j (by omega)).1
      · simp only [cSN, and_self, if_true]
end CLIST
