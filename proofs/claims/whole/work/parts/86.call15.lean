section CALL15
variable {g : zG} {e S F n am A B T i s q b x y u v j k : Nat} {C C' C1 : cS} {M M' M1 : mS} {ρ ρ' ρ1 : zS} {f f' : Nat → Nat → Nat}
theorem RR.r34 (h : RR e S F n C M ρ f T) (hrow : ∀ r, r < 34 → M'.1 r = M.1 r) (hok : mOK M') (h2 : M'.2 = M.2) : RR e S F n C M' ρ f T :=
  h.post h.1 hok (by rw [h2]) kp.refl (fun r hr => hrow r (by omega)) (by rw [h2]) (by rw [h2]) (fun _ _ => same4.refl) (fun _ _ => rfl) (h.2.2.2.2.2.2.1.fx (S := S) kp.refl evK.refl (lK.row (fun r hr => hrow r (by omega))) rfl (fun _ _ => rfl) (hrow 33 (by omega)) (by rw [h2]))
theorem tak_at {a c : Nat} : (mTak M k).1 a c = if a = 33 ∧ 8 * k ≤ c ∧ c < 8 * (M.2.2.2.1 34 - 1) then M.1 33 (c + 8) else if a = 34 ∧ c < 8 then M.1 33 (8 * k + c) else M.1 a c := rfl
theorem tak_ok (h : mOK M) : mOK (mTak M k) := by
  intro a c
  rw [tak_at]
  split
  · rename_i h1; rw [h1.1]; exact h 33 _
  · split
    · rename_i h1; rw [h1.1]; exact mOK.b31 h 33 _
    · exact h a c
theorem RR.tak (h : RR e S F n C M ρ f T) (hk : k < M.2.2.2.1 34) (hd : drp e S F n k C ρ f C' ρ') : RR e S F n C' (mTak M k) ρ' (fDel f (oPo n) k) T := by
  refine (h.drop hk hd).r34 (fun r hr => ?_) (tak_ok h.2.1.1) rfl
  funext c
  rw [tak_at, mRem_at]
  by_cases h1 : r = 33 ∧ 8 * k ≤ c ∧ c < 8 * (M.2.2.2.1 34 - 1)
  · rw [if_pos h1, if_pos h1]
  · rw [if_neg h1, if_neg h1, if_neg (by omega)]
theorem tak_34 {c : Nat} (hc : c < 8) : (mTak M k).1 34 c = M.1 33 (8 * k + c) := by rw [tak_at, if_neg (by omega), if_pos ⟨rfl, hc⟩]
theorem tak_row {r : Nat} (hr : r < 33) : (mTak M k).1 r = M.1 r := by
  funext c
  rw [tak_at, if_neg (by omega), if_neg (by omega)]
/-- the office has taken branch b's latest letter, and writes down what it knows -/
theorem RR.take {p : Nat} (h : RR e S F n C M ρ f T) (hb : b < n) (hu : vO M n = 0) (hL : LLs e S F n C1 ρ1 f) (hok : mOK M1) (h1 : M1.2.2.2.1 1 = M.2.2.2.1 1) (h34 : M1.2.2.2.1 34 = M.2.2.2.1 34) (hk : kp S F ρ ρ1) (hrow : ∀ r, 1 ≤ r → r < 20 → M1.1 r = M.1 r) (h33 : M1.1 33 = M.1 33) (h2 : M1.2.1 11 = M.2.1 11) (h3 : M1.2.2.1 10 = M.2.2.1 10) (hcB : ∀ i, i < n → sBc C C1 i) (hcP : C1.1 (oPo n) 1 = C.1 (oPo n) 1) (hcU : C1.1 (oOf n) 6 = C.1 (oOf n) 6) (hSt : C1.1 (oSt n 0) = C.1 (oSt n 0)) (hAn : C1.2.2.2 (oAn n 0) = C.2.2.2 (oAn n 0)) (h28 : M1.1 28 = M.1 28) (h29 : M1.1 29 b = M.1 29 b + 1) (hoth : ∀ r b', 29 ≤ r → r ≤ 32 → ¬ b' = b → M1.1 r b' = M.1 r b') (hOB : ∀ s, s < 3 → OB S F ρ1 C1 M1 n 0 s s) (hA : ANS F ρ1 p b (M1.1 29 b) (M1.1 30 b) (M1.1 31 b) (M1.1 32 b)) (h22 : ∀ s, s < 3 → M.1 22 (3 + s) ≤ M1.1 22 s) (hlat : M.1 14 b = M.1 29 b + 1) (hk1 : M1.1 30 b = 1 → M.1 15 b = 1) (hk2 : M1.1 30 b = 2 → M.1 15 b = 2) (hgv : M1.1 30 b = 1 → 1 ≤ M1.1 32 b → M1.1 31 b + M1.1 32 b ≤ M1.1 22 (M.1 16 b) + 1 ∧ M.1 22 (3 + M.1 16 b) < M1.1 31 b) : RR e S F n (cCpO (cSP C1 (oAn n 0) b (some p)) n 0 1) (mCpO M1 0 1) ρ1 f T := by
  have hn := h.n6
  have hsame : ∀ x, ¬ x = oAn n 0 → same4 C1 (cSP C1 (oAn n 0) b (some p)) x := fun x hx => ⟨rfl, rfl, rfl, by funext k; rw [cSP_at, if_neg (fun h => hx h.1)]⟩
  have hall : ∀ x, x < 2 + 11 * n ∨ x = oPo n → same4 C1 (cSP C1 (oAn n 0) b (some p)) x := fun x hx => hsame x (by unfold oPo at hx; unfold oAn; omega)
  have h16 := h.h16 hb
  refine h.saveO (hL.ofx hall) hok h1 h34 hk hrow h33 h2 h3 (fun i hi => ?_) ?_ ?_ hu (fun s hs => (hOB s hs).fx kp.refl (sOc.of (fun x hx => hsame x ?_)) sO.refl) (fun b' hb' => ?_) (fun b' hb' => ?_) (fun b' hb' => ?_) h22 (fun b' hb' => ?_)
  · have c1 := sBc.sb (C := C1) (C' := cSP C1 (oAn n 0) b (some p)) (n := n) (fun x hx => hall x (Or.inl hx)) hi
    have c0 := hcB i hi
    exact ⟨c1.1.trans c0.1, c1.2.1.trans c0.2.1, fun s hs => ⟨(c1.2.2 s hs).1.trans (c0.2.2 s hs).1, (c1.2.2 s hs).2.1.trans (c0.2.2 s hs).2.1, (c1.2.2 s hs).2.2.trans (c0.2.2 s hs).2.2⟩⟩
  · exact hcP
  · exact hcU
  · unfold oSb oHo oFa oCe oDe at hx; unfold oAn; omega
  · show C1.1 (oSt n 0) b' = _
    rw [hSt, h28]; exact h.St hu hb'
  · unfold AN
    rw [cSP_at]
    by_cases hbb : b' = b
    · subst hbb
      rw [if_pos ⟨rfl, rfl⟩]
      exact Or.inr ⟨by omega, p, rfl, hA⟩
    · rw [if_neg (fun h => hbb h.2), hAn, hoth 29 b' (by omega) (by omega) hbb, hoth 30 b' (by omega) (by omega) hbb, hoth 31 b' (by omega) (by omega) hbb, hoth 32 b' (by omega) (by omega) hbb]
      rcases h.ANN hb' with ha | ⟨ha, p', ha2, ha3⟩
      · exact Or.inl ha
      · exact Or.inr ⟨ha, p', ha2, ha3.mono hk⟩
  · rw [hrow 14 (by omega) (by omega), hrow 15 (by omega) (by omega), hrow 16 (by omega) (by omega)]
    refine ⟨Or.inl ⟨rfl, rfl, rfl⟩, ?_⟩
    by_cases hbb : b' = b
    · subst hbb; exact Or.inr (by omega)
    · rw [hoth 29 b' (by omega) (by omega) hbb, hoth 30 b' (by omega) (by omega) hbb, hoth 31 b' (by omega) (by omega) hbb, hoth 32 b' (by omega) (by omega) hbb]
      exact Or.inl ⟨rfl, rfl, rfl, rfl⟩
  · by_cases hbb : b' = b
    · subst hbb
      have hr : ∀ r, 1 ≤ r → r < 20 → (mCpO M1 0 1).1 r = M.1 r := fun r k1 k2 => by rw [mCpO_row (by omega), hrow r k1 k2]
      have hA : ∀ r, 29 ≤ r → r ≤ 32 → (mCpO M1 0 1).1 r b' = M1.1 r b' := fun r k1 k2 => by rw [mCpO_A (by omega), if_neg (by omega)]
      have hB : ∀ s, s < 3 → (mCpO M1 0 1).1 22 (3 + s) = M1.1 22 s := fun s hs => by rw [mCpO_B (by omega), if_pos (by omega), show 3 * 0 + (3 + s - 3 * 1) = s by omega]
      obtain ⟨i0, i1, i2⟩ := h.inn hb'
      have hv : ∀ x, INv M b' x T → INv (mCpO M1 0 1) b' x T := fun x hI => by
        unfold INv at *
        rw [hr 18 (by omega) (by omega), hr 14 (by omega) (by omega), hr 16 (by omega) (by omega), hr 5 (by omega) (by omega), hr 2 (by omega) (by omega), hr 7 (by omega) (by omega), hA 29 (by omega) (by omega), hA 30 (by omega) (by omega), hA 31 (by omega) (by omega), hA 32 (by omega) (by omega)]
        refine ⟨fun _ => by omega, fun s hs => ⟨(hI.2.1 s hs).1, fun k hk => ?_⟩, fun k0 k1 k2 k3 k4 k hk => ?_⟩
        · rw [hB s hs]
          exact Nat.le_trans ((hI.2.1 s hs).2 k hk) (h22 s hs)
        · have := (hI.2.1 _ (h16 k0)).2 k hk
          have := (hgv k2 k3).2
          omega
      refine ⟨?_, hv _ i1, hv _ i2⟩
      unfold IN0 at *
      rw [hr 14 (by omega) (by omega), hr 15 (by omega) (by omega), hr 16 (by omega) (by omega), hA 29 (by omega) (by omega), hA 30 (by omega) (by omega), hA 31 (by omega) (by omega), hA 32 (by omega) (by omega)]
      refine ⟨by omega, fun k0 k1 => ⟨hk1, hk2, fun k2 k3 => ?_⟩⟩
      rw [hB _ (h16 k0)]
      exact (hgv k2 k3).1
    · exact IN.cp (by omega) (h.h16 hb') hrow (fun r k1 k2 => hoth r b' k1 k2 hbb) h22 (h.inn hb').1 (h.inn hb').2.1 (h.inn hb').2.2
theorem give_at {m N r c : Nat} : (mGive (mSN M 29 b m) b s N).1 r c = if r = 22 ∧ c = s then M.1 22 s + N else if r = 24 ∧ 300 * s + M.1 22 s ≤ c ∧ c < 300 * s + M.1 22 s + N then b else if r = 23 ∧ 300 * s + M.1 22 s ≤ c ∧ c < 300 * s + M.1 22 s + N then 1 else if r = 32 ∧ c = b then N else if r = 31 ∧ c = b then M.1 22 s + 1 else if r = 30 ∧ c = b then 1 else if r = 29 ∧ c = b then m else M.1 r c := rfl
theorem give_o {m N r c : Nat} (h : r < 22 ∨ 32 < r ∨ (25 ≤ r ∧ r ≤ 28)) : (mGive (mSN M 29 b m) b s N).1 r c = M.1 r c := by
  rw [give_at, if_neg (by omega), if_neg (by omega), if_neg (by omega), if_neg (by omega), if_neg (by omega), if_neg (by omega), if_neg (by omega)]
theorem give_b {m N : Nat} : (mGive (mSN M 29 b m) b s N).1 29 b = m ∧ (mGive (mSN M 29 b m) b s N).1 30 b = 1 ∧ (mGive (mSN M 29 b m) b s N).1 31 b = M.1 22 s + 1 ∧ (mGive (mSN M 29 b m) b s N).1 32 b = N := by
  refine ⟨?_, ?_, ?_, ?_⟩
  · rw [give_at, if_neg (by omega), if_neg (by omega), if_neg (by omega), if_neg (by omega), if_neg (by omega), if_neg (by omega), if_pos ⟨rfl, rfl⟩]
  · rw [give_at, if_neg (by omega), if_neg (by omega), if_neg (by omega), if_neg (by omega), if_neg (by omega), if_pos ⟨rfl, rfl⟩]
  · rw [give_at, if_neg (by omega), if_neg (by omega), if_neg (by omega), if_neg (by omega), if_pos ⟨rfl, rfl⟩]
  · rw [give_at, if_neg (by omega), if_neg (by omega), if_neg (by omega), if_pos ⟨rfl, rfl⟩]
theorem give_ob {m N r b' : Nat} (h1 : 29 ≤ r) (h2 : ¬ b' = b) : (mGive (mSN M 29 b m) b s N).1 r b' = M.1 r b' := by
  rw [give_at, if_neg (by omega), if_neg (by omega), if_neg (by omega), if_neg (by omega), if_neg (by omega), if_neg (by omega), if_neg (by omega)]
theorem give_22 {m N c : Nat} : (mGive (mSN M 29 b m) b s N).1 22 c = if c = s then M.1 22 s + N else M.1 22 c := by
  rw [give_at]
  by_cases h : c = s
  · rw [if_pos ⟨rfl, h⟩, if_pos h]
  · rw [if_neg (fun h2 => h h2.2), if_neg h, if_neg (by omega), if_neg (by omega), if_neg (by omega), if_neg (by omega), if_neg (by omega), if_neg (by omega)]
theorem give_23 {m N c : Nat} : (mGive (mSN M 29 b m) b s N).1 23 c = if 300 * s + M.1 22 s ≤ c ∧ c < 300 * s + M.1 22 s + N then 1 else M.1 23 c := by
  rw [give_at, if_neg (by omega), if_neg (by omega)]
  by_cases h : 300 * s + M.1 22 s ≤ c ∧ c < 300 * s + M.1 22 s + N
  · rw [if_pos ⟨rfl, h⟩, if_pos h]
  · rw [if_neg (fun h2 => h h2.2), if_neg h, if_neg (by omega), if_neg (by omega), if_neg (by omega), if_neg (by omega)]
theorem give_24 {m N c : Nat} : (mGive (mSN M 29 b m) b s N).1 24 c = if 300 * s + M.1 22 s ≤ c ∧ c < 300 * s + M.1 22 s + N then b else M.1 24 c := by
  rw [give_at, if_neg (by omega)]
  by_cases h : 300 * s + M.1 22 s ≤ c ∧ c < 300 * s + M.1 22 s + N
  · rw [if_pos ⟨rfl, h⟩, if_pos h]
  · rw [if_neg (fun h2 => h h2.2), if_neg h, if_neg (by omega), if_neg (by omega), if_neg (by omega), if_neg (by omega), if_neg (by omega)]
theorem give_ok {m N : Nat} (h : mOK M) (hb : b < 6) (hm : m < 2147483648) (hN : M.1 22 s + N ≤ 300) : mOK (mGive (mSN M 29 b m) b s N) := by
  intro r c
  rw [give_at]
  split
  · rename_i h1; rw [h1.1, show mbd 22 = 2147483648 by decide]; omega
  · split
    · rename_i h1; rw [h1.1, show mbd 24 = 128 by decide]; omega
    · split
      · rename_i h1; rw [h1.1]; decide
      · split
        · rename_i h1; rw [h1.1, show mbd 32 = 2147483648 by decide]; omega
        · split
          · rename_i h1; rw [h1.1, show mbd 31 = 2147483648 by decide]; omega
          · split
            · rename_i h1; rw [h1.1]; decide
            · split
              · rename_i h1; rw [h1.1, show mbd 29 = 2147483648 by decide]; exact hm
              · exact h r c
theorem cGv_fr {m x : Nat} (h1 : ¬ x = oHo n 0 s) (h2 : ¬ x = oFa n 0 s) (h3 : ¬ x = oSb n 0 s) {w : Nat} : same4 C (cSN (cGv C n s b m) (oSb n 0 s) 2 w) x := by
  refine ⟨?_, rfl, rfl, rfl⟩
  funext k
  rw [cSN_at, if_neg (fun h => h3 h.1)]
  unfold cGv
  rw [cFl_at, cFl_at, if_neg (fun h => h2 h.1), if_neg (fun h => h1 h.1)]
theorem OB.give {m N : Nat} (hO : OB S F ρ C M n 0 s s) (hs : s < 3) (hb : b < n) (h20 : M.1 20 s = 1) (hN : M.1 22 s + N ≤ 300) (hk : kp S F ρ ρ') : OB S F ρ' (cSN (cGv C n s b N) (oSb n 0 s) 2 (C.1 (oSb n 0 s) 2 + N)) (mGive (mSN M 29 b m) b s N) n 0 s s := by
  obtain ⟨⟨c0, c1, c2⟩, ⟨c3, c4, c5⟩, ck, p, hp, ht⟩ := hO
  have e0 : ∀ k, ¬ k = 2 → (cSN (cGv C n s b N) (oSb n 0 s) 2 (C.1 (oSb n 0 s) 2 + N)).1 (oSb n 0 s) k = C.1 (oSb n 0 s) k := fun k hk => by
    rw [cSN_at, if_neg (fun h => hk h.2)]
    unfold cGv
    rw [cFl_at, cFl_at, if_neg (by unfold oSb oFa; omega), if_neg (by unfold oSb oHo; omega)]
  have eH : ∀ k, (cSN (cGv C n s b N) (oSb n 0 s) 2 (C.1 (oSb n 0 s) 2 + N)).1 (oHo n 0 s) k = if M.1 22 s ≤ k ∧ k < M.1 22 s + N then b else C.1 (oHo n 0 s) k := fun k => by
    rw [cSN_at, if_neg (by unfold oHo oSb; omega)]
    unfold cGv
    rw [cFl_at, if_neg (by unfold oHo oFa; omega), cFl_at, c2]
    by_cases h : M.1 22 s ≤ k ∧ k < M.1 22 s + N
    · rw [if_pos ⟨rfl, h⟩, if_pos h]
    · rw [if_neg (fun h2 => h h2.2), if_neg h]
  have eF : ∀ k, (cSN (cGv C n s b N) (oSb n 0 s) 2 (C.1 (oSb n 0 s) 2 + N)).1 (oFa n 0 s) k = if M.1 22 s ≤ k ∧ k < M.1 22 s + N then 1 else C.1 (oFa n 0 s) k := fun k => by
    rw [cSN_at, if_neg (by unfold oFa oSb; omega)]
    unfold cGv
    rw [cFl_at, c2]
    by_cases h : M.1 22 s ≤ k ∧ k < M.1 22 s + N
    · rw [if_pos ⟨rfl, h⟩, if_pos h]
    · rw [if_neg (fun h2 => h h2.2), if_neg h, cFl_at, if_neg (by unfold oFa oHo; omega)]
  refine ⟨⟨?_, ?_, ?_⟩, ?_, fun k hk => ?_, p, hp, Or.inl ⟨?_, ?_⟩⟩
  · rw [e0 0 (by omega), give_o (by omega)]; exact c0
  · rw [e0 1 (by omega), give_o (by omega)]; exact c1
  · rw [cSN_at, if_pos ⟨rfl, rfl⟩, give_22, if_pos rfl, c2]
  · rw [give_o (by omega), give_o (by omega), give_22, if_pos rfl]; omega
  · obtain ⟨⟨k1, k2⟩, k3, k4, k5, k6⟩ := ck k hk
    rw [eF, eH, give_23, give_24, give_22, if_pos rfl, give_o (r := 27) (by omega)]
    by_cases h : M.1 22 s ≤ k ∧ k < M.1 22 s + N
    · rw [if_pos h, if_pos h, if_pos (by omega), if_pos (by omega)]
      exact ⟨⟨rfl, rfl⟩, fun h => by omega, fun h => by omega, ⟨fun _ => by omega, fun _ => by omega⟩, fun _ => hb⟩
    · rw [if_neg h, if_neg h, if_neg (by omega), if_neg (by omega)]
      refine ⟨⟨k1, k2⟩, k3, k4, ⟨fun h2 => k5.mp (by omega), fun h2 => by have := k5.mpr h2; omega⟩, fun h2 => k6 (by omega)⟩
  · rw [give_o (by omega)]; omega
  · rcases ht with ⟨-, ht⟩ | ⟨ht, -⟩
    · exact hk.st ht
    · omega
theorem sO.give {m N s' : Nat} (hs : s < 3) (hs' : s' < 3) (hN : M.1 22 s + N ≤ 300) (h : ¬ s' = s ∨ N = 0) : sO M (mGive (mSN M 29 b m) b s N) s' s' := by
  refine ⟨fun r h1 h2 => ?_, fun k hk => ⟨⟨?_, ?_, ?_⟩, rfl, rfl⟩⟩
  · by_cases hr : r = 22
    · subst hr
      rw [give_22]
      by_cases hss : s' = s
      · subst hss; rw [if_pos rfl]; omega
      · rw [if_neg hss]
    · rw [give_o (by omega)]
  · rw [give_23, if_neg (by omega)]
  · rw [give_24, if_neg (by omega)]
  · rw [give_o (by omega)]
end CALL15
