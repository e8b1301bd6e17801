section CALL16
variable {g : zG} {e S F n am A B T i s q b x y u v j k : Nat} {C C' C1 : cS} {M M' M1 : mS} {ρ ρ' ρ1 : zS} {f f' : Nat → Nat → Nat}
theorem lq_fr {K X : Nat} : (∀ r, ¬ r = 23 → ¬ r = 27 → (mLq M s K X v).1 r = M.1 r) ∧ (∀ r c, ¬ c = X → (mLq M s K X v).1 r c = M.1 r c) ∧ (∀ r, ¬ r = 26 → (mLq M s K X v).2.1 r = M.2.1 r) ∧ (∀ r c, ¬ c = X → (mLq M s K X v).2.1 r c = M.2.1 r c) ∧ (∀ r, ¬ r = 25 → (mLq M s K X v).2.2.1 r = M.2.2.1 r) ∧ (∀ r c, ¬ c = X → (mLq M s K X v).2.2.1 r c = M.2.2.1 r c) ∧ (mLq M s K X v).2.2.2 = M.2.2.2 := by
  unfold mLq
  split
  · split
    · refine ⟨fun r h1 h2 => ?_, fun r c h => ?_, fun r h => ?_, fun r c h => ?_, fun r h => ?_, fun r c h => ?_, rfl⟩
      · funext c; show (if r = 23 ∧ c = X then 2 else M.1 r c) = _; rw [if_neg (fun h => h1 h.1)]
      · show (if r = 23 ∧ c = X then 2 else M.1 r c) = _; rw [if_neg (fun h2 => h h2.2)]
      · funext c; show (if r = 26 ∧ c = X then _ else M.2.1 r c) = _; rw [if_neg (fun h2 => h h2.1)]
      · show (if r = 26 ∧ c = X then _ else M.2.1 r c) = _; rw [if_neg (fun h2 => h h2.2)]
      · funext c; show (if r = 25 ∧ c = X then _ else M.2.2.1 r c) = _; rw [if_neg (fun h2 => h h2.1)]
      · show (if r = 25 ∧ c = X then _ else M.2.2.1 r c) = _; rw [if_neg (fun h2 => h h2.2)]
    · exact ⟨fun _ _ _ => rfl, fun _ _ _ => rfl, fun _ _ => rfl, fun _ _ _ => rfl, fun _ _ => rfl, fun _ _ _ => rfl, rfl⟩
  · split
    · refine ⟨fun r h1 h2 => ?_, fun r c h => ?_, fun _ _ => rfl, fun _ _ _ => rfl, fun _ _ => rfl, fun _ _ _ => rfl, rfl⟩
      · funext c; show (if r = 27 ∧ c = X then _ else if r = 23 ∧ c = X then 3 else M.1 r c) = _; rw [if_neg (fun h => h2 h.1), if_neg (fun h => h1 h.1)]
      · show (if r = 27 ∧ c = X then _ else if r = 23 ∧ c = X then 3 else M.1 r c) = _; rw [if_neg (fun h2 => h h2.2), if_neg (fun h2 => h h2.2)]
    · exact ⟨fun _ _ _ => rfl, fun _ _ _ => rfl, fun _ _ => rfl, fun _ _ _ => rfl, fun _ _ => rfl, fun _ _ _ => rfl, rfl⟩
theorem OB.lq {K : Nat} (hO : OB S F ρ C M n 0 s s) (hk : k < M.1 22 s) (hv : v < 2) (hp : v = 0 → ∃ p, p ≤ 1000000000000 ∧ M.2.2.1 10 K = zl p) : OB S F ρ (cEn C n s k (1 - v) (if v = 0 then M.2.2.1 10 K else 0) (if v = 0 then M.2.1 11 K else zi (M.1 12 K))) (mLq M s K (300 * s + k) v) n 0 s s := by
  have hO' := hO
  obtain ⟨⟨c0, c1, c2⟩, ⟨c3, c4, c5⟩, ck, p, hpp, ht⟩ := hO
  have hk3 : k < 300 := by omega
  obtain ⟨⟨k1, k2⟩, k3, k4, k5, k6⟩ := ck k hk3
  have hno2 : M.1 20 s = 2 → ¬ M.1 23 (300 * s + k) = 1 := fun h2 => by
    rcases ht with ⟨h3, -⟩ | ⟨-, -, h4⟩
    · exact absurd h2 h3
    · exact h4 k hk
  have key : ∀ (C2 : cS) (M2 : mS) (fa : Nat), (∀ x, ¬ x = oFa n 0 s → C2.1 x = C.1 x) → (∀ k', ¬ k' = k → C2.1 (oFa n 0 s) k' = C.1 (oFa n 0 s) k' ∧ C2.2.2.1 (oCe n 0 s) k' = C.2.2.1 (oCe n 0 s) k' ∧ C2.2.1 (oDe n 0 s) k' = C.2.1 (oDe n 0 s) k') → C2.2.2.2 = C.2.2.2 → C2.1 (oFa n 0 s) k = fa → ¬ M.1 20 s = 2 → ((∀ r, ¬ r = 23 → ¬ r = 27 → M2.1 r = M.1 r) ∧ (∀ r c, ¬ c = 300 * s + k → M2.1 r c = M.1 r c) ∧ (∀ r c, ¬ c = 300 * s + k → M2.2.1 r c = M.2.1 r c) ∧ (∀ r c, ¬ c = 300 * s + k → M2.2.2.1 r c = M.2.2.1 r c)) → M2.1 23 (300 * s + k) = fa → ¬ fa = 0 → (fa = 2 → (C2.2.2.1 (oCe n 0 s) k = M2.2.2.1 25 (300 * s + k) ∧ C2.2.1 (oDe n 0 s) k = M2.2.1 26 (300 * s + k)) ∧ ∃ p, p ≤ 1000000000000 ∧ M2.2.2.1 25 (300 * s + k) = zl p) → (fa = 3 → C2.2.1 (oDe n 0 s) k = zi (M2.1 27 (300 * s + k))) → OB S F ρ C2 M2 n 0 s s := by
    rintro C2 M2 fa a1 a2 a3 a4 a5 ⟨b1, b2, b3, b4⟩ a6 a7 a8 a9
    have nSb : ¬ oSb n 0 s = oFa n 0 s := by unfold oSb oFa; omega
    have nHo : ¬ oHo n 0 s = oFa n 0 s := by unfold oHo oFa; omega
    refine ⟨⟨?_, ?_, ?_⟩, ?_, fun k' hk' => ?_, p, by rw [a3]; exact hpp, Or.inl ⟨?_, ?_⟩⟩
    · rw [a1 _ nSb, b1 20 (by omega) (by omega)]; exact c0
    · rw [a1 _ nSb, b1 21 (by omega) (by omega)]; exact c1
    · rw [a1 _ nSb, b1 22 (by omega) (by omega)]; exact c2
    · rw [b1 20 (by omega) (by omega), b1 21 (by omega) (by omega), b1 22 (by omega) (by omega)]; exact ⟨c3, c4, c5⟩
    · rw [b1 22 (by omega) (by omega), b1 24 (by omega) (by omega), a1 _ nHo]
      by_cases hkk : k' = k
      · subst hkk
        rw [a4, a6]
        exact ⟨⟨rfl, k2⟩, a8, a9, ⟨fun _ => a7, fun _ => hk⟩, k6⟩
      · rw [(a2 k' hkk).1, (a2 k' hkk).2.1, (a2 k' hkk).2.2, b2 23 _ (by omega), b2 27 _ (by omega), b3 26 _ (by omega), b4 25 _ (by omega)]
        exact ck k' hk'
    · rw [b1 20 (by omega) (by omega)]; exact a5
    · rcases ht with ⟨-, h4⟩ | ⟨h3, -⟩
      · exact h4
      · exact absurd h3 a5
  obtain ⟨l1, l2, l3, l4, l5, l6, l7⟩ := lq_fr (M := M) (s := s) (K := K) (X := 300 * s + k) (v := v)
  have hcEn : ∀ (ct : Int64) (d : Int32) (uu : Nat), (∀ x, ¬ x = oFa n 0 s → (cSI (cSL (cSN C (oFa n 0 s) k (3 - uu)) (oCe n 0 s) k ct) (oDe n 0 s) k d).1 x = C.1 x) ∧ (∀ k', ¬ k' = k → (cSI (cSL (cSN C (oFa n 0 s) k (3 - uu)) (oCe n 0 s) k ct) (oDe n 0 s) k d).1 (oFa n 0 s) k' = C.1 (oFa n 0 s) k' ∧ (cSI (cSL (cSN C (oFa n 0 s) k (3 - uu)) (oCe n 0 s) k ct) (oDe n 0 s) k d).2.2.1 (oCe n 0 s) k' = C.2.2.1 (oCe n 0 s) k' ∧ (cSI (cSL (cSN C (oFa n 0 s) k (3 - uu)) (oCe n 0 s) k ct) (oDe n 0 s) k d).2.1 (oDe n 0 s) k' = C.2.1 (oDe n 0 s) k') ∧ (cSI (cSL (cSN C (oFa n 0 s) k (3 - uu)) (oCe n 0 s) k ct) (oDe n 0 s) k d).1 (oFa n 0 s) k = 3 - uu ∧ (cSI (cSL (cSN C (oFa n 0 s) k (3 - uu)) (oCe n 0 s) k ct) (oDe n 0 s) k d).2.2.1 (oCe n 0 s) k = ct ∧ (cSI (cSL (cSN C (oFa n 0 s) k (3 - uu)) (oCe n 0 s) k ct) (oDe n 0 s) k d).2.1 (oDe n 0 s) k = d := by
    intro ct d uu
    refine ⟨fun x hx => ?_, fun k' hk' => ⟨?_, ?_, ?_⟩, ?_, ?_, ?_⟩
    · funext c; show (if x = oFa n 0 s ∧ c = k then _ else C.1 x c) = _; rw [if_neg (fun h => hx h.1)]
    · exact if_neg (fun h => hk' h.2)
    · exact if_neg (fun h => hk' h.2)
    · exact if_neg (fun h => hk' h.2)
    · exact if_pos ⟨rfl, rfl⟩
    · exact if_pos ⟨rfl, rfl⟩
    · exact if_pos ⟨rfl, rfl⟩
  rcases (show v = 0 ∨ v = 1 by omega) with rfl | rfl
  · by_cases hf : M.1 23 (300 * s + k) = 1
    · have e1 : mLq M s K (300 * s + k) 0 = mSI (mSL (mSN M 23 (300 * s + k) 2) 25 (300 * s + k) (M.2.2.1 10 K)) 26 (300 * s + k) (M.2.1 11 K) := by
        unfold mLq; rw [if_pos rfl, if_pos hf]
      have e2 : cEn C n s k (1 - 0) (if 0 = 0 then M.2.2.1 10 K else 0) (if 0 = 0 then M.2.1 11 K else zi (M.1 12 K)) = cSI (cSL (cSN C (oFa n 0 s) k (3 - 1)) (oCe n 0 s) k (M.2.2.1 10 K)) (oDe n 0 s) k (M.2.1 11 K) := by
        unfold cEn; rw [if_pos (Or.inl ⟨rfl, by rw [k1]; exact hf⟩), if_pos rfl, if_pos rfl]
      obtain ⟨d1, d2, d3, d4, d5⟩ := hcEn (M.2.2.1 10 K) (M.2.1 11 K) 1
      have m25 : (mSI (mSL (mSN M 23 (300 * s + k) 2) 25 (300 * s + k) (M.2.2.1 10 K)) 26 (300 * s + k) (M.2.1 11 K)).2.2.1 25 (300 * s + k) = M.2.2.1 10 K := if_pos ⟨rfl, rfl⟩
      have m26 : (mSI (mSL (mSN M 23 (300 * s + k) 2) 25 (300 * s + k) (M.2.2.1 10 K)) 26 (300 * s + k) (M.2.1 11 K)).2.1 26 (300 * s + k) = M.2.1 11 K := if_pos ⟨rfl, rfl⟩
      have m23 : (mSI (mSL (mSN M 23 (300 * s + k) 2) 25 (300 * s + k) (M.2.2.1 10 K)) 26 (300 * s + k) (M.2.1 11 K)).1 23 (300 * s + k) = 2 := if_pos ⟨rfl, rfl⟩
      rw [e2]
      rw [e1] at l1 l2 l4 l6 ⊢
      exact key _ _ 2 d1 d2 rfl d3 (fun h => hno2 h hf) ⟨l1, l2, l4, l6⟩ m23 (by omega) (fun _ => ⟨⟨by rw [d4, m25], by rw [d5, m26]⟩, by rw [m25]; exact hp rfl⟩) (fun h => absurd h (by omega))
    · have e1 : mLq M s K (300 * s + k) 0 = M := by unfold mLq; rw [if_pos rfl, if_neg hf]
      have e2 : cEn C n s k (1 - 0) (if 0 = 0 then M.2.2.1 10 K else 0) (if 0 = 0 then M.2.1 11 K else zi (M.1 12 K)) = C := by
        unfold cEn; rw [if_neg]; rintro (⟨-, h⟩ | ⟨h, -⟩)
        · rw [k1] at h; exact hf h
        · omega
      rw [e1, e2]; exact hO'
  · by_cases hf : (M.1 23 (300 * s + k) = 1 ∨ M.1 23 (300 * s + k) = 2) ∧ ¬ M.1 20 s = 2
    · have e1 : mLq M s K (300 * s + k) 1 = mSN (mSN M 23 (300 * s + k) 3) 27 (300 * s + k) (M.1 12 K) := by
        unfold mLq; rw [if_neg (by omega), if_pos hf]
      have e2 : cEn C n s k (1 - 1) (if 1 = 0 then M.2.2.1 10 K else 0) (if 1 = 0 then M.2.1 11 K else zi (M.1 12 K)) = cSI (cSL (cSN C (oFa n 0 s) k (3 - 0)) (oCe n 0 s) k 0) (oDe n 0 s) k (zi (M.1 12 K)) := by
        unfold cEn; rw [if_pos (Or.inr ⟨rfl, by rw [k1]; exact hf.1, by rw [c0]; exact hf.2⟩), if_neg (by omega), if_neg (by omega)]
      obtain ⟨d1, d2, d3, d4, d5⟩ := hcEn 0 (zi (M.1 12 K)) 0
      have m27 : (mSN (mSN M 23 (300 * s + k) 3) 27 (300 * s + k) (M.1 12 K)).1 27 (300 * s + k) = M.1 12 K := if_pos ⟨rfl, rfl⟩
      have m23 : (mSN (mSN M 23 (300 * s + k) 3) 27 (300 * s + k) (M.1 12 K)).1 23 (300 * s + k) = 3 := by
        rw [mSN_at, mSN_at, if_neg (by omega), if_pos ⟨rfl, rfl⟩]
      rw [e2]
      rw [e1] at l1 l2 l4 l6 ⊢
      exact key _ _ 3 d1 d2 rfl d3 hf.2 ⟨l1, l2, l4, l6⟩ m23 (by omega) (fun h => absurd h (by omega)) (fun _ => by rw [d5, m27])
    · have e1 : mLq M s K (300 * s + k) 1 = M := by unfold mLq; rw [if_neg (by omega), if_neg hf]
      have e2 : cEn C n s k (1 - 1) (if 1 = 0 then M.2.2.1 10 K else 0) (if 1 = 0 then M.2.1 11 K else zi (M.1 12 K)) = C := by
        unfold cEn; rw [if_neg]; rintro (⟨h, -⟩ | ⟨-, h, h2⟩)
        · omega
        · rw [k1] at h; rw [c0] at h2; exact hf ⟨h, h2⟩
      rw [e1, e2]; exact hO'
theorem ln_fr {J fr : Nat} : ∀ m, (∀ r, ¬ r = 23 → ¬ r = 27 → (mLn M s J fr m).1 r = M.1 r) ∧ (∀ r, ¬ r = 26 → (mLn M s J fr m).2.1 r = M.2.1 r) ∧ (∀ r, ¬ r = 25 → (mLn M s J fr m).2.2.1 r = M.2.2.1 r) ∧ (mLn M s J fr m).2.2.2 = M.2.2.2 := by
  intro m
  induction m with
  | zero => exact ⟨fun _ _ _ => rfl, fun _ _ => rfl, fun _ _ => rfl, rfl⟩
  | succ m ih =>
    obtain ⟨i1, i2, i3, i4⟩ := ih
    rw [mLn]
    obtain ⟨l1, l2, l3, l4, l5, l6, l7⟩ := lq_fr (M := mLn M s J fr m) (s := s) (K := 300 * J + M.1 13 (600 * J + (fr + m)) / 2) (X := 300 * s + M.1 7 (300 * J + M.1 13 (600 * J + (fr + m)) / 2) - 1) (v := M.1 13 (600 * J + (fr + m)) % 2)
    exact ⟨fun r h1 h2 => (l1 r h1 h2).trans (i1 r h1 h2), fun r h => (l3 r h).trans (i2 r h), fun r h => (l5 r h).trans (i3 r h), l7.trans i4⟩
/-- the events of a letter entered on both sides -/
theorem OB.ln {J fr t : Nat} {en eu : Nat → Nat} {ec : Nat → Int64} {ed : Nat → Int32} (hO : OB S F ρ C M n 0 s s) (h : ∀ m, m < t → 1 ≤ M.1 7 (300 * J + M.1 13 (600 * J + (fr + m)) / 2) ∧ en m = M.1 7 (300 * J + M.1 13 (600 * J + (fr + m)) / 2) - 1 ∧ en m < M.1 22 s ∧ eu m = 1 - M.1 13 (600 * J + (fr + m)) % 2 ∧ ec m = evC M J (M.1 13 (600 * J + (fr + m))) ∧ ed m = evD M J (M.1 13 (600 * J + (fr + m))) ∧ (M.1 13 (600 * J + (fr + m)) % 2 = 0 → ∃ p, p ≤ 1000000000000 ∧ M.2.2.1 10 (300 * J + M.1 13 (600 * J + (fr + m)) / 2) = zl p)) : ∀ m, m ≤ t → OB S F ρ (cEnL C n s en eu ec ed m) (mLn M s J fr m) n 0 s s := by
  intro m
  induction m with
  | zero => intro _; exact hO
  | succ m ih =>
    intro hm
    obtain ⟨a1, a2, a3, a4, a5, a6, a7⟩ := h m (by omega)
    obtain ⟨i1, i2, i3, i4⟩ := ln_fr (M := M) (s := s) (J := J) (fr := fr) m
    rw [mLn, cEnL, a4, a5, a6]
    have e1 : 300 * s + M.1 7 (300 * J + M.1 13 (600 * J + (fr + m)) / 2) - 1 = 300 * s + en m := by clear a7 ih h; omega
    rw [e1]
    have := OB.lq (k := en m) (v := M.1 13 (600 * J + (fr + m)) % 2) (K := 300 * J + M.1 13 (600 * J + (fr + m)) / 2) (ih (by omega)) (by rw [i1 22 (by omega) (by omega)]; exact a3) (Nat.mod_lt _ (by decide)) (fun h0 => by rw [i3 10 (by omega)]; exact a7 h0)
    rw [i3 10 (by omega), i2 11 (by omega), i1 12 (by omega) (by omega)] at this
    exact this
theorem sO.ln {J fr t s' : Nat} (hs : s < 3) (hs' : s' < 3) (hss : ¬ s' = s) (h : ∀ m, m < t → 1 ≤ M.1 7 (300 * J + M.1 13 (600 * J + (fr + m)) / 2) ∧ M.1 7 (300 * J + M.1 13 (600 * J + (fr + m)) / 2) ≤ 300) : ∀ m, m ≤ t → sO M (mLn M s J fr m) s' s' := by
  intro m
  induction m with
  | zero => intro _; exact sO.refl
  | succ m ih =>
    intro hm
    have h1 := h m (by omega)
    obtain ⟨j1, j2⟩ := ih (by omega)
    rw [mLn]
    obtain ⟨l1, l2, l3, l4, l5, l6, l7⟩ := lq_fr (M := mLn M s J fr m) (s := s) (K := 300 * J + M.1 13 (600 * J + (fr + m)) / 2) (X := 300 * s + M.1 7 (300 * J + M.1 13 (600 * J + (fr + m)) / 2) - 1) (v := M.1 13 (600 * J + (fr + m)) % 2)
    refine ⟨fun r k1 k2 => by rw [l1 r (by omega) (by omega)]; exact j1 r k1 k2, fun k hk => ?_⟩
    obtain ⟨⟨q1, q2, q3⟩, q4, q5⟩ := j2 k hk
    exact ⟨⟨(l2 23 _ (by omega)).trans q1, (l2 24 _ (by omega)).trans q2, (l2 27 _ (by omega)).trans q3⟩, (l4 26 _ (by omega)).trans q4, (l6 25 _ (by omega)).trans q5⟩
theorem SA.tk (h : SA F ρ C M n b) : tkOK F ρ (C.2.2.2 (oAn n 0) b) (M.1 29 b) := by
  rcases h.2.2 with ⟨h1, h2⟩ | ⟨h1, p, h2, st, bl, h3, -⟩
  · exact Or.inl ⟨h2, h1⟩
  · exact Or.inr ⟨p, st, bl, b, h2, h3⟩
theorem ANS.okE {p a fi mn num : Nat} (h : ANS F ρ p b num a fi mn) : okE F ρ p := by
  obtain ⟨st, bl, h1, -⟩ := h
  exact dOb.okE h1 (by decide)
/-- after taking: the answer goes out -/
theorem RR.took {p pa ser w ev kd : Nat} (h : RR e S F n C M ρ f T) (hT : T ≤ 600) (hg0 : g 0 = some e) (hg2 : ∃ mi, g 10 = some mi) (hb : b < n) (hu : vO M n = 0) (hup : C.1 (oOf n) 6 = 1) (hq : isLet F ρ p ser w ev kd b (M.1 29 b + 1)) (hTk : s_Office_take g (S + oOf n) (some p) (cW S n C ρ) = some (some pa, cW S n C1 ρ1)) (hx : dX ρ ρ1) (hL : LLs e S F n C1 ρ1 f) (hok : mOK M1) (h1 : M1.2.2.2.1 1 = M.2.2.2.1 1) (h34 : M1.2.2.2.1 34 = M.2.2.2.1 34) (hrow : ∀ r, 1 ≤ r → r < 20 → M1.1 r = M.1 r) (h33 : M1.1 33 = M.1 33) (h2 : M1.2.1 11 = M.2.1 11) (h3 : M1.2.2.1 10 = M.2.2.1 10) (hcB : ∀ i, i < n → sBc C C1 i) (hcP : C1.1 (oPo n) 1 = C.1 (oPo n) 1) (hcU : C1.1 (oOf n) 6 = C.1 (oOf n) 6) (hSt : C1.1 (oSt n 0) = C.1 (oSt n 0)) (hAn : C1.2.2.2 (oAn n 0) = C.2.2.2 (oAn n 0)) (h28 : M1.1 28 = M.1 28) (h29 : M1.1 29 b = M.1 29 b + 1) (hoth : ∀ r b', 29 ≤ r → r ≤ 32 → ¬ b' = b → M1.1 r b' = M.1 r b') (hOB : ∀ s, s < 3 → OB S F ρ1 C1 M1 n 0 s s) (hA : ANS F ρ1 pa b (M1.1 29 b) (M1.1 30 b) (M1.1 31 b) (M1.1 32 b)) (h22 : ∀ s, s < 3 → M.1 22 (3 + s) ≤ M1.1 22 s) (hlat : M.1 14 b = M.1 29 b + 1) (hk1 : M1.1 30 b = 1 → M.1 15 b = 1) (hk2 : M1.1 30 b = 2 → M.1 15 b = 2) (hgv : M1.1 30 b = 1 → 1 ≤ M1.1 32 b → M1.1 31 b + M1.1 32 b ≤ M1.1 22 (M.1 16 b) + 1 ∧ M.1 22 (3 + M.1 16 b) < M1.1 31 b) (h20 : M1.1 20 = M.1 20) : ∃ C' ρ' f', s_No_bringToOffice g S (some p) (cW S n C ρ) = some (cW S n C' ρ') ∧ dX ρ ρ' ∧ ρ'.1 ≤ ρ1.1 + 1 ∧ ρ'.2.1 ≤ ρ1.2.1 + 1000 ∧ cl (mAnsw (mCpO M1 0 1) b) = cl M ∧ RR e S F n C' (mAnsw (mCpO M1 0 1) b) ρ' f' T := by
  have hn := h.n6
  have hR := h.take hb hu hL hok h1 h34 (kp.dx hx) hrow h33 h2 h3 hcB hcP hcU hSt hAn h28 h29 hoth hOB hA h22 hlat hk1 hk2 hgv
  have hlT := (h.inn hb).1.1
  have hb31 := mOK.b31 hok
  have hans := Y_ansNew (g := g) h.F1 hn hb hq (h.2.2.2.2.2.1 b hb).tk rfl (by omega) hTk hx hAn hSt h.ansRR.1 (by obtain ⟨st, bl, h4, -⟩ := hA; exact ⟨_, h4⟩) (fun k hk => ((h.2.2.2.2.2.1 k hk).st2 h.2.1.1).1)
  have hpo : (cCpO (cSP C1 (oAn n 0) b (some pa)) n 0 1).1 (oPo n) 1 ≤ 64 := by
    have e1 := hR.2.2.2.2.2.2.1.1
    omega
  obtain ⟨C', ρ', f', r1, r2⟩ := Y_bringO (g := g) (f := f) hup hans hR.1 hg0 hg2 hpo hA.okE
  have rA : ∀ r, 29 ≤ r → r ≤ 32 → (mCpO M1 0 1).1 r b = M1.1 r b := fun r k1 k2 => by rw [mCpO_A (by omega), if_neg (by omega)]
  refine ⟨C', ρ', f', r1, hx.trans r2.2.1, r2.2.2.1, r2.2.2.2.1, ?_, ?_⟩
  · unfold mAnsw
    rw [mSendQ_cl]
    exact cl_cp (fun s hs => by rw [h20]; exact (h.g22 hu hs).2.symm)
  · unfold mAnsw
    rw [rA 29 (by omega) (by omega), rA 30 (by omega) (by omega), rA 31 (by omega) (by omega), rA 32 (by omega) (by omega)]
    refine hR.send r2 ⟨by omega, by omega, hb31 _ _, hb31 _ _, hb31 _ _, hb31 _ _⟩ ⟨hb, by omega, Or.inl ⟨rfl, hA, ?_, fun _ => ?_⟩⟩
    · rw [rA 29 (by omega) (by omega)]; exact Nat.le_refl _
    · rw [rA 30 (by omega) (by omega), rA 31 (by omega) (by omega), rA 32 (by omega) (by omega)]; exact ⟨rfl, rfl, rfl⟩
end CALL16
