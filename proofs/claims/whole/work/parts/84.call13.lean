section CALL13
variable {g : zG} {e S F n am A B T i s q b x y u v j k : Nat} {C C' : cS} {M M' : mS} {ρ ρ' : zS} {f f' : Nat → Nat → Nat}
/-- outside the rows of book j nothing differs -/
def oK (j : Nat) (M M' : mS) : Prop := (∀ r, (r < 2 ∨ 14 ≤ r) → M'.1 r = M.1 r) ∧ (∀ r k, 2 ≤ r → r ≤ 6 → ¬ k = j → M'.1 r k = M.1 r k) ∧ (∀ r k, (r = 7 ∨ r = 8 ∨ r = 9 ∨ r = 12) → ¬ k / 300 = j → M'.1 r k = M.1 r k) ∧ (∀ k, ¬ k / 600 = j → M'.1 13 k = M.1 13 k) ∧ (∀ k, ¬ k / 300 = j → M'.2.1 11 k = M.2.1 11 k) ∧ M'.2.1 26 = M.2.1 26 ∧ (∀ k, ¬ k / 300 = j → M'.2.2.1 10 k = M.2.2.1 10 k) ∧ M'.2.2.1 25 = M.2.2.1 25 ∧ M'.2.2.2.1 1 = M.2.2.2.1 1 ∧ M'.2.2.2.1 34 = M.2.2.2.1 34
theorem oK.trans {M'' : mS} (h : oK j M M') (h' : oK j M' M'') : oK j M M'' := by
  obtain ⟨a1, a2, a3, a4, a5, a6, a7, a8, a9, a10⟩ := h
  obtain ⟨b1, b2, b3, b4, b5, b6, b7, b8, b9, b10⟩ := h'
  exact ⟨fun r h => (b1 r h).trans (a1 r h), fun r k h1 h2 h3 => (b2 r k h1 h2 h3).trans (a2 r k h1 h2 h3), fun r k h1 h2 => (b3 r k h1 h2).trans (a3 r k h1 h2), fun k h1 => (b4 k h1).trans (a4 k h1), fun k h1 => (b5 k h1).trans (a5 k h1), b6.trans a6, fun k h1 => (b7 k h1).trans (a7 k h1), b8.trans a8, b9.trans a9, b10.trans a10⟩
theorem oK.th : oK j M (mSs M 0 0) := ⟨fun _ _ => rfl, fun _ _ _ _ _ => rfl, fun _ _ _ _ => rfl, fun _ _ => rfl, fun _ _ => rfl, rfl, fun _ _ => rfl, rfl, rfl, rfl⟩
theorem oK.N {r k v : Nat} (h : (2 ≤ r ∧ r ≤ 6 ∧ k = j) ∨ ((r = 7 ∨ r = 8 ∨ r = 9 ∨ r = 12) ∧ k / 300 = j) ∨ (r = 13 ∧ k / 600 = j)) : oK j M (mSN M r k v) := by
  have e : ∀ a b, ¬ (a = r ∧ b = k) → (mSN M r k v).1 a b = M.1 a b := fun a b h => if_neg h
  refine ⟨fun r' h1 => funext (fun k' => e _ _ ?_), fun r' k' h1 h2 h3 => e _ _ ?_, fun r' k' h1 h2 => e _ _ ?_, fun k' h1 => e _ _ ?_, fun _ _ => rfl, rfl, fun _ _ => rfl, rfl, rfl, rfl⟩
  all_goals (rintro ⟨rfl, rfl⟩; omega)
theorem oK.I {k : Nat} {v : Int32} (h : k / 300 = j) : oK j M (mSI M 11 k v) := by
  refine ⟨fun _ _ => rfl, fun _ _ _ _ _ => rfl, fun _ _ _ _ => rfl, fun _ _ => rfl, fun k' h1 => ?_, ?_, fun _ _ => rfl, rfl, rfl, rfl⟩
  · show (if 11 = 11 ∧ k' = k then v else M.2.1 11 k') = _
    rw [if_neg (by rintro ⟨-, rfl⟩; omega)]
  · funext k'
    show (if 26 = 11 ∧ k' = k then v else M.2.1 26 k') = _
    rw [if_neg (by omega)]
theorem oK.L {k : Nat} {v : Int64} (h : k / 300 = j) : oK j M (mSL M 10 k v) := by
  refine ⟨fun _ _ => rfl, fun _ _ _ _ _ => rfl, fun _ _ _ _ => rfl, fun _ _ => rfl, fun _ _ => rfl, rfl, fun k' h1 => ?_, ?_, rfl, rfl⟩
  · show (if 10 = 10 ∧ k' = k then v else M.2.2.1 10 k') = _
    rw [if_neg (by rintro ⟨-, rfl⟩; omega)]
  · funext k'
    show (if 25 = 10 ∧ k' = k then v else M.2.2.1 25 k') = _
    rw [if_neg (by omega)]
theorem oK.hap (hk : k < 300) (h5 : M.1 5 j < 600) : oK j M (mHap M j k v) := by
  unfold mHap
  exact ((oK.N (by omega)).trans (oK.N (by omega))).trans (oK.N (by omega))
theorem oK.toB (h : oK j M M') (hj : j / 3 = i) : oB i M M' := by
  obtain ⟨a1, a2, a3, a4, a5, a6, a7, a8, a9, a10⟩ := h
  exact ⟨fun k _ => by rw [a1 1 (by omega)], fun r k h1 h2 h3 h4 => a2 r k h1 h2 (by rintro rfl; omega), fun r k h1 h2 h3 => a3 r k h1 (by omega), fun k h1 h2 => a4 k (by omega), fun r k h1 h2 h3 h4 => by rw [a1 r (by omega)], fun r h1 h2 => a1 r (by omega), fun k h1 h2 => a5 k (by omega), a6, fun k h1 h2 => a7 k (by omega), a8, a9, a10⟩
theorem oK.toK {j' : Nat} (h : oK j M M') (hj : ¬ j' = j) (hb : bd M j') : sK M M' j' j' := by
  obtain ⟨a1, a2, a3, a4, a5, a6, a7, a8, a9, a10⟩ := h
  obtain ⟨b1, b2⟩ := hb
  exact ⟨fun r h1 h2 => a2 r _ h1 h2 hj, fun k hk => ⟨⟨a3 7 _ (by omega) (by omega), a3 8 _ (by omega) (by omega), a3 9 _ (by omega) (by omega), a3 12 _ (by omega) (by omega)⟩, a5 _ (by omega), a7 _ (by omega)⟩, fun t ht => a4 _ (by omega)⟩
theorem hap_at {r c : Nat} : (mHap M j k v).1 r c = if r = 9 ∧ c = 300 * j + k then 2 + v else if r = 5 ∧ c = j then M.1 5 j + 1 else if r = 13 ∧ c = 600 * j + M.1 5 j then 2 * k + v else M.1 r c := rfl
/-- what the three calls have in common on the reference's side -/
def HA (M M' : mS) (j k v u : Nat) : Prop := oK j M M' ∧ M'.1 2 = M.1 2 ∧ M'.1 4 = M.1 4 ∧ M'.1 6 = M.1 6 ∧ M'.1 7 = M.1 7 ∧ M'.1 8 = M.1 8 ∧ M'.1 3 j = u ∧ M'.1 5 j = M.1 5 j + 1 ∧ (∀ t, t < M.1 5 j → M'.1 13 (600 * j + t) = M.1 13 (600 * j + t)) ∧ M'.1 13 (600 * j + M.1 5 j) = 2 * k + v ∧ (∀ k', ¬ k' = k → M'.1 9 (300 * j + k') = M.1 9 (300 * j + k') ∧ M'.2.2.1 10 (300 * j + k') = M.2.2.1 10 (300 * j + k') ∧ M'.2.1 11 (300 * j + k') = M.2.1 11 (300 * j + k') ∧ M'.1 12 (300 * j + k') = M.1 12 (300 * j + k')) ∧ M'.1 9 (300 * j + k) = 2 + v
theorem mInv_HA {c : Int64} {d : Int32} (hu : M.1 3 j < 300) (h5 : M.1 5 j < 600) : HA M (mInv M j c d) j (M.1 3 j) 0 (M.1 3 j + 1) ∧ (mInv M j c d).2.2.1 10 (300 * j + M.1 3 j) = c ∧ (mInv M j c d).2.1 11 (300 * j + M.1 3 j) = d := by
  have at_ : ∀ r c', (mInv M j c d).1 r c' = if r = 9 ∧ c' = 300 * j + M.1 3 j then 2 + 0 else if r = 5 ∧ c' = j then M.1 5 j + 1 else if r = 13 ∧ c' = 600 * j + M.1 5 j then 2 * M.1 3 j + 0 else if r = 3 ∧ c' = j then M.1 3 j + 1 else M.1 r c' := fun r c' => rfl
  refine ⟨⟨?_, ?_, ?_, ?_, ?_, ?_, ?_, ?_, fun t ht => ?_, ?_, fun k' hk' => ⟨?_, ?_, ?_, ?_⟩, ?_⟩, ?_, ?_⟩
  · unfold mInv
    exact ((((oK.th.trans (oK.L (by omega))).trans (oK.I (by omega))).trans (oK.N (by omega)))).trans (oK.hap hu h5)
  · funext c'; rw [at_, if_neg (by omega), if_neg (by omega), if_neg (by omega), if_neg (by omega)]
  · funext c'; rw [at_, if_neg (by omega), if_neg (by omega), if_neg (by omega), if_neg (by omega)]
  · funext c'; rw [at_, if_neg (by omega), if_neg (by omega), if_neg (by omega), if_neg (by omega)]
  · funext c'; rw [at_, if_neg (by omega), if_neg (by omega), if_neg (by omega), if_neg (by omega)]
  · funext c'; rw [at_, if_neg (by omega), if_neg (by omega), if_neg (by omega), if_neg (by omega)]
  · rw [at_, if_neg (by omega), if_neg (by omega), if_neg (by omega), if_pos ⟨rfl, rfl⟩]
  · rw [at_, if_neg (by omega), if_pos ⟨rfl, rfl⟩]
  · rw [at_, if_neg (by omega), if_neg (by omega), if_neg (by omega), if_neg (by omega)]
  · rw [at_, if_neg (by omega), if_neg (by omega), if_pos ⟨rfl, rfl⟩]
  · rw [at_, if_neg (by omega), if_neg (by omega), if_neg (by omega), if_neg (by omega)]
  · show (if 10 = 10 ∧ 300 * j + k' = 300 * j + M.1 3 j then c else M.2.2.1 10 (300 * j + k')) = _
    rw [if_neg (by omega)]
  · show (if 11 = 11 ∧ 300 * j + k' = 300 * j + M.1 3 j then d else M.2.1 11 (300 * j + k')) = _
    rw [if_neg (by omega)]
  · rw [at_, if_neg (by omega), if_neg (by omega), if_neg (by omega), if_neg (by omega)]
  · rw [at_, if_pos ⟨rfl, rfl⟩]
  · exact if_pos ⟨rfl, rfl⟩
  · exact if_pos ⟨rfl, rfl⟩
theorem mVn_HA {r : Nat} (hu : M.1 3 j < 300) (h5 : M.1 5 j < 600) : HA M (mVn M j r) j (M.1 3 j) 1 (M.1 3 j + 1) ∧ (mVn M j r).2.2.1 10 (300 * j + M.1 3 j) = 0 ∧ (mVn M j r).1 12 (300 * j + M.1 3 j) = r := by
  have at_ : ∀ r' c', (mVn M j r).1 r' c' = if r' = 9 ∧ c' = 300 * j + M.1 3 j then 2 + 1 else if r' = 5 ∧ c' = j then M.1 5 j + 1 else if r' = 13 ∧ c' = 600 * j + M.1 5 j then 2 * M.1 3 j + 1 else if r' = 3 ∧ c' = j then M.1 3 j + 1 else if r' = 12 ∧ c' = 300 * j + M.1 3 j then r else M.1 r' c' := fun r' c' => rfl
  refine ⟨⟨?_, ?_, ?_, ?_, ?_, ?_, ?_, ?_, fun t ht => ?_, ?_, fun k' hk' => ⟨?_, ?_, rfl, ?_⟩, ?_⟩, ?_, ?_⟩
  · unfold mVn
    exact ((((oK.th.trans (oK.L (by omega))).trans (oK.N (by omega))).trans (oK.N (by omega)))).trans (oK.hap hu h5)
  · funext c'; rw [at_, if_neg (by omega), if_neg (by omega), if_neg (by omega), if_neg (by omega), if_neg (by omega)]
  · funext c'; rw [at_, if_neg (by omega), if_neg (by omega), if_neg (by omega), if_neg (by omega), if_neg (by omega)]
  · funext c'; rw [at_, if_neg (by omega), if_neg (by omega), if_neg (by omega), if_neg (by omega), if_neg (by omega)]
  · funext c'; rw [at_, if_neg (by omega), if_neg (by omega), if_neg (by omega), if_neg (by omega), if_neg (by omega)]
  · funext c'; rw [at_, if_neg (by omega), if_neg (by omega), if_neg (by omega), if_neg (by omega), if_neg (by omega)]
  · rw [at_, if_neg (by omega), if_neg (by omega), if_neg (by omega), if_pos ⟨rfl, rfl⟩]
  · rw [at_, if_neg (by omega), if_pos ⟨rfl, rfl⟩]
  · rw [at_, if_neg (by omega), if_neg (by omega), if_neg (by omega), if_neg (by omega), if_neg (by omega)]
  · rw [at_, if_neg (by omega), if_neg (by omega), if_pos ⟨rfl, rfl⟩]
  · rw [at_, if_neg (by omega), if_neg (by omega), if_neg (by omega), if_neg (by omega), if_neg (by omega)]
  · show (if 10 = 10 ∧ 300 * j + k' = 300 * j + M.1 3 j then 0 else M.2.2.1 10 (300 * j + k')) = _
    rw [if_neg (by omega)]
  · rw [at_, if_neg (by omega), if_neg (by omega), if_neg (by omega), if_neg (by omega), if_neg (by omega)]
  · rw [at_, if_pos ⟨rfl, rfl⟩]
  · exact if_pos ⟨rfl, rfl⟩
  · rw [at_, if_neg (by omega), if_neg (by omega), if_neg (by omega), if_neg (by omega), if_pos ⟨rfl, rfl⟩]
theorem mVu_HA {r : Nat} (hk : k < 300) (h5 : M.1 5 j < 600) : HA M (mHap (mSN (mSs M 0 0) 12 (300 * j + k) r) j k 1) j k 1 (M.1 3 j) ∧ (mHap (mSN (mSs M 0 0) 12 (300 * j + k) r) j k 1).2 = (mSs M 0 0).2 ∧ (mHap (mSN (mSs M 0 0) 12 (300 * j + k) r) j k 1).1 12 (300 * j + k) = r := by
  have at_ : ∀ r' c', (mHap (mSN (mSs M 0 0) 12 (300 * j + k) r) j k 1).1 r' c' = if r' = 9 ∧ c' = 300 * j + k then 2 + 1 else if r' = 5 ∧ c' = j then M.1 5 j + 1 else if r' = 13 ∧ c' = 600 * j + M.1 5 j then 2 * k + 1 else if r' = 12 ∧ c' = 300 * j + k then r else M.1 r' c' := fun r' c' => rfl
  refine ⟨⟨?_, ?_, ?_, ?_, ?_, ?_, ?_, ?_, fun t ht => ?_, ?_, fun k' hk' => ⟨?_, rfl, rfl, ?_⟩, ?_⟩, rfl, ?_⟩
  · exact (oK.th.trans (oK.N (by omega))).trans (oK.hap hk h5)
  · funext c'; rw [at_, if_neg (by omega), if_neg (by omega), if_neg (by omega), if_neg (by omega)]
  · funext c'; rw [at_, if_neg (by omega), if_neg (by omega), if_neg (by omega), if_neg (by omega)]
  · funext c'; rw [at_, if_neg (by omega), if_neg (by omega), if_neg (by omega), if_neg (by omega)]
  · funext c'; rw [at_, if_neg (by omega), if_neg (by omega), if_neg (by omega), if_neg (by omega)]
  · funext c'; rw [at_, if_neg (by omega), if_neg (by omega), if_neg (by omega), if_neg (by omega)]
  · rw [at_, if_neg (by omega), if_neg (by omega), if_neg (by omega), if_neg (by omega)]
  · rw [at_, if_neg (by omega), if_pos ⟨rfl, rfl⟩]
  · rw [at_, if_neg (by omega), if_neg (by omega), if_neg (by omega), if_neg (by omega)]
  · rw [at_, if_neg (by omega), if_neg (by omega), if_pos ⟨rfl, rfl⟩]
  · rw [at_, if_neg (by omega), if_neg (by omega), if_neg (by omega), if_neg (by omega)]
  · rw [at_, if_neg (by omega), if_neg (by omega), if_neg (by omega), if_neg (by omega)]
  · rw [at_, if_pos ⟨rfl, rfl⟩]
  · rw [at_, if_neg (by omega), if_neg (by omega), if_neg (by omega), if_pos ⟨rfl, rfl⟩]
/-- the books of a branch when one event has been added to book s -/
theorem nowV.ev {p : Nat} (hN : nowV C F ρ M f i i) (hbd : ∀ s', s' < 3 → bd M (3 * i + s')) (hs : s < 3) (hH : oK (3 * i + s) M M') (hkp : kp S F ρ ρ') (hcr : C'.1 (oBr i) = C.1 (oBr i)) (hco : ∀ s', s' < 3 → ¬ s' = s → C'.1 (oBs i s') = C.1 (oBs i s') ∧ C'.1 (oLs i s' 0) = C.1 (oLs i s' 0) ∧ C'.1 (oLs i s' 1) = C.1 (oLs i s' 1)) (hB : BK F ρ' M' (fSet f (oLs i s 1) (C.1 (oLs i s 1) 1) p) (oLs i s 0) (oLs i s 1) (C'.1 (oLs i s 0) 1) (C'.1 (oLs i s 1) 1) (C'.1 (oBs i s) 2) (C'.1 (oBs i s) 3) (C'.1 (oBs i s) 4) (3 * i + s)) : nowV C' F ρ' M' (fSet f (oLs i s 1) (C.1 (oLs i s 1) 1) p) i i := by
  refine ⟨?_, fun s' hs' => ?_⟩
  · rw [hcr, hH.1 18 (by omega), hH.1 19 (by omega)]; exact hN.1
  · by_cases hss : s' = s
    · subst hss; exact hB
    · obtain ⟨c1, c2, c3⟩ := hco s' hs' hss
      rw [c1, c2, c3]
      refine (((hN.2 s' hs').k (hH.toK (by omega) (hbd s' hs'))).kp hkp).ff (fun b _ => ?_) (fun b _ => ?_)
      · rw [fSet_ne (by unfold oLs; omega)]
      · rw [fSet_ne (by unfold oLs; omega)]
/-- one event more, written down or not -/
theorem RR.ev {p : Nat} (h : RR e S F n C M ρ f T) (hT : T < 512) (hi : i < n) (hu : C.1 (oBr i) 8 = 1) (h1 : M.1 1 i = 0) (hv : vw M i = i) (hs : s < 3) (hH : oK (3 * i + s) M M') (h2 : M'.1 2 = M.1 2) (h7 : M'.1 7 = M.1 7) (h5 : M'.1 5 (3 * i + s) = M.1 5 (3 * i + s) + 1) (h6 : M'.1 6 = M.1 6) (hok : mOK M') (hkp : kp S F ρ ρ') (hL : LLs e S F n C' ρ' (fSet f (oLs i s 1) (C.1 (oLs i s 1) 1) p)) (hcr : same4 C C' (oBr i)) (hout : ∀ x, ¬ (2 + 11 * i ≤ x ∧ x < 13 + 11 * i) → same4 C C' x) (hco : ∀ s', s' < 3 → ¬ s' = s → C'.1 (oBs i s') = C.1 (oBs i s') ∧ C'.1 (oLs i s' 0) = C.1 (oLs i s' 0) ∧ C'.1 (oLs i s' 1) = C.1 (oLs i s' 1)) (hl0 : C'.1 (oLs i s 0) 1 = C.1 (oLs i s 0) 1) (hsz : C'.1 (oLs i s 1) 1 = C.1 (oLs i s 1) 1 + 1) (hbs : ∀ k, 5 ≤ k → C'.1 (oBs i s) k = C.1 (oBs i s) k) (hB : BK F ρ' M' (fSet f (oLs i s 1) (C.1 (oLs i s 1) 1) p) (oLs i s 0) (oLs i s 1) (C'.1 (oLs i s 0) 1) (C'.1 (oLs i s 1) 1) (C'.1 (oBs i s) 2) (C'.1 (oBs i s) 3) (C'.1 (oBs i s) 4) (3 * i + s)) : RR e S F n C' M' ρ' (fSet f (oLs i s 1) (C.1 (oLs i s 1) 1) p) (T + 1) ∧ RR e S F n (cSv C' i) (mCpR M' i (i + 6)) ρ' (fSet f (oLs i s 1) (C.1 (oLs i s 1) 1) p) (T + 1) := by
  have hbd : ∀ s', s' < 3 → bd M (3 * i + s') := fun s' hs' => by have := h.bdn (by omega) hv hi hs'; exact ⟨this.1, this.2.2⟩
  have hbd6 : ∀ s', s' < 3 → bd M (3 * (i + 6) + s') := fun s' hs' => by have := h.bdd (by omega) hi hs' (Or.inr rfl); exact ⟨this.1, this.2.2⟩
  have hN := (h.now hv hi).ev hbd hs hH hkp hcr.1 hco hB
  have hBR := h.2.2.2.1 i hi
  have h1' : M'.1 1 i = 0 := by rw [hH.1 1 (by omega)]; exact h1
  have hv' : vw M' i = i := by unfold vw; rw [h1', if_pos rfl]
  have hb5 : ∀ s', s' < 3 → ∀ k, 5 ≤ k → C'.1 (oBs i s') k = C.1 (oBs i s') k := fun s' hs' k hk => by
    by_cases hss : s' = s
    · subst hss; exact hbs k hk
    · rw [(hco s' hs' hss).1]
  have hsz0 : ∀ s', s' < 3 → C.1 (oLs i s' 0) 1 ≤ C'.1 (oLs i s' 0) 1 ∧ C.1 (oLs i s' 1) 1 ≤ C'.1 (oLs i s' 1) 1 := fun s' hs' => by
    by_cases hss : s' = s
    · subst hss; omega
    · rw [(hco s' hs' hss).2.1, (hco s' hs' hss).2.2]; omega
  have hf1 : ∀ s', s' < 3 → ∀ t, t < C.1 (oBs i s') 6 → fSet f (oLs i s 1) (C.1 (oLs i s 1) 1) p (oLs i s' 1) t = f (oLs i s' 1) t := fun s' hs' t ht => by
    unfold fSet
    rw [if_neg]
    rintro ⟨e1, e2⟩
    have hss : s' = s := by unfold oLs at e1; omega
    subst hss
    have := (hBR.2.2.1 s' hs').2
    omega
  have hf0 : ∀ s', s' < 3 → ∀ t, fSet f (oLs i s 1) (C.1 (oLs i s 1) 1) p (oLs i s' 0) t = f (oLs i s' 0) t := fun s' hs' t => by
    rw [fSet_ne (by unfold oLs; omega)]
  have hfo : ∀ o, ¬ (2 + 11 * i ≤ o ∧ o < 13 + 11 * i) → fSet f (oLs i s 1) (C.1 (oLs i s 1) 1) p o = f o := fun o ho => fSet_ne (by unfold oLs; omega)
  have hoB : oB i M M' := hH.toB (by omega)
  have hI0 := h.T1.inn hi
  have hIv : ∀ x, (x = i ∨ x = i + 6) → INv M i x T → INv M' i x (T + 1) := fun x hx hI => by
    unfold INv at *
    rw [hH.1 29 (by omega), hH.1 14 (by omega), hH.1 30 (by omega), hH.1 32 (by omega), hH.1 18 (by omega), hH.1 16 (by omega), hH.1 31 (by omega), hH.1 22 (by omega), h2, h7]
    refine ⟨hI.1, fun s' hs' => ⟨?_, (hI.2.1 s' hs').2⟩, hI.2.2⟩
    have := (hI.2.1 s' hs').1
    by_cases hj : 3 * x + s' = 3 * i + s
    · rw [hj] at this ⊢; omega
    · rw [hH.2.1 5 _ (by omega) (by omega) hj]; omega
  have hIN0 : IN0 M' i (T + 1) := by
    unfold IN0 at *
    rw [hH.1 29 (by omega), hH.1 14 (by omega), hH.1 30 (by omega), hH.1 32 (by omega), hH.1 15 (by omega), hH.1 16 (by omega), hH.1 31 (by omega), hH.1 22 (by omega)]
    exact hI0.1
  have hlK : M'.1 14 i = M.1 14 i ∧ M'.1 15 i = M.1 15 i ∧ M'.1 16 i = M.1 16 i := by rw [hH.1 14 (by omega), hH.1 15 (by omega), hH.1 16 (by omega)]; exact ⟨rfl, rfl, rfl⟩
  have hLET : ∀ (D : cS), (∀ b s', b < n → s' < 3 → C.1 (oBs b s') 6 ≤ D.1 (oBs b s') 6) → evK n C f D (fSet f (oLs i s 1) (C.1 (oLs i s 1) 1) p) := fun D hD b s' hb hs' => by
    refine ⟨hD b s' hb hs', fun t ht => ?_⟩
    by_cases hbi : b = i
    · subst hbi; exact hf1 s' hs' t ht
    · rw [hfo (oLs b s' 1) (by unfold oLs; omega)]
  have hinow := h.inow hv hi
  have hLT : ∀ x, LTv M i x = LTv M' i x := fun x => by
    unfold LTv
    rw [hH.1 15 (by omega), hH.1 18 (by omega), hH.1 16 (by omega), h6]
  constructor
  · refine h.T1.brn (by omega) hi hL hok hkp hoB hout hfo ⟨by rw [hv']; exact hN, ⟨?_, fun s' hs' => ?_⟩, fun s' hs' => ?_, ⟨?_, fun r k1 k2 => ?_⟩, ?_⟩ ?_ (fun s' hs' => ⟨Nat.le_of_eq (hb5 s' hs' 6 (by omega)).symm, hf1 s' hs'⟩) (Or.inl hlK) (by rw [hv']; exact ⟨hIN0, hIv i (Or.inl rfl) hinow, hIv (i + 6) (Or.inr rfl) (h.inn hi).2.2⟩)
    · rw [hcr.1, hH.1 18 (by omega), hH.1 19 (by omega)]; exact hBR.2.1.1
    · rw [hb5 s' hs' 5 (by omega), hb5 s' hs' 6 (by omega), hb5 s' hs' 7 (by omega), hb5 s' hs' 8 (by omega), hb5 s' hs' 9 (by omega)]
      exact (((hBR.2.1.2 s' hs').k (hH.toK (by omega) (hbd6 s' hs'))).kp hkp).ff (fun b _ => hf0 s' hs' b) (hf1 s' hs')
    · rw [hb5 s' hs' 5 (by omega), hb5 s' hs' 6 (by omega)]
      have := hBR.2.2.1 s' hs'
      have := hsz0 s' hs'
      omega
    · rw [hcr.2.2.2]; exact hBR.2.2.2.1.1
    · rw [hH.1 r (by omega)]; exact hBR.2.2.2.1.2 r k1 k2
    · rw [hv', hcr.2.2.2, hH.1 14 (by omega), hH.1 15 (by omega), hH.1 16 (by omega), hH.1 17 (by omega), hH.1 18 (by omega)]
      have h5 := hBR.2.2.2.2
      rw [hv] at h5
      rcases h5 with p5 | ⟨p1, p', fr, p2, p3, p4, p5⟩
      · exact Or.inl p5
      · refine Or.inr ⟨p1, p', fr, p2, p3.mono hkp (hLET C' (fun b s' hb hs' => ?_)), by rw [← hLT]; exact p4, by rw [← hLT]; exact p5⟩
        by_cases hbi : b = i
        · subst hbi; exact Nat.le_of_eq (hb5 s' hs' 6 (by omega)).symm
        · rw [(hout (oBs b s') (by unfold oBs; omega)).1]; exact Nat.le_refl _
    · rw [hcr.1, h1']; exact hu
  · refine h.T1.saveB (by omega) hi hL hok hkp hoB hout hfo h1' (by rw [hcr.1]; exact hu) hN (fun s' hs' => ⟨?_, hf1 s' hs'⟩) ?_ (Or.inl hlK) hIN0 (hIv i (Or.inl rfl) hinow)
    · have := hBR.2.2.1 s' hs'
      have := hsz0 s' hs'
      omega
    · rw [hcr.2.2.2]
      have h5 := hBR.2.2.2.2
      rw [hv] at h5
      unfold LPn
      rw [hH.1 14 (by omega), hH.1 15 (by omega), hH.1 16 (by omega), hH.1 17 (by omega), hH.1 18 (by omega)]
      rcases h5 with ⟨p1, p2, p3, p4⟩ | ⟨p1, p', fr, p2, p3, p4, p5⟩
      · exact Or.inl ⟨p1, p2, p3⟩
      · refine Or.inr ⟨p1, p', fr, p2, p3.mono hkp (hLET _ (fun b s' hb hs' => ?_)), by rw [← hLT]; exact p4⟩
        by_cases hbi : b = i
        · subst hbi
          rw [(cSv_bs hs').2.1]
          have := hBR.2.2.1 s' hs'
          have := hsz0 s' hs'
          omega
        · rw [(cSv_out (C := C') (i := i) (x := oBs b s') (by unfold oBs; omega)).1, (hout (oBs b s') (by unfold oBs; omega)).1]; exact Nat.le_refl _
end CALL13
