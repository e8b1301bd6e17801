section CALL18
variable {g : zG} {e S F n am A B T i s q b x y u v j k : Nat} {C C' C1 : cS} {M M' M1 : mS} {ρ ρ' ρ1 : zS} {f f' : Nat → Nat → Nat}
/-- a branch has read an answer to its latest letter -/
theorem RR.rd (h : RR e S F n C M ρ f T) (hT : T ≤ 600) (hi : i < n) (hu : C.1 (oBr i) 8 = 1) (h1 : M.1 1 i = 0) (hv : vw M i = i) (hw : M.1 18 i = 1) (ht : M.1 29 i = M.1 14 i) (hok : mOK M') (hoB : oB i M M') (h1' : M'.1 1 i = 0) (hr : ∀ r, 14 ≤ r → r ≤ 17 → M'.1 r i = M.1 r i ∧ M'.1 r (i + 6) = M.1 r (i + 6)) (h18 : M'.1 18 i = 0) (h6 : M'.1 18 (i + 6) = M.1 18 (i + 6) ∧ M'.1 19 (i + 6) = M.1 19 (i + 6)) (hsk : ∀ s, s < 3 → sK M M' (3 * (i + 6) + s) (3 * (i + 6) + s)) (hkp : kp S F ρ ρ') (hL : LLs e S F n C' ρ' f') (hout : ∀ x, ¬ (2 + 11 * i ≤ x ∧ x < 13 + 11 * i) → same4 C C' x) (hfo : ∀ o, ¬ (2 + 11 * i ≤ o ∧ o < 13 + 11 * i) → f' o = f o) (hC : ∀ k, 6 ≤ k → C'.1 (oBr i) k = C.1 (oBr i) k) (hCp : C'.2.2.2 (oBr i) = C.2.2.2 (oBr i)) (hbs : ∀ s, s < 3 → ∀ k, 5 ≤ k → C'.1 (oBs i s) k = C.1 (oBs i s) k) (hsz : ∀ s, s < 3 → C.1 (oLs i s 0) 1 ≤ C'.1 (oLs i s 0) 1 ∧ C.1 (oLs i s 1) 1 ≤ C'.1 (oLs i s 1) 1) (hf : ∀ s, s < 3 → (∀ b, b < C.1 (oLs i s 0) 1 → f' (oLs i s 0) b = f (oLs i s 0) b) ∧ (∀ b, b < C.1 (oLs i s 1) 1 → f' (oLs i s 1) b = f (oLs i s 1) b)) (hN : nowV C' F ρ' M' f' i i) (hI : ∀ s, s < 3 → M'.1 5 (3 * i + s) ≤ T ∧ ∀ k, k < M'.1 2 (3 * i + s) → M'.1 7 (300 * (3 * i + s) + k) ≤ M.1 22 (3 + s)) : RR e S F n C' M' ρ' f' T := by
  have hBR := h.2.2.2.1 i hi
  have hrow := hoB.2.2.2.2.2.1
  have hv' : vw M' i = i := by unfold vw; rw [h1', if_pos rfl]
  obtain ⟨i0, i1, i2⟩ := h.inn hi
  have h16 := h.h16 hi
  have hl5 := hBR.2.2.2.2
  rw [hv] at hl5
  refine h.brn hT hi hL hok hkp hoB hout hfo ⟨by rw [hv']; exact hN, ⟨?_, fun s hs => ?_⟩, fun s hs => ?_, ⟨?_, fun r k1 k2 => ?_⟩, ?_⟩ ?_ (fun s hs => ⟨Nat.le_of_eq (hbs s hs 6 (by omega)).symm, fun t ht => (hf s hs).2 t (by have := (hBR.2.2.1 s hs).2; omega)⟩) (Or.inl ⟨(hr 14 (by omega) (by omega)).1, (hr 15 (by omega) (by omega)).1, (hr 16 (by omega) (by omega)).1⟩) ?_
  · rw [hC 6 (by omega), hC 7 (by omega), h6.1, h6.2]; exact hBR.2.1.1
  · have := hBR.2.2.1 s hs
    rw [hbs s hs 5 (by omega), hbs s hs 6 (by omega), hbs s hs 7 (by omega), hbs s hs 8 (by omega), hbs s hs 9 (by omega)]
    exact (((hBR.2.1.2 s hs).k (hsk s hs)).kp hkp).ff (fun b hb => (hf s hs).1 b (by omega)) (fun b hb => (hf s hs).2 b (by omega))
  · have := hBR.2.2.1 s hs
    have := hsz s hs
    rw [hbs s hs 5 (by omega), hbs s hs 6 (by omega)]
    omega
  · rw [hCp]; exact hBR.2.2.2.1.1
  · rw [(hr r k1 k2).1, (hr r k1 k2).2]; exact hBR.2.2.2.1.2 r k1 k2
  · rw [hv', hCp, (hr 14 (by omega) (by omega)).1, (hr 15 (by omega) (by omega)).1, (hr 16 (by omega) (by omega)).1, (hr 17 (by omega) (by omega)).1, h18, h6.1]
    rcases hl5 with ⟨p1, p2, p3, p4⟩ | ⟨p1, p, fr, p2, p3, p4, p5⟩
    · omega
    · refine Or.inr ⟨p1, p, fr, p2, p3.mono hkp (fun b s hb hs => ?_), fun _ k => ?_, fun k1 k2 => ?_⟩
      · by_cases hbi : b = i
        · subst hbi
          rw [hbs s hs 6 (by omega)]
          exact ⟨Nat.le_refl _, fun t ht => (hf s hs).2 t (by have := (hBR.2.2.1 s hs).2; omega)⟩
        · rw [(hout (oBs b s) (by unfold oBs; omega)).1]
          exact ⟨Nat.le_refl _, fun t _ => by rw [hfo (oLs b s 1) (by unfold oLs; omega)]⟩
      · rw [h18] at k; omega
      · rw [(hr 15 (by omega) (by omega)).1] at k1
        rw [h6.1] at k2
        rw [(hr 16 (by omega) (by omega)).1, (hsk _ p3.1.1).1 6 (by omega) (by omega)]
        exact p5 k1 k2
  · rw [hC 8 (by omega), h1']; exact hu
  · rw [hv']
    have e0 : ∀ r, 14 ≤ r → r ≤ 16 → M'.1 r i = M.1 r i := fun r k1 k2 => (hr r k1 (by omega)).1
    refine ⟨?_, ⟨fun _ => ?_, fun s hs => ?_, fun _ _ _ _ k => ?_⟩, ?_⟩
    · unfold IN0 at *
      rw [e0 14 (by omega) (by omega), e0 15 (by omega) (by omega), e0 16 (by omega) (by omega), hrow 29 (by omega) (by omega), hrow 30 (by omega) (by omega), hrow 31 (by omega) (by omega), hrow 32 (by omega) (by omega), hrow 22 (by omega) (by omega)]
      exact i0
    · rw [e0 14 (by omega) (by omega), hrow 29 (by omega) (by omega)]; exact ht
    · rw [hrow 22 (by omega) (by omega)]; exact hI s hs
    · rw [h18] at k; omega
    · unfold INv at *
      rw [e0 14 (by omega) (by omega), e0 16 (by omega) (by omega), h6.1, hrow 29 (by omega) (by omega), hrow 30 (by omega) (by omega), hrow 31 (by omega) (by omega), hrow 32 (by omega) (by omega), hrow 22 (by omega) (by omega)]
      refine ⟨i2.1, fun s hs => ?_, fun k0 k1 k2 k3 k4 k hk => ?_⟩
      · obtain ⟨s1, s2, s3⟩ := hsk s hs
        rw [s1 5 (by omega) (by omega), s1 2 (by omega) (by omega)]
        refine ⟨(i2.2.1 s hs).1, fun k hk => ?_⟩
        rw [(s2 k hk).1.1]; exact (i2.2.1 s hs).2 k hk
      · obtain ⟨s1, s2, s3⟩ := hsk _ (h16 k0)
        rw [s1 2 (by omega) (by omega)] at hk
        rw [(s2 k hk).1.1]; exact i2.2.2 k0 k1 k2 k3 k4 k hk
section RDB
variable {o0 o1 nb ne bu uu rp fi z : Nat} {bf bc : Nat → Nat}
theorem BKe.rp_ {rp' : Nat} (h : BKe F ρ M f o1 ne rp j) (hr : ∀ r, ¬ r = 6 → ¬ r = 18 → ¬ r = 19 → M'.1 r = M.1 r) (h2 : M'.2 = M.2) (h6 : M'.1 6 j = rp') (hle : rp' ≤ ne) : BKe F ρ M' f o1 ne rp' j := by
  obtain ⟨⟨g5, g6, g7⟩, ge, gl, go, gc, gd⟩ := h
  have e13 := hr 13 (by omega) (by omega) (by omega)
  have hlast : ∀ k, lastE M' j k ne = lastE M j k ne := fun k => lastE_K (fun t _ => by rw [e13]) ne (Nat.le_refl _)
  have hC : ∀ x, evC M' j x = evC M j x := fun x => by unfold evC; rw [h2]
  have hD : ∀ x, evD M' j x = evD M j x := fun x => by unfold evD; rw [h2, hr 12 (by omega) (by omega) (by omega)]
  unfold BKe
  rw [hr 5 (by omega) (by omega) (by omega), hr 3 (by omega) (by omega) (by omega), hr 2 (by omega) (by omega) (by omega), hr 7 (by omega) (by omega) (by omega), hr 9 (by omega) (by omega) (by omega), e13, h2]
  refine ⟨⟨g5, h6, hle⟩, fun t ht => ?_, fun k hk => ?_, go, gc, gd⟩
  · rw [hC, hD]; exact ge t ht
  · rw [hlast]; exact gl k hk
theorem pS_bd (h1 : ∀ b, b < nb → 1 ≤ bf b ∧ bf b + bc b ≤ 301) (h2 : ∀ b b', b < b' → b' < nb → bf b + bc b ≤ bf b') : (∀ b, b < nb → pS bc b + 1 ≤ bf b) ∧ pS bc nb ≤ 300 := by
  have key : ∀ b, b < nb → pS bc b + 1 ≤ bf b := by
    intro b
    induction b with
    | zero => intro hb; exact (h1 0 hb).1
    | succ b ih =>
      intro hb
      have a1 := ih (by omega)
      have a2 := h2 b (b + 1) (by omega) hb
      show pS bc b + bc b + 1 ≤ _
      omega
  refine ⟨key, ?_⟩
  cases nb with
  | zero => exact Nat.zero_le _
  | succ b =>
    have a1 := key b (by omega)
    have a2 := (h1 b (by omega)).2
    show pS bc b + bc b ≤ 300
    omega
theorem pS_ext {bc' : Nat → Nat} (h : ∀ b, b < nb → bc' b = bc b) : ∀ b, b ≤ nb → pS bc' b = pS bc b := by
  intro b
  induction b with
  | zero => intro _; rfl
  | succ b ih =>
    intro hb
    rw [pS, pS, ih (by omega), h b (by omega)]
theorem rdB_at {m r c : Nat} : (mSN (mAn (mSN M 18 b 0) j fi z) 4 j m).1 r c = if r = 4 ∧ c = j then m else if r = 2 ∧ c = j then M.1 2 j + z else if r = 9 ∧ 300 * j + M.1 2 j ≤ c ∧ c < 300 * j + M.1 2 j + z then 1 else if r = 8 ∧ 300 * j + M.1 2 j ≤ c ∧ c < 300 * j + M.1 2 j + z then M.1 4 j else if r = 7 ∧ 300 * j + M.1 2 j ≤ c ∧ c < 300 * j + M.1 2 j + z then fi + (c - (300 * j + M.1 2 j)) else if r = 18 ∧ c = b then 0 else M.1 r c := rfl
/-- the block's ends -/
theorem BKb.ends (h : BKb F ρ M f o0 nb bu uu j bf bc) (hlt : ∀ k, k < M.1 2 j → M.1 7 (300 * j + k) < fi) : ∀ b, b < nb → bf b + bc b ≤ fi := by
  intro b hb
  have hq := (h.1 b hb).2
  have h7 := (h.2.2.2 b hb (bc b - 1) (by omega)).1
  have hl : pS bc b + (bc b - 1) < M.1 2 j := by
    rw [h.2.2.1.2.1]
    have := pS_mono (bc := bc) (show b + 1 ≤ nb by omega)
    have e : pS bc (b + 1) = pS bc b + bc b := rfl
    omega
  have := hlt _ hl
  omega
theorem BKb.fit (h : BKb F ρ M f o0 nb bu uu j bf bc) (hz : 1 ≤ z ∧ 1 ≤ fi ∧ fi + z ≤ 301) (hlt : ∀ k, k < M.1 2 j → M.1 7 (300 * j + k) < fi) : M.1 2 j + z ≤ 300 ∧ M.1 4 j ≤ 300 := by
  have he := h.ends hlt
  obtain ⟨a1, a2, ⟨b4, b2, b3, b5⟩, a4⟩ := h
  rw [b2, b4]
  have hnb : nb ≤ pS bc nb := by
    have : ∀ b, b ≤ nb → b ≤ pS bc b := by
      intro b
      induction b with
      | zero => intro _; exact Nat.le_refl _
      | succ b ih =>
        intro hb
        have := ih (by omega)
        have := (a1 b (by omega)).2.1
        show b + 1 ≤ pS bc b + bc b
        omega
    exact this nb (Nat.le_refl _)
  cases nb with
  | zero =>
    have e : pS bc 0 = 0 := rfl
    omega
  | succ b =>
    have hb1 := pS_bd (nb := b + 1) (bf := bf) (bc := bc) (fun b hb => ⟨(a1 b hb).2.2.1, (a1 b hb).2.2.2⟩) a2
    have h1 := hb1.1 b (by omega)
    have h2 := he b (by omega)
    have e : pS bc (b + 1) = pS bc b + bc b := rfl
    omega
theorem BKb.blk {bq : Nat} (h : BKb F ρ M f o0 nb bu uu j bf bc) (hz : 1 ≤ z ∧ 1 ≤ fi ∧ fi + z ≤ 301) (hlt : ∀ k, k < M.1 2 j → M.1 7 (300 * j + k) < fi) (hq : isBlk F ρ bq fi z) (hkp : kp S F ρ ρ') (hfs : ∀ b, b < nb → f' o0 b = f o0 b) (hfn : f' o0 nb = bq) : BKb F ρ' (mSN (mAn (mSN M 18 b 0) j fi z) 4 j (M.1 4 j + 1)) f' o0 (nb + 1) bu uu j (fun b => if b = nb then fi else bf b) (fun b => if b = nb then z else bc b) := by
  have he := h.ends hlt
  have hown := h.own
  obtain ⟨a1, a2, ⟨b4, b2, b3, b5⟩, a4⟩ := h
  have hp : ∀ b, b ≤ nb → pS (fun b => if b = nb then z else bc b) b = pS bc b := pS_ext (fun b hb => if_neg (by omega))
  refine ⟨fun b' hb' => ?_, fun b' b'' h1 h2 => ?_, ⟨?_, ?_, ?_, ?_⟩, fun b' hb' t ht => ?_⟩
  · by_cases hbn : b' = nb
    · subst hbn
      dsimp only
      rw [if_pos rfl, if_pos rfl, hfn]
      exact ⟨hkp.ob hq, hz⟩
    · dsimp only
      rw [if_neg hbn, if_neg hbn, hfs b' (by omega)]
      exact ⟨hkp.ob (a1 b' (by omega)).1, (a1 b' (by omega)).2⟩
  · show (if b' = nb then fi else bf b') + (if b' = nb then z else bc b') ≤ if b'' = nb then fi else bf b''
    rw [if_neg (show ¬ b' = nb by omega), if_neg (show ¬ b' = nb by omega)]
    by_cases hbn : b'' = nb
    · rw [if_pos hbn]; exact he b' (by omega)
    · rw [if_neg hbn]; exact a2 b' b'' h1 (by omega)
  · rw [rdB_at, if_pos ⟨rfl, rfl⟩, b4]
  · rw [rdB_at, if_neg (by omega), if_pos ⟨rfl, rfl⟩, b2]
    show _ = pS _ nb + (if nb = nb then z else bc nb)
    rw [hp nb (Nat.le_refl _), if_pos rfl]
  · rw [rdB_at, if_neg (by omega), if_neg (by omega), if_neg (by omega), if_neg (by omega), if_neg (by omega), if_neg (by omega), hp bu (by omega)]
    exact b3
  · rcases b5 with ⟨u1, u2⟩ | ⟨u1, u2⟩
    · exact Or.inl ⟨by omega, by dsimp only; rw [if_neg (by omega)]; exact u2⟩
    · exact Or.inl ⟨by omega, by dsimp only; rw [if_pos u1]; omega⟩
  · by_cases hbn : b' = nb
    · subst hbn
      have ht' : t < z := by
        dsimp only at ht
        rw [if_pos rfl] at ht
        exact ht
      rw [hp b' (Nat.le_refl _), ← b2]
      dsimp only
      rw [if_pos rfl]
      constructor
      · rw [rdB_at, if_neg (by omega), if_neg (by omega), if_neg (by omega), if_neg (by omega), if_pos ⟨rfl, by omega, by omega⟩]
        omega
      · rw [rdB_at, if_neg (by omega), if_neg (by omega), if_neg (by omega), if_pos ⟨rfl, by omega, by omega⟩]
        exact b4
    · have ht' : t < bc b' := by
        dsimp only at ht
        rw [if_neg hbn] at ht
        exact ht
      rw [hp b' (by omega)]
      dsimp only
      rw [if_neg hbn]
      have hl : pS bc b' + t < M.1 2 j := by
        rw [b2]
        have := pS_mono (bc := bc) (show b' + 1 ≤ nb by omega)
        have e : pS bc (b' + 1) = pS bc b' + bc b' := rfl
        omega
      rw [rdB_at, rdB_at, if_neg (by omega), if_neg (by omega), if_neg (by omega), if_neg (by omega), if_neg (by omega), if_neg (by omega), if_neg (by omega), if_neg (by omega), if_neg (by omega), if_neg (by omega), if_neg (by omega), if_neg (by omega)]
      exact a4 b' (by omega) t ht'
theorem BKe.blk {m : Nat} (h : BKe F ρ M f o1 ne rp j) (hown : M.1 3 j ≤ M.1 2 j) (hkp : kp S F ρ ρ') (hfs : ∀ t, t < ne → f' o1 t = f o1 t) : BKe F ρ' (mSN (mAn (mSN M 18 b 0) j fi z) 4 j m) f' o1 ne rp j := by
  obtain ⟨⟨g5, g6, g7⟩, ge, gl, go, gc, gd⟩ := h
  have e : ∀ r, ¬ r = 2 → ¬ r = 4 → ¬ r = 7 → ¬ r = 8 → ¬ r = 9 → ¬ r = 18 → (mSN (mAn (mSN M 18 b 0) j fi z) 4 j m).1 r = M.1 r := fun r a1 a2 a3 a4 a5 a6 => by
    funext c
    rw [rdB_at, if_neg (by omega), if_neg (by omega), if_neg (by omega), if_neg (by omega), if_neg (by omega), if_neg (by omega)]
  have e2 : (mSN (mAn (mSN M 18 b 0) j fi z) 4 j m).1 2 j = M.1 2 j + z := by rw [rdB_at, if_neg (by omega), if_pos ⟨rfl, rfl⟩]
  have e13 := e 13 (by omega) (by omega) (by omega) (by omega) (by omega) (by omega)
  have hlast : ∀ k, lastE (mSN (mAn (mSN M 18 b 0) j fi z) 4 j m) j k ne = lastE M j k ne := fun k => lastE_K (fun t _ => by rw [e13]) ne (Nat.le_refl _)
  have hC : ∀ x, evC (mSN (mAn (mSN M 18 b 0) j fi z) 4 j m) j x = evC M j x := fun x => rfl
  have hD : ∀ x, evD (mSN (mAn (mSN M 18 b 0) j fi z) 4 j m) j x = evD M j x := fun x => by unfold evD; rw [e 12 (by omega) (by omega) (by omega) (by omega) (by omega) (by omega)]; rfl
  have e7 : ∀ k, k < M.1 2 j → (mSN (mAn (mSN M 18 b 0) j fi z) 4 j m).1 7 (300 * j + k) = M.1 7 (300 * j + k) := fun k hk => by
    rw [rdB_at, if_neg (by omega), if_neg (by omega), if_neg (by omega), if_neg (by omega), if_neg (by omega), if_neg (by omega)]
  refine ⟨⟨by rw [e 5 (by omega) (by omega) (by omega) (by omega) (by omega) (by omega)]; exact g5, by rw [e 6 (by omega) (by omega) (by omega) (by omega) (by omega) (by omega)]; exact g6, g7⟩, fun t ht => ?_, fun k hk => ?_, ?_, ?_, ?_⟩
  · obtain ⟨c1, c2, c3⟩ := ge t ht
    rw [e13, e 3 (by omega) (by omega) (by omega) (by omega) (by omega) (by omega), hC, hD, e7 _ (by omega), hfs t ht]
    exact ⟨c1, hkp.ob c2, c3⟩
  · rw [e2] at hk
    rw [hlast]
    by_cases hkl : k < M.1 2 j
    · rw [rdB_at, if_neg (by omega), if_neg (by omega), if_neg (by omega), if_neg (by omega), if_neg (by omega), if_neg (by omega)]
      exact gl k hkl
    · rw [rdB_at, if_neg (by omega), if_neg (by omega), if_pos ⟨rfl, by omega, by omega⟩]
      have : ∀ t, t ≤ ne → lastE M j k t = 1 := by
        intro t
        induction t with
        | zero => intro _; rfl
        | succ t ih =>
          intro ht
          have := (ge t (by omega)).1
          rw [lastE, if_neg (by omega), ih (by omega)]
      exact (this ne (Nat.le_refl _)).symm
  · rw [e13]; exact go
  · rw [e13, e 3 (by omega) (by omega) (by omega) (by omega) (by omega) (by omega)]; exact gc
  · rw [e13]; exact gd
end RDB
end CALL18
