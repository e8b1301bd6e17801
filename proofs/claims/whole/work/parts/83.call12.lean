section CALL12
variable {g : zG} {e S F n am A B T i s q b x y u v j k : Nat} {C C' : cS} {M M' : mS} {ρ ρ' : zS} {f f' : Nat → Nat → Nat}
section EV
variable {o0 o1 nb ne bu uu rp : Nat} {bf bc : Nat → Nat}
theorem BKe.app (h : BKe F ρ M f o1 ne rp j) (hown : M.1 3 j ≤ M.1 2 j) (hv : v < 2) (hk : k < M'.1 3 j) (h3 : M.1 3 j ≤ M'.1 3 j) (h3' : ∀ k', k' < M'.1 3 j → ¬ k' = k → k' < M.1 3 j) (hk2 : k < M.1 2 j) (e2 : M'.1 2 j = M.1 2 j) (e5 : M'.1 5 j = ne + 1) (e6 : M'.1 6 j = M.1 6 j) (e13 : ∀ t, t < ne → M'.1 13 (600 * j + t) = M.1 13 (600 * j + t)) (e13n : M'.1 13 (600 * j + ne) = 2 * k + v) (e9 : ∀ k', k' < M.1 2 j → ¬ k' = k → M'.1 9 (300 * j + k') = M.1 9 (300 * j + k')) (e9k : M'.1 9 (300 * j + k) = 2 + v) (e7 : ∀ k', k' < M.1 2 j → M'.1 7 (300 * j + k') = M.1 7 (300 * j + k')) (e10 : ∀ k', k' < M.1 2 j → ¬ k' = k → M'.2.2.1 10 (300 * j + k') = M.2.2.1 10 (300 * j + k') ∧ M'.2.1 11 (300 * j + k') = M.2.1 11 (300 * j + k') ∧ M'.1 12 (300 * j + k') = M.1 12 (300 * j + k')) (hold : ∀ t, t < ne → M.1 13 (600 * j + t) / 2 = k → v = 1 ∧ M.1 13 (600 * j + t) % 2 = 0 ∧ M'.2.2.1 10 (300 * j + k) = M.2.2.1 10 (300 * j + k) ∧ M'.2.1 11 (300 * j + k) = M.2.1 11 (300 * j + k)) (hv0 : v = 0 → (∃ p, 1 ≤ p ∧ p ≤ 1000000000000 ∧ M'.2.2.1 10 (300 * j + k) = zl p) ∧ M.1 3 j ≤ k) (hc0 : v = 1 → ¬ M'.2.2.1 10 (300 * j + k) = 0 → ∃ t, t < ne ∧ M.1 13 (600 * j + t) = 2 * k) (hf : ∀ t, t < ne → f' o1 t = f o1 t) (hkp : kp S F ρ ρ') (hev : isEv F ρ' (f' o1 ne) (M.1 7 (300 * j + k)) (1 - v) (evC M' j (2 * k + v)) (evD M' j (2 * k + v))) : BKe F ρ' M' f' o1 (ne + 1) rp j := by
  obtain ⟨⟨g5, g6, g7⟩, ge, gl, go, gc, gd⟩ := h
  have d1 : (2 * k + v) / 2 = k := by omega
  have d2 : (2 * k + v) % 2 = v := by omega
  refine ⟨⟨e5, by rw [e6]; exact g6, by omega⟩, fun t ht => ?_, fun k' hk' => ?_, fun t t' a1 a2 => ?_, fun k' hk' hz => ?_, fun t t' a1 a2 => ?_⟩
  · by_cases hte : t = ne
    · subst hte
      rw [e13n, d1, d2, e7 k hk2]
      exact ⟨hk, hev, fun h0 => (hv0 h0).1⟩
    · have ht2 : t < ne := by omega
      obtain ⟨c1, c2, c3⟩ := ge t ht2
      rw [e13 t ht2, hf t ht2, e7 _ (by omega)]
      refine ⟨by omega, ?_, ?_⟩
      · have hC : evC M' j (M.1 13 (600 * j + t)) = evC M j (M.1 13 (600 * j + t)) ∧ evD M' j (M.1 13 (600 * j + t)) = evD M j (M.1 13 (600 * j + t)) := by
          unfold evC evD
          by_cases hek : M.1 13 (600 * j + t) / 2 = k
          · obtain ⟨o1, o2, o3, o4⟩ := hold t ht2 hek
            rw [if_pos o2, if_pos o2, if_pos o2, if_pos o2, hek, o3, o4]
            exact ⟨rfl, rfl⟩
          · obtain ⟨o1, o2, o3⟩ := e10 _ (show M.1 13 (600 * j + t) / 2 < M.1 2 j by omega) hek
            rw [o1, o2, o3]
            exact ⟨rfl, rfl⟩
        rw [hC.1, hC.2]
        exact hkp.ob c2
      · intro h0
        obtain ⟨p, p1, p2, p3⟩ := c3 h0
        refine ⟨p, p1, p2, ?_⟩
        by_cases hek : M.1 13 (600 * j + t) / 2 = k
        · obtain ⟨o1, o2, o3, o4⟩ := hold t ht2 hek
          rw [hek] at p3 ⊢
          rw [o3]; exact p3
        · rw [(e10 _ (show M.1 13 (600 * j + t) / 2 < M.1 2 j by omega) hek).1]; exact p3
  · rw [e2] at hk'
    rw [lastE, e13n, d1, d2]
    by_cases hkk : k = k'
    · subst hkk; rw [if_pos rfl]; exact e9k
    · rw [if_neg hkk, e9 k' hk' (fun h => hkk h.symm), gl k' hk']
      exact (lastE_K e13 ne (Nat.le_refl _)).symm
  · by_cases hte : t' = ne
    · subst hte
      rw [e13n, d2, e13 t a1]
      intro b1 b2
      have := (ge t a1).1
      have := (hv0 b2).2
      omega
    · rw [e13 t (by omega), e13 t' (by omega)]
      exact go t t' a1 (by omega)
  · by_cases hkk : k' = k
    · subst hkk
      by_cases hv1 : v = 1
      · obtain ⟨t, t1, t2⟩ := hc0 hv1 hz
        exact ⟨t, by omega, by rw [e13 t t1]; exact t2⟩
      · exact ⟨ne, by omega, by rw [e13n]; omega⟩
    · rw [(e10 k' (by have := h3' k' hk' hkk; omega) hkk).1] at hz
      obtain ⟨t, t1, t2⟩ := gc k' (h3' k' hk' hkk) hz
      exact ⟨t, by omega, by rw [e13 t t1]; exact t2⟩
  · by_cases hte : t' = ne
    · subst hte
      rw [e13n, d1, d2, e13 t a1]
      intro b1
      obtain ⟨o1, o2, -⟩ := hold t a1 b1
      exact ⟨o2, o1⟩
    · rw [e13 t (by omega), e13 t' (by omega)]
      exact gd t t' a1 (by omega)
theorem BKb.same (h : BKb F ρ M f o0 nb bu uu j bf bc) (hkp : kp S F ρ ρ') (hr : ∀ r, (r = 2 ∨ r = 3 ∨ r = 4) → M'.1 r j = M.1 r j) (h7 : M'.1 7 = M.1 7) (h8 : M'.1 8 = M.1 8) (hf : ∀ b, b < nb → f' o0 b = f o0 b) : BKb F ρ' M' f' o0 nb bu uu j bf bc := by
  obtain ⟨a1, a2, a3, a4⟩ := h
  refine ⟨fun b hb => ⟨?_, (a1 b hb).2⟩, a2, ?_, ?_⟩
  · rw [hf b hb]; exact hkp.ob (a1 b hb).1
  · rw [hr 2 (by omega), hr 3 (by omega), hr 4 (by omega)]; exact a3
  · rw [h7, h8]; exact a4
theorem BKb.use (h : BKb F ρ M f o0 nb bu uu j bf bc) (hu : bu < nb) (hkp : kp S F ρ ρ') (hr : ∀ r, (r = 2 ∨ r = 4) → M'.1 r j = M.1 r j) (h3 : M'.1 3 j = M.1 3 j + 1) (h7 : M'.1 7 = M.1 7) (h8 : M'.1 8 = M.1 8) (hf : ∀ b, b < nb → f' o0 b = f o0 b) : BKb F ρ' M' f' o0 nb (if uu + 1 < bc bu then bu else bu + 1) (if uu + 1 < bc bu then uu + 1 else 0) j bf bc := by
  obtain ⟨a1, a2, ⟨b4, b2, b3, b5⟩, a4⟩ := h
  refine ⟨fun b hb => ⟨?_, (a1 b hb).2⟩, a2, ⟨?_, ?_, ?_, ?_⟩, ?_⟩
  · rw [hf b hb]; exact hkp.ob (a1 b hb).1
  · rw [hr 4 (by omega)]; exact b4
  · rw [hr 2 (by omega)]; exact b2
  · rw [h3, b3]
    by_cases hc : uu + 1 < bc bu
    · rw [if_pos hc, if_pos hc]; omega
    · rw [if_neg hc, if_neg hc]
      have e : pS bc (bu + 1) = pS bc bu + bc bu := rfl
      omega
  · by_cases hc : uu + 1 < bc bu
    · rw [if_pos hc, if_pos hc]; exact Or.inl ⟨hu, hc⟩
    · rw [if_neg hc, if_neg hc]
      by_cases hl : bu + 1 < nb
      · exact Or.inl ⟨hl, by have := (a1 _ hl).2.1; omega⟩
      · exact Or.inr ⟨by omega, rfl⟩
  · rw [h7, h8]; exact a4
theorem mTE_ch (h : BKb F ρ M f o0 nb bu uu j bf bc) (hu : bu < nb) {d : Int32} : ∀ m, pS bc bu + m ≤ M.1 3 j → (∃ k, pS bc bu ≤ k ∧ k < pS bc bu + m ∧ ¬ M.2.2.1 10 (300 * j + k) = 0 ∧ (∀ k', k < k' → k' < pS bc bu + m → M.2.2.1 10 (300 * j + k') = 0) ∧ mTE M j (M.1 3 j) d (pS bc bu + m) = if d < M.2.1 11 (300 * j + k) then 1 else 0) ∨ ((∀ k, pS bc bu ≤ k → k < pS bc bu + m → M.2.2.1 10 (300 * j + k) = 0) ∧ mTE M j (M.1 3 j) d (pS bc bu + m) = 0) := by
  have hus : M.1 8 (300 * j + M.1 3 j) = bu ∧ uu < bc bu := by
    rcases h.us with ⟨u1, u2, u3, u4⟩ | ⟨u1, -⟩
    · exact ⟨u3, u1.2⟩
    · omega
  have e3 := h.2.2.1.2.2.1
  intro m
  induction m with
  | zero =>
    intro _
    refine Or.inr ⟨fun k h1 h2 => by omega, ?_⟩
    rw [Nat.add_zero]
    cases hp : pS bc bu with
    | zero => rfl
    | succ y =>
      rw [mTE, if_neg]
      rw [hus.1]
      intro h8
      have hy : y < M.1 2 j := by have := h.own; omega
      obtain ⟨b, t, h1, h2, h3, h4, h5⟩ := h.at hy
      rw [h5] at h8
      subst h8
      omega
  | succ m ih =>
    intro hm
    have h8 : M.1 8 (300 * j + (pS bc bu + m)) = bu := (h.2.2.2 bu hu m (by omega)).2
    rw [show pS bc bu + (m + 1) = (pS bc bu + m) + 1 from rfl, mTE, h8, hus.1, if_pos rfl]
    by_cases hz : M.2.2.1 10 (300 * j + (pS bc bu + m)) = 0
    · rw [if_pos hz]
      rcases ih (by omega) with ⟨k, k1, k2, k3, k4, k5⟩ | ⟨k1, k2⟩
      · refine Or.inl ⟨k, k1, by omega, k3, fun k' h1 h2 => ?_, k5⟩
        by_cases hk : k' = pS bc bu + m
        · subst hk; exact hz
        · exact k4 k' h1 (by omega)
      · refine Or.inr ⟨fun k' h1 h2 => ?_, k2⟩
        by_cases hk : k' = pS bc bu + m
        · subst hk; exact hz
        · exact k1 k' h1 (by omega)
    · rw [if_neg hz]
      exact Or.inl ⟨pS bc bu + m, by omega, by omega, hz, fun k' h1 h2 => by omega, rfl⟩
theorem dFt_ch {en eu : Nat → Nat} {ed : Nat → Int32} {lo hi : Nat} {d : Int32} : ∀ t, (∃ t0, t0 < t ∧ (eu t0 = 1 ∧ lo ≤ en t0 ∧ en t0 < hi) ∧ (∀ t', t0 < t' → t' < t → ¬ (eu t' = 1 ∧ lo ≤ en t' ∧ en t' < hi)) ∧ dFt en eu ed lo hi d t = if d < ed t0 then 0 else 1) ∨ ((∀ t', t' < t → ¬ (eu t' = 1 ∧ lo ≤ en t' ∧ en t' < hi)) ∧ dFt en eu ed lo hi d t = 1) := by
  intro t
  induction t with
  | zero => exact Or.inr ⟨fun t' h => absurd h (Nat.not_lt_zero _), rfl⟩
  | succ t ih =>
    rw [dFt]
    by_cases hp : eu t = 1 ∧ lo ≤ en t ∧ en t < hi
    · rw [if_pos hp]
      exact Or.inl ⟨t, by omega, hp, fun t' h1 h2 => by omega, rfl⟩
    · rw [if_neg hp]
      rcases ih with ⟨t0, h1, h2, h3, h4⟩ | ⟨h1, h2⟩
      · refine Or.inl ⟨t0, by omega, h2, fun t' k1 k2 => ?_, h4⟩
        by_cases ht : t' = t
        · subst ht; exact hp
        · exact h3 t' k1 (by omega)
      · refine Or.inr ⟨fun t' k => ?_, h2⟩
        by_cases ht : t' = t
        · subst ht; exact hp
        · exact h1 t' (by omega)
theorem fits_eq (h : BKb F ρ M f o0 nb bu uu j bf bc) (he : BKe F ρ M f o1 ne rp j) (hu : bu < nb) {d : Int32} : (dFt (fun t => M.1 7 (300 * j + M.1 13 (600 * j + t) / 2)) (fun t => 1 - M.1 13 (600 * j + t) % 2) (fun t => evD M j (M.1 13 (600 * j + t))) (bf bu) (bf bu + bc bu) d ne = 1 ∧ mTE M j (M.1 3 j) d (M.1 3 j) = 0) ∨ (dFt (fun t => M.1 7 (300 * j + M.1 13 (600 * j + t) / 2)) (fun t => 1 - M.1 13 (600 * j + t) % 2) (fun t => evD M j (M.1 13 (600 * j + t))) (bf bu) (bf bu + bc bu) d ne = 0 ∧ mTE M j (M.1 3 j) d (M.1 3 j) = 1) := by
  have ho := h.own
  have e3 := h.2.2.1.2.2.1
  have huu : uu < bc bu := by
    rcases h.us with ⟨u1, -⟩ | ⟨u1, -⟩
    · exact u1.2
    · omega
  have hP : ∀ t, t < ne → ((1 - M.1 13 (600 * j + t) % 2 = 1 ∧ bf bu ≤ M.1 7 (300 * j + M.1 13 (600 * j + t) / 2) ∧ M.1 7 (300 * j + M.1 13 (600 * j + t) / 2) < bf bu + bc bu) ↔ (M.1 13 (600 * j + t) % 2 = 0 ∧ pS bc bu ≤ M.1 13 (600 * j + t) / 2)) := by
    intro t ht
    have h1 := (he.2.1 t ht).1
    obtain ⟨b, t2, b1, b2, b3, b4, b5⟩ := h.at (show M.1 13 (600 * j + t) / 2 < M.1 2 j by omega)
    rw [b4]
    have hq := (h.1 b b1).2
    have hq2 := (h.1 bu hu).2
    constructor
    · rintro ⟨k1, k2, k3⟩
      refine ⟨by omega, ?_⟩
      rcases Nat.lt_trichotomy b bu with hb | hb | hb
      · have := h.2.1 b bu hb hu; omega
      · subst hb; omega
      · have := h.2.1 bu b hb b1; omega
    · rintro ⟨k1, k2⟩
      have hb : b = bu := by
        rcases Nat.lt_trichotomy b bu with hb | hb | hb
        · have e : pS bc (b + 1) = pS bc b + bc b := rfl
          have := pS_mono (bc := bc) (show b + 1 ≤ bu by omega)
          omega
        · exact hb
        · have e : pS bc (bu + 1) = pS bc bu + bc bu := rfl
          have := pS_mono (bc := bc) (show bu + 1 ≤ b by omega)
          omega
      subst hb
      omega
  have hm := mTE_ch h hu (d := d) uu (by omega)
  rw [← e3] at hm
  have hnz : ∀ t, t < ne → M.1 13 (600 * j + t) % 2 = 0 → ¬ M.2.2.1 10 (300 * j + M.1 13 (600 * j + t) / 2) = 0 := by
    intro t ht h0 hz
    obtain ⟨p, p1, p2, p3⟩ := (he.2.1 t ht).2.2 h0
    rw [p3, zl_l0, zl_eq (by omega) (by omega)] at hz
    omega
  rcases dFt_ch (en := fun t => M.1 7 (300 * j + M.1 13 (600 * j + t) / 2)) (eu := fun t => 1 - M.1 13 (600 * j + t) % 2) (ed := fun t => evD M j (M.1 13 (600 * j + t))) (lo := bf bu) (hi := bf bu + bc bu) (d := d) ne with ⟨t0, t1, t2, t3, t4⟩ | ⟨t1, t2⟩
  · have t2' := (hP t0 t1).mp t2
    have hlt := (he.2.1 t0 t1).1
    have hn0 := hnz t0 t1 t2'.1
    rcases hm with ⟨k, k1, k2, k3, k4, k5⟩ | ⟨k1, k2⟩
    · have hkk : M.1 13 (600 * j + t0) / 2 = k := by
        rcases Nat.lt_trichotomy (M.1 13 (600 * j + t0) / 2) k with hb | hb | hb
        · obtain ⟨t', c1, c2⟩ := he.2.2.2.2.1 k k2 k3
          have hP' : ¬ t0 < t' := fun hlt2 => t3 t' hlt2 c1 ((hP t' c1).mpr ⟨by omega, by omega⟩)
          have hne : ¬ t' = t0 := fun h => by subst h; omega
          have := he.2.2.2.1 t' t0 (by omega) t1 (by omega) t2'.1
          omega
        · exact hb
        · exact absurd (k4 _ hb hlt) hn0
      have hed : evD M j (M.1 13 (600 * j + t0)) = M.2.1 11 (300 * j + k) := by unfold evD; rw [if_pos t2'.1, hkk]
      rw [t4, k5]
      show ((if d < evD M j (M.1 13 (600 * j + t0)) then 0 else 1) = 1 ∧ _) ∨ ((if d < evD M j (M.1 13 (600 * j + t0)) then 0 else 1) = 0 ∧ _)
      rw [hed]
      by_cases hd : d < M.2.1 11 (300 * j + k)
      · rw [if_pos hd, if_pos hd]; exact Or.inr ⟨rfl, rfl⟩
      · rw [if_neg hd, if_neg hd]; exact Or.inl ⟨rfl, rfl⟩
    · exact absurd (k1 _ t2'.2 hlt) hn0
  · rcases hm with ⟨k, k1, k2, k3, k4, k5⟩ | ⟨k1, k2⟩
    · obtain ⟨t', c1, c2⟩ := he.2.2.2.2.1 k k2 k3
      exact absurd ((hP t' c1).mpr ⟨by omega, by omega⟩) (t1 t' c1)
    · exact Or.inl ⟨t2, k2⟩
end EV
end CALL12
