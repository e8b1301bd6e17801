section CALL9
variable {g : zG} {e S F n am A B T i s q b x y u v j : Nat} {C C' : cS} {M M' : mS} {ρ ρ' : zS} {f f' : Nat → Nat → Nat}
theorem sK.trans {M'' : mS} {j' j'' : Nat} (h : sK M M' j j') (h' : sK M' M'' j' j'') : sK M M'' j j'' := by
  obtain ⟨a1, a2, a3⟩ := h
  obtain ⟨b1, b2, b3⟩ := h'
  have e2 := a1 2 (by omega) (by omega)
  have e5 := a1 5 (by omega) (by omega)
  refine ⟨fun r h1 h2 => (b1 r h1 h2).trans (a1 r h1 h2), fun k hk => ?_, fun t ht => (b3 t (by omega)).trans (a3 t ht)⟩
  obtain ⟨⟨c1, c2, c3, c4⟩, c5, c6⟩ := a2 k hk
  obtain ⟨⟨d1, d2, d3, d4⟩, d5, d6⟩ := b2 k (by omega)
  exact ⟨⟨d1.trans c1, d2.trans c2, d3.trans c3, d4.trans c4⟩, d5.trans c5, d6.trans c6⟩
theorem mCpK_n {r k : Nat} (h : 2 ≤ r ∧ r ≤ 6) : (mCpK M u v).1 r k = if k = v then M.1 r u else M.1 r k := by
  show cpf [13] (cpf [7, 8, 9, 12] (cpf [2, 3, 4, 5, 6] M.1 v u 1) (300 * v) (300 * u) (M.1 2 u)) (600 * v) (600 * u) (M.1 5 u) r k = _
  have hm : r ∈ [2, 3, 4, 5, 6] := by simp only [List.mem_cons, List.not_mem_nil, or_false]; omega
  have n1 : ¬ r ∈ [13] := by simp only [List.mem_cons, List.not_mem_nil, or_false]; omega
  have n2 : ¬ r ∈ [7, 8, 9, 12] := by simp only [List.mem_cons, List.not_mem_nil, or_false]; omega
  unfold cpf
  rw [if_neg (nIn n1), if_neg (nIn n2)]
  by_cases hk : k = v
  · rw [if_pos hk, if_pos ⟨hm, by omega, by omega⟩, show u + (k - v) = u by omega]
  · rw [if_neg hk, if_neg (by omega)]
theorem mCpK_b {r k : Nat} (h : r = 7 ∨ r = 8 ∨ r = 9 ∨ r = 12) : (mCpK M u v).1 r k = if 300 * v ≤ k ∧ k < 300 * v + M.1 2 u then M.1 r (300 * u + (k - 300 * v)) else M.1 r k := by
  show cpf [13] (cpf [7, 8, 9, 12] (cpf [2, 3, 4, 5, 6] M.1 v u 1) (300 * v) (300 * u) (M.1 2 u)) (600 * v) (600 * u) (M.1 5 u) r k = _
  have hm : r ∈ [7, 8, 9, 12] := by simp only [List.mem_cons, List.not_mem_nil, or_false]; omega
  have n1 : ¬ r ∈ [13] := by simp only [List.mem_cons, List.not_mem_nil, or_false]; omega
  have n2 : ¬ r ∈ [2, 3, 4, 5, 6] := by simp only [List.mem_cons, List.not_mem_nil, or_false]; omega
  have h0 : ∀ c, cpf [2, 3, 4, 5, 6] M.1 v u 1 r c = M.1 r c := fun c => by unfold cpf; rw [if_neg (nIn n2)]
  by_cases hk : 300 * v ≤ k ∧ k < 300 * v + M.1 2 u
  · rw [if_pos hk]; unfold cpf; rw [if_neg (nIn n1), if_pos ⟨hm, hk⟩]; exact h0 _
  · rw [if_neg hk]; unfold cpf; rw [if_neg (nIn n1), if_neg (fun h => hk h.2)]; exact h0 _
theorem mCpK_e {k : Nat} : (mCpK M u v).1 13 k = if 600 * v ≤ k ∧ k < 600 * v + M.1 5 u then M.1 13 (600 * u + (k - 600 * v)) else M.1 13 k := by
  show cpf [13] (cpf [7, 8, 9, 12] (cpf [2, 3, 4, 5, 6] M.1 v u 1) (300 * v) (300 * u) (M.1 2 u)) (600 * v) (600 * u) (M.1 5 u) 13 k = _
  have h0 : ∀ c, cpf [7, 8, 9, 12] (cpf [2, 3, 4, 5, 6] M.1 v u 1) (300 * v) (300 * u) (M.1 2 u) 13 c = M.1 13 c := fun c => by unfold cpf; rw [if_neg (nIn (by simp)), if_neg (nIn (by simp))]
  by_cases hk : 600 * v ≤ k ∧ k < 600 * v + M.1 5 u
  · rw [if_pos hk]
    show (if 13 ∈ [13] ∧ _ then cpf _ _ _ _ _ 13 _ else _) = _
    rw [if_pos ⟨by simp, hk⟩]; exact h0 _
  · rw [if_neg hk]
    show (if 13 ∈ [13] ∧ _ then _ else cpf _ _ _ _ _ 13 _) = _
    rw [if_neg (fun h => hk h.2)]; exact h0 _
theorem mCpK_o {r : Nat} (h : r < 2 ∨ 14 ≤ r) : (mCpK M u v).1 r = M.1 r := by
  funext k
  show cpf [13] (cpf [7, 8, 9, 12] (cpf [2, 3, 4, 5, 6] M.1 v u 1) (300 * v) (300 * u) (M.1 2 u)) (600 * v) (600 * u) (M.1 5 u) r k = _
  unfold cpf
  rw [if_neg, if_neg, if_neg]
  · rintro ⟨h1, -⟩; simp only [List.mem_cons, List.not_mem_nil, or_false] at h1; omega
  · rintro ⟨h1, -⟩; simp only [List.mem_cons, List.not_mem_nil, or_false] at h1; omega
  · rintro ⟨h1, -⟩; simp only [List.mem_cons, List.not_mem_nil, or_false] at h1; omega
theorem mCpK_I {r k : Nat} : (mCpK M u v).2.1 r k = if r = 11 ∧ 300 * v ≤ k ∧ k < 300 * v + M.1 2 u then M.2.1 11 (300 * u + (k - 300 * v)) else M.2.1 r k := by
  show cpf [] (cpf [11] (cpf [] M.2.1 v u 1) (300 * v) (300 * u) (M.1 2 u)) (600 * v) (600 * u) (M.1 5 u) r k = _
  have h0 : ∀ a c, cpf [] M.2.1 v u 1 a c = M.2.1 a c := fun a c => by unfold cpf; rw [if_neg (nIn (by simp))]
  by_cases hk : r = 11 ∧ 300 * v ≤ k ∧ k < 300 * v + M.1 2 u
  · rw [if_pos hk]; unfold cpf; rw [if_neg (nIn (by simp)), if_pos ⟨by rw [hk.1]; simp, hk.2⟩, hk.1]; exact h0 _ _
  · rw [if_neg hk]; unfold cpf; rw [if_neg (nIn (by simp)), if_neg (fun h => hk ⟨by simpa using h.1, h.2⟩)]; exact h0 _ _
theorem mCpK_L {r k : Nat} : (mCpK M u v).2.2.1 r k = if r = 10 ∧ 300 * v ≤ k ∧ k < 300 * v + M.1 2 u then M.2.2.1 10 (300 * u + (k - 300 * v)) else M.2.2.1 r k := by
  show cpf [] (cpf [10] (cpf [] M.2.2.1 v u 1) (300 * v) (300 * u) (M.1 2 u)) (600 * v) (600 * u) (M.1 5 u) r k = _
  have h0 : ∀ a c, cpf [] M.2.2.1 v u 1 a c = M.2.2.1 a c := fun a c => by unfold cpf; rw [if_neg (nIn (by simp))]
  by_cases hk : r = 10 ∧ 300 * v ≤ k ∧ k < 300 * v + M.1 2 u
  · rw [if_pos hk]; unfold cpf; rw [if_neg (nIn (by simp)), if_pos ⟨by rw [hk.1]; simp, hk.2⟩, hk.1]; exact h0 _ _
  · rw [if_neg hk]; unfold cpf; rw [if_neg (nIn (by simp)), if_neg (fun h => hk ⟨by simpa using h.1, h.2⟩)]; exact h0 _ _
theorem cpK_to : sK M (mCpK M u v) u v := by
  refine ⟨fun r h1 h2 => by rw [mCpK_n ⟨h1, h2⟩, if_pos rfl], fun k hk => ⟨⟨?_, ?_, ?_, ?_⟩, ?_, ?_⟩, fun t ht => ?_⟩
  · rw [mCpK_b (by omega), if_pos (by omega), show 300 * v + k - 300 * v = k by omega]
  · rw [mCpK_b (by omega), if_pos (by omega), show 300 * v + k - 300 * v = k by omega]
  · rw [mCpK_b (by omega), if_pos (by omega), show 300 * v + k - 300 * v = k by omega]
  · rw [mCpK_b (by omega), if_pos (by omega), show 300 * v + k - 300 * v = k by omega]
  · rw [mCpK_I, if_pos ⟨rfl, by omega, by omega⟩, show 300 * v + k - 300 * v = k by omega]
  · rw [mCpK_L, if_pos ⟨rfl, by omega, by omega⟩, show 300 * v + k - 300 * v = k by omega]
  · rw [mCpK_e, if_pos (by omega), show 600 * v + t - 600 * v = t by omega]
def bd (M : mS) (j : Nat) : Prop := M.1 2 j ≤ 300 ∧ M.1 5 j ≤ 600
theorem bd.k {j' : Nat} (h : bd M j) (hk : sK M M' j j') : bd M' j' := by
  unfold bd
  rw [hk.1 2 (by omega) (by omega), hk.1 5 (by omega) (by omega)]
  exact h
theorem cpK_st (hj : ¬ j = v) (h1 : bd M j) (h2 : bd M u) : sK M (mCpK M u v) j j := by
  obtain ⟨a1, a2⟩ := h1
  obtain ⟨b1, b2⟩ := h2
  refine ⟨fun r h1 h2 => by rw [mCpK_n ⟨h1, h2⟩, if_neg hj], fun k hk => ⟨⟨?_, ?_, ?_, ?_⟩, ?_, ?_⟩, fun t ht => ?_⟩
  · rw [mCpK_b (by omega), if_neg (by omega)]
  · rw [mCpK_b (by omega), if_neg (by omega)]
  · rw [mCpK_b (by omega), if_neg (by omega)]
  · rw [mCpK_b (by omega), if_neg (by omega)]
  · rw [mCpK_I, if_neg (by omega)]
  · rw [mCpK_L, if_neg (by omega)]
  · rw [mCpK_e, if_neg (by omega)]
theorem cpR0_1 {r k : Nat} : (mCp [14, 15, 16, 17, 18, 19] [] [] M v u 1).1 r k = if (14 ≤ r ∧ r ≤ 19) ∧ k = v then M.1 r u else M.1 r k := by
  show cpf [14, 15, 16, 17, 18, 19] M.1 v u 1 r k = _
  unfold cpf
  by_cases h : (14 ≤ r ∧ r ≤ 19) ∧ k = v
  · have hm : r ∈ [14, 15, 16, 17, 18, 19] := by simp only [List.mem_cons, List.not_mem_nil, or_false]; omega
    rw [if_pos h, if_pos ⟨hm, by omega, by omega⟩, show u + (k - v) = u by omega]
  · rw [if_neg h, if_neg]
    rintro ⟨h1, h2⟩
    simp only [List.mem_cons, List.not_mem_nil, or_false] at h1
    omega
theorem cpR0_2 : (mCp [14, 15, 16, 17, 18, 19] [] [] M v u 1).2.1 = M.2.1 ∧ (mCp [14, 15, 16, 17, 18, 19] [] [] M v u 1).2.2.1 = M.2.2.1 := by
  constructor <;> funext a c
  · show cpf [] M.2.1 v u 1 a c = _; unfold cpf; rw [if_neg (nIn (by simp))]
  · show cpf [] M.2.2.1 v u 1 a c = _; unfold cpf; rw [if_neg (nIn (by simp))]
theorem cpR0_k : sK M (mCp [14, 15, 16, 17, 18, 19] [] [] M v u 1) j j := by
  have hr : ∀ r, r < 14 → (mCp [14, 15, 16, 17, 18, 19] [] [] M v u 1).1 r = M.1 r := fun r hr => by funext k; rw [cpR0_1, if_neg (by omega)]
  exact ⟨fun r h1 h2 => by rw [hr r (by omega)], fun _ _ => ⟨⟨by rw [hr 7 (by omega)], by rw [hr 8 (by omega)], by rw [hr 9 (by omega)], by rw [hr 12 (by omega)]⟩, by rw [cpR0_2.1], by rw [cpR0_2.2]⟩, fun _ _ => by rw [hr 13 (by omega)]⟩
/-- copy x of a branch stands as copy y -/
theorem cpR_k (hxy : ¬ x = y) (hb : ∀ s, s < 3 → bd M (3 * x + s)) (hs : s < 3) : sK M (mCpR M x y) (3 * x + s) (3 * y + s) ∧ sK M (mCpR M x y) (3 * x + s) (3 * x + s) := by
  unfold mCpR
  have k0 : ∀ j, sK M (mCp [14, 15, 16, 17, 18, 19] [] [] M y x 1) j j := fun j => cpR0_k
  generalize hM0 : mCp [14, 15, 16, 17, 18, 19] [] [] M y x 1 = M0 at k0
  have b0 : ∀ s, s < 3 → bd M0 (3 * x + s) := fun s hs => (hb s hs).k (k0 _)
  have t1 : sK M0 (mCpK M0 (3 * x) (3 * y)) (3 * x) (3 * y) := cpK_to
  have s1 : ∀ s, s < 3 → sK M0 (mCpK M0 (3 * x) (3 * y)) (3 * x + s) (3 * x + s) := fun s hs => cpK_st (by omega) (b0 s hs) (b0 0 (by omega))
  generalize hM1 : mCpK M0 (3 * x) (3 * y) = M1 at t1 s1
  have b1 : ∀ s, s < 3 → bd M1 (3 * x + s) := fun s hs => (b0 s hs).k (s1 s hs)
  have c1 : bd M1 (3 * y) := (b0 0 (by omega)).k t1
  have t2 : sK M1 (mCpK M1 (3 * x + 1) (3 * y + 1)) (3 * x + 1) (3 * y + 1) := cpK_to
  have s2 : ∀ s, s < 3 → sK M1 (mCpK M1 (3 * x + 1) (3 * y + 1)) (3 * x + s) (3 * x + s) := fun s hs => cpK_st (by omega) (b1 s hs) (b1 1 (by omega))
  have r2 : sK M1 (mCpK M1 (3 * x + 1) (3 * y + 1)) (3 * y) (3 * y) := cpK_st (by omega) c1 (b1 1 (by omega))
  generalize hM2 : mCpK M1 (3 * x + 1) (3 * y + 1) = M2 at t2 s2 r2
  have b2 : ∀ s, s < 3 → bd M2 (3 * x + s) := fun s hs => (b1 s hs).k (s2 s hs)
  have c2 : bd M2 (3 * y) := c1.k r2
  have d2 : bd M2 (3 * y + 1) := (b1 1 (by omega)).k t2
  have t3 : sK M2 (mCpK M2 (3 * x + 2) (3 * y + 2)) (3 * x + 2) (3 * y + 2) := cpK_to
  have s3 : ∀ s, s < 3 → sK M2 (mCpK M2 (3 * x + 2) (3 * y + 2)) (3 * x + s) (3 * x + s) := fun s hs => cpK_st (by omega) (b2 s hs) (b2 2 (by omega))
  have r3 : sK M2 (mCpK M2 (3 * x + 2) (3 * y + 2)) (3 * y) (3 * y) := cpK_st (by omega) c2 (b2 2 (by omega))
  have q3 : sK M2 (mCpK M2 (3 * x + 2) (3 * y + 2)) (3 * y + 1) (3 * y + 1) := cpK_st (by omega) d2 (b2 2 (by omega))
  refine ⟨?_, (((k0 _).trans (s1 s hs)).trans (s2 s hs)).trans (s3 s hs)⟩
  rcases (show s = 0 ∨ s = 1 ∨ s = 2 by omega) with rfl | rfl | rfl
  · exact ((((k0 (3 * x)).trans t1).trans r2).trans r3)
  · exact ((((k0 (3 * x + 1)).trans (s1 1 (by omega))).trans t2).trans q3)
  · exact ((((k0 (3 * x + 2)).trans (s1 2 (by omega))).trans (s2 2 (by omega))).trans t3)
theorem cpR_r {r k : Nat} (hr : r < 2 ∨ 14 ≤ r) : (mCpR M x y).1 r k = if (14 ≤ r ∧ r ≤ 19) ∧ k = y then M.1 r x else M.1 r k := by
  unfold mCpR
  rw [mCpK_o hr, mCpK_o hr, mCpK_o hr, cpR0_1]
theorem oB.k (hv : v / 3 = i ∨ v / 3 = i + 6) (hb : bd M u) : oB i M (mCpK M u v) := by
  obtain ⟨b1, b2⟩ := hb
  refine ⟨fun k h => by rw [mCpK_o (by omega)], fun r k h1 h2 h3 h4 => ?_, fun r k h1 h2 h3 => ?_, fun k h1 h2 => ?_, fun r k h1 h2 h3 h4 => by rw [mCpK_o (by omega)], fun r h1 h2 => mCpK_o (by omega), fun k h1 h2 => ?_, ?_, fun k h1 h2 => ?_, ?_, rfl, rfl⟩
  · rw [mCpK_n ⟨h1, h2⟩, if_neg (by rintro rfl; omega)]
  · rw [mCpK_b h1, if_neg (by omega)]
  · rw [mCpK_e, if_neg (by omega)]
  · rw [mCpK_I, if_neg (by omega)]
  · funext k; rw [mCpK_I, if_neg (by omega)]
  · rw [mCpK_L, if_neg (by omega)]
  · funext k; rw [mCpK_L, if_neg (by omega)]
theorem oB.r (hy : y = i ∨ y = i + 6) (hxy : ¬ x = y) (hb : ∀ s, s < 3 → bd M (3 * x + s)) : oB i M (mCpR M x y) := by
  unfold mCpR
  have k0 : ∀ j, sK M (mCp [14, 15, 16, 17, 18, 19] [] [] M y x 1) j j := fun j => cpR0_k
  have o0 : oB i M (mCp [14, 15, 16, 17, 18, 19] [] [] M y x 1) := by
    refine ⟨fun k h => ?_, fun r k h1 h2 h3 h4 => ?_, fun r k h1 h2 h3 => ?_, fun k h1 h2 => ?_, fun r k h1 h2 h3 h4 => ?_, fun r h1 h2 => ?_, fun k h1 h2 => by rw [cpR0_2.1], by rw [cpR0_2.1], fun k h1 h2 => by rw [cpR0_2.2], by rw [cpR0_2.2], rfl, rfl⟩
    · rw [cpR0_1, if_neg (by omega)]
    · rw [cpR0_1, if_neg (by omega)]
    · rw [cpR0_1, if_neg (by omega)]
    · rw [cpR0_1, if_neg (by omega)]
    · rw [cpR0_1, if_neg (by omega)]
    · funext k; rw [cpR0_1, if_neg (by omega)]
  generalize hM0 : mCp [14, 15, 16, 17, 18, 19] [] [] M y x 1 = M0 at k0 o0
  have b0 : ∀ s, s < 3 → bd M0 (3 * x + s) := fun s hs => (hb s hs).k (k0 _)
  have s1 : ∀ s, s < 3 → sK M0 (mCpK M0 (3 * x) (3 * y)) (3 * x + s) (3 * x + s) := fun s hs => cpK_st (by omega) (b0 s hs) (b0 0 (by omega))
  have o1 : oB i M0 (mCpK M0 (3 * x) (3 * y)) := oB.k (by omega) (b0 0 (by omega))
  generalize hM1 : mCpK M0 (3 * x) (3 * y) = M1 at s1 o1
  have b1 : ∀ s, s < 3 → bd M1 (3 * x + s) := fun s hs => (b0 s hs).k (s1 s hs)
  have s2 : ∀ s, s < 3 → sK M1 (mCpK M1 (3 * x + 1) (3 * y + 1)) (3 * x + s) (3 * x + s) := fun s hs => cpK_st (by omega) (b1 s hs) (b1 1 (by omega))
  have o2 : oB i M1 (mCpK M1 (3 * x + 1) (3 * y + 1)) := oB.k (by omega) (b1 1 (by omega))
  generalize hM2 : mCpK M1 (3 * x + 1) (3 * y + 1) = M2 at s2 o2
  have b2 : ∀ s, s < 3 → bd M2 (3 * x + s) := fun s hs => (b1 s hs).k (s2 s hs)
  exact ((o0.trans o1).trans o2).trans (oB.k (by omega) (b2 2 (by omega)))
/-- what a branch knows of its latest letter -/
def LPn (F : Nat) (ρ : zS) (C : cS) (M : mS) (f : Nat → Nat → Nat) (n i x : Nat) (r : Option Nat) : Prop := (M.1 14 i = 0 ∧ r = none ∧ M.1 18 x = 0) ∨ (1 ≤ M.1 14 i ∧ ∃ p fr, r = some p ∧ LET F ρ f C n p (M.1 15 i) i (M.1 14 i) (M.1 16 i) (M.1 17 i) fr ∧ LTv M i x fr)
theorem IN.cpR (hb : ∀ s, s < 3 → bd M (3 * i + s)) (h16 : 1 ≤ M.1 14 i → M.1 16 i < 3) (h0 : IN0 M i T) (h1 : INv M i i T) : IN0 (mCpR M i (i + 6)) i T ∧ INv (mCpR M i (i + 6)) i i T ∧ INv (mCpR M i (i + 6)) i (i + 6) T := by
  have hr : ∀ r k, 14 ≤ r → ¬ k = i + 6 → (mCpR M i (i + 6)).1 r k = M.1 r k := fun r k h1 h2 => by rw [cpR_r (by omega), if_neg (by omega)]
  have hO : ∀ r k, 20 ≤ r → (mCpR M i (i + 6)).1 r k = M.1 r k := fun r k h1 => by rw [cpR_r (by omega), if_neg (by omega)]
  have h18 : (mCpR M i (i + 6)).1 18 (i + 6) = M.1 18 i := by rw [cpR_r (by omega), if_pos ⟨by omega, rfl⟩]
  have key : ∀ x, (x = i ∨ x = i + 6) → (mCpR M i (i + 6)).1 18 x = M.1 18 i → (∀ s, s < 3 → sK M (mCpR M i (i + 6)) (3 * i + s) (3 * x + s)) → INv (mCpR M i (i + 6)) i x T := fun x hx e18 hk => by
    unfold INv at *
    rw [e18, hO 29 i (by omega), hO 30 i (by omega), hO 31 i (by omega), hO 32 i (by omega), hr 14 i (by omega) (by omega), hr 16 i (by omega) (by omega)]
    refine ⟨h1.1, fun s hs => ?_, fun k0 k1 k2 k3 k4 k hk1 => ?_⟩
    · obtain ⟨s1, s2, s3⟩ := hk s hs
      rw [s1 5 (by omega) (by omega), s1 2 (by omega) (by omega), hO 22 _ (by omega)]
      refine ⟨(h1.2.1 s hs).1, fun k hk => ?_⟩
      rw [(s2 k hk).1.1]; exact (h1.2.1 s hs).2 k hk
    · obtain ⟨s1, s2, s3⟩ := hk _ (h16 k0)
      rw [s1 2 (by omega) (by omega)] at hk1
      rw [(s2 k hk1).1.1]; exact h1.2.2 k0 k1 k2 k3 k4 k hk1
  refine ⟨?_, key i (Or.inl rfl) (hr 18 i (by omega) (by omega)) (fun s hs => (cpR_k (by omega) hb hs).2), key (i + 6) (Or.inr rfl) h18 (fun s hs => (cpR_k (by omega) hb hs).1)⟩
  unfold IN0 at *
  rw [hO 29 i (by omega), hO 30 i (by omega), hO 31 i (by omega), hO 32 i (by omega), hr 14 i (by omega) (by omega), hr 15 i (by omega) (by omega), hr 16 i (by omega) (by omega), hO 22 _ (by omega)]
  exact h0
theorem BR.save (hup : M.1 1 i = 0) (hN : nowV C F ρ M f i i) (hb : ∀ s, s < 3 → bd M (3 * i + s)) (hP : LPn F ρ (cSv C i) M f n i i (C.2.2.2 (oBr i) 2)) : BR F ρ (cSv C i) (mCpR M i (i + 6)) f n i := by
  have hr : ∀ r, 14 ≤ r → r ≤ 19 → (mCpR M i (i + 6)).1 r i = M.1 r i ∧ (mCpR M i (i + 6)).1 r (i + 6) = M.1 r i := fun r h1 h2 => by rw [cpR_r (by omega), cpR_r (by omega), if_neg (by omega), if_pos ⟨by omega, rfl⟩]; exact ⟨rfl, rfl⟩
  have h1i : (mCpR M i (i + 6)).1 1 i = 0 := by rw [cpR_r (by omega), if_neg (by omega)]; exact hup
  have hv : vw (mCpR M i (i + 6)) i = i := by unfold vw; rw [h1i, if_pos rfl]
  have c3 : (cSv C i).1 (oBr i) 3 = C.1 (oBr i) 3 := cSv_fr (fun _ => by omega) (fun s hs h => by unfold oBr oBs at h; omega)
  have c4 : (cSv C i).1 (oBr i) 4 = C.1 (oBr i) 4 := cSv_fr (fun _ => by omega) (fun s hs h => by unfold oBr oBs at h; omega)
  have c6 := cSv_br (C := C) (i := i)
  have cl : ∀ s k, s < 3 → k < 2 → (cSv C i).1 (oLs i s k) 1 = C.1 (oLs i s k) 1 := fun s k hs hk => cSv_fr (fun h => by unfold oBr oLs at h; omega) (fun s' hs' h => by unfold oBs oLs at h; omega)
  have cb : ∀ s k, s < 3 → k < 5 → (cSv C i).1 (oBs i s) k = C.1 (oBs i s) k := fun s k hs hk => cSv_fr (fun h => by unfold oBr oBs at h; omega) (fun s' hs' h => hk)
  have c2 : (cSv C i).2.2.2 (oBr i) 2 = C.2.2.2 (oBr i) 2 := cSv_fp (fun _ => by omega)
  have cs := fun s (hs : s < 3) => cSv_bs (C := C) (i := i) hs
  refine ⟨⟨?_, fun s hs => ?_⟩, ⟨?_, fun s hs => ?_⟩, fun s hs => ?_, ⟨?_, fun r h1 h2 => ?_⟩, ?_⟩
  · rw [hv, c3, c4, (hr 18 (by omega) (by omega)).1, (hr 19 (by omega) (by omega)).1]; exact hN.1
  · rw [hv, cl s 0 hs (by omega), cl s 1 hs (by omega), cb s 2 hs (by omega), cb s 3 hs (by omega), cb s 4 hs (by omega)]
    exact (hN.2 s hs).k (cpR_k (by omega) hb hs).2
  · rw [c6.1, c6.2.1, (hr 18 (by omega) (by omega)).2, (hr 19 (by omega) (by omega)).2]; exact hN.1
  · obtain ⟨s5, s6, s7, s8, s9⟩ := cs s hs
    rw [s5, s6, s7, s8, s9]
    exact (hN.2 s hs).k (cpR_k (by omega) hb hs).1
  · obtain ⟨s5, s6, s7, s8, s9⟩ := cs s hs
    rw [s5, s6, cl s 0 hs (by omega), cl s 1 hs (by omega)]
    exact ⟨Nat.le_refl _, Nat.le_refl _⟩
  · rw [c6.2.2, c2]
  · rw [(hr r h1 (by omega)).1, (hr r h1 (by omega)).2]
  · rw [hv, c2, (hr 18 (by omega) (by omega)).1, (hr 18 (by omega) (by omega)).2, (hr 14 (by omega) (by omega)).1, (hr 15 (by omega) (by omega)).1, (hr 16 (by omega) (by omega)).1, (hr 17 (by omega) (by omega)).1]
    rcases hP with ⟨p1, p2, p3⟩ | ⟨p1, p, fr, p2, p3, p4⟩
    · exact Or.inl ⟨p1, p2, p3, p3⟩
    · refine Or.inr ⟨p1, p, fr, p2, p3, ?_, ?_⟩
      · intro k1 k2
        rw [(hr 15 (by omega) (by omega)).1] at k1
        rw [(hr 18 (by omega) (by omega)).1] at k2
        rw [(hr 16 (by omega) (by omega)).1, (cpR_k (by omega) hb p3.1.1).2.1 6 (by omega) (by omega)]
        exact p4 k1 k2
      · intro k1 k2
        rw [(hr 15 (by omega) (by omega)).1] at k1
        rw [(hr 18 (by omega) (by omega)).2] at k2
        rw [(hr 16 (by omega) (by omega)).1, (cpR_k (by omega) hb p3.1.1).1.1 6 (by omega) (by omega)]
        exact p4 k1 k2
theorem cSv_out {x : Nat} (h : ¬ (2 + 11 * i ≤ x ∧ x < 13 + 11 * i)) : same4 C (cSv C i) x := by
  refine ⟨funext (fun k => cSv_fr (fun h2 => by unfold oBr at h2; omega) (fun s hs h2 => by unfold oBs at h2; omega)), by rw [cSv_2.1], by rw [cSv_2.2], funext (fun k => cSv_fp (fun h2 => by unfold oBr at h2; omega))⟩
/-- branch i has changed, and writes down what it knows -/
theorem RR.saveB {C0 : cS} {M0 : mS} {f0 : Nat → Nat → Nat} (h : RR e S F n C0 M0 ρ f0 T) (hT : T ≤ 600) (hi : i < n) (hL : LLs e S F n C ρ' f) (hok : mOK M) (hk : kp S F ρ ρ') (hm : oB i M0 M) (hc : ∀ x, ¬ (2 + 11 * i ≤ x ∧ x < 13 + 11 * i) → same4 C0 C x) (hf : ∀ o, ¬ (2 + 11 * i ≤ o ∧ o < 13 + 11 * i) → f o = f0 o) (hup : M.1 1 i = 0) (hU : C.1 (oBr i) 8 = 1) (hN : nowV C F ρ' M f i i) (hev : ∀ s, s < 3 → C0.1 (oBs i s) 6 ≤ C.1 (oLs i s 1) 1 ∧ ∀ t, t < C0.1 (oBs i s) 6 → f (oLs i s 1) t = f0 (oLs i s 1) t) (hP : LPn F ρ' (cSv C i) M f n i i (C.2.2.2 (oBr i) 2)) (hl : (M.1 14 i = M0.1 14 i ∧ M.1 15 i = M0.1 15 i ∧ M.1 16 i = M0.1 16 i) ∨ M0.1 14 i < M.1 14 i) (h0 : IN0 M i T) (h1 : INv M i i T) : RR e S F n (cSv C i) (mCpR M i (i + 6)) ρ' f T := by
  have hb : ∀ s, s < 3 → bd M (3 * i + s) := fun s hs => ⟨(hN.2 s hs).own.1, by have := (h1.2.1 s hs).1; omega⟩
  have hr : ∀ r, 14 ≤ r → r ≤ 19 → (mCpR M i (i + 6)).1 r i = M.1 r i := fun r h1 h2 => by rw [cpR_r (by omega), if_neg (by omega)]
  have h1i : (mCpR M i (i + 6)).1 1 i = 0 := by rw [cpR_r (by omega), if_neg (by omega)]; exact hup
  have h16 : 1 ≤ M.1 14 i → M.1 16 i < 3 := fun h2 => by
    rcases hP with ⟨p1, -⟩ | ⟨-, p, fr, -, p3, -⟩
    · omega
    · exact p3.1.1
  have hI := IN.cpR (T := T) hb h16 h0 h1
  have hv : vw (mCpR M i (i + 6)) i = i := by unfold vw; rw [h1i, if_pos rfl]
  refine h.brn hT hi (hL.sv hi) (mOK.r hok) hk (hm.trans (oB.r (Or.inr rfl) (by omega) hb)) (fun x hx => (hc x hx).trans (cSv_out hx)) hf (BR.save hup hN hb hP) ?_ (fun s hs => ?_) ?_ (by rw [hv]; exact hI)
  · rw [h1i, cSv_fr (fun _ => by omega) (fun s hs h => by unfold oBr oBs at h; omega)]; exact hU
  · rw [(cSv_bs (C := C) (i := i) hs).2.1]; exact hev s hs
  · rw [hr 14 (by omega) (by omega), hr 15 (by omega) (by omega), hr 16 (by omega) (by omega)]; exact hl
end CALL9
