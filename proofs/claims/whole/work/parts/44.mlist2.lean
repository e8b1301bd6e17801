section MLIST2
variable {g : zG} {am : Nat} {M : mS} {ρ : zS} {l : List Nat}
theorem mPt_1 : (mPt M l).1 = M.1 := rfl
theorem mPt_21 : (mPt M l).2.1 = M.2.1 := rfl
theorem mPt_221 : (mPt M l).2.2.1 = M.2.2.1 := rfl
theorem mPt_f : (mPt M l).2.2.2.2 = fnd l (M.2.2.2.1 37) := rfl
theorem mPt_sum {s b n : Nat} : mSum (mPt M l) s b n = mSum M s b n := by
  induction n with
  | zero => rfl
  | succ n ih =>
    rw [mSum, mSum, ih]
    rfl
theorem mPt_OK (h : mOK M) : mOK (mPt M l) := h.set2 rfl
theorem zi_l46 : (46 : Int32) = zi 46 := rfl
theorem zi_l84 : (84 : Int32) = zi 84 := rfl
theorem zi_l85 : (85 : Int32) = zi 85 := rfl
theorem zi_l86 : (86 : Int32) = zi 86 := rfl
theorem zi_l76 : (76 : Int32) = zi 76 := rfl
theorem mSum_nat {s : Nat} {N : Nat} (h : ∀ k, k < N → M.1 23 (300 * s + k) = 2 → ∃ p, p ≤ 1000000000000 ∧ M.2.2.1 25 (300 * s + k) = zl p) : ∃ p, p ≤ 1000000000000 * N ∧ mSum M s 6 N = zl p := by
  induction N with
  | zero => exact ⟨0, Nat.zero_le _, rfl⟩
  | succ N ih =>
    obtain ⟨p, h1, h2⟩ := ih (fun k hk => h k (by omega))
    rw [mSum, h2]
    by_cases hf : M.1 23 (300 * s + N) = 2
    · obtain ⟨q, h3, h4⟩ := h N (by omega) hf
      rw [if_pos ⟨hf, Or.inl rfl⟩, h4, zl_add]
      exact ⟨p + q, by omega, rfl⟩
    · rw [if_neg (fun w => hf w.1)]
      exact ⟨p, by omega, by rw [zl_l0, zl_add]; rfl⟩
theorem M_lb1 {s k n : Nat} {x : Int32} (hs : s < 3) (hg : M.1 22 s ≤ 300) (hk : k < M.1 22 s) (hM : mOK M) (h37 : M.2.2.2.1 37 < 2147483648) (hl : l.length + 200 < 2147483648) (hp : M.1 23 (300 * s + k) = 2 → ∃ p, p ≤ 1000000000000 ∧ M.2.2.1 25 (300 * s + k) = zl p) : s_Mo_listByte_81 g (n + 1) am (zi s) x (zi (k + 1)) (mW am (mPt M l) ρ) = s_Mo_listByte_81 g n am (zi s) x (zi (k + 1 + 1)) (mW am (mPt M (l ++ tLin M s k)) ρ) := by
  have e : 300 * s + (k + 1) - 1 = 300 * s + k := by omega
  have e3 := hM.b31 23 (300 * s + k)
  have e7 := hM.b128 (j := 27) (by decide) (300 * s + k)
  have b1 := tN_len (v := k + 1)
  have b4 := tN_len (v := M.1 27 (300 * s + k))
  have w1 : (zi (k + 1)).toInt64 = zl (k + 1) := zi_i64 (by omega)
  have w2 : (zi (M.1 27 (300 * s + k))).toInt64 = zl (M.1 27 (300 * s + k)) := zi_i64 (by omega)
  rw [s_Mo_listByte_81]
  by_cases h2 : M.1 23 (300 * s + k) = 2
  · obtain ⟨p, hp1, hp2⟩ := hp h2
    have b2 := tMon_len (v := p)
    obtain ⟨a, ha, hx⟩ := zi_l64c (M.2.1 26 (300 * s + k))
    have qd : ∀ l : List Nat, l.length + 21 < 2147483648 → s_Mo_digits g am (M.2.1 26 (300 * s + k)).toInt64 (mW am (mPt M l) ρ) = some (mW am (mPt M (l ++ tI (M.2.1 26 (300 * s + k)).toInt64)) ρ) := fun l hl => M_digits hx (by omega) h37 hl
    have b3 := tI_len (x := (M.2.1 26 (300 * s + k)).toInt64)
    simp (config := { maxSteps := 2000000 }) (disch := (first | omega | (simp only [List.length_append, List.length_cons, List.length_nil]; omega))) only [mPt_1, mPt_21, mPt_221, s_Mo_at, e, w1, M_digN, M_put, M_money, h2, s_Mo_listByte_146, s_Mo_listByte_189, s_Mo_listByte_218, zi_l85, hp2, qd, m_is, m_g0, m_g1, m_g2, m_g3, m_g4, m_g5, m_g6, m_g7, m_g8, m_g9, m_g10, m_g11, m_g12, m_g13, m_g14, m_g15, m_g16, m_g17, m_g18, m_g19, m_g20, m_g21, m_g22, m_g23, m_g24, m_g25, m_g26, m_g27, m_g28, m_g29, m_g30, m_g31, m_g32, m_g33, m_g34, m_g35, m_g36, m_g37, m_g38, m_g39, m_p0, m_p34, m_p37, m_p38, m_p39, m_r1, m_w1, m_r2, m_w2, m_r3, m_w3, m_r4, m_w4, m_r5, m_w5, m_r6, m_w6, m_r7, m_w7, m_r8, m_w8, m_r9, m_w9, m_r10, m_w10, m_r11, m_w11, m_r12, m_w12, m_r13, m_w13, m_r14, m_w14, m_r15, m_w15, m_r16, m_w16, m_r17, m_w17, m_r18, m_w18, m_r19, m_w19, m_r20, m_w20, m_r21, m_w21, m_r22, m_w22, m_r23, m_w23, m_r24, m_w24, m_r25, m_w25, m_r26, m_w26, m_r27, m_w27, m_r28, m_w28, m_r29, m_w29, m_r30, m_w30, m_r31, m_w31, m_r32, m_w32, m_r33, m_w33, m_r34, m_w34, mSN_at, mSN_2, mSI_1, mSI_at, mSI_22, mSL_1, mSL_21, mSL_at, mSL_222, mSs_1, mSs_21, mSs_221, mSs_at, mSs_f, mSf_1, mSf_21, mSf_221, mSf_s, mSf_f, zi_l0, zi_l1, zi_l2, zi_l3, zi_l4, zi_l5, zi_l6, zi_l7, zi_l8, zi_l9, zi_l10, zi_l12, zi_l18, zi_l20, zi_l30, zi_l32, zi_l36, zi_l48, zi_l64, zi_l99, zi_l100, zi_l300, zi_l512, zi_l600, zi_l900, zi_l1800, zi_l9999, Option.bind_some, zi_lt0, zi_ge0, zi_01, zi_add, zi_mul, zi_sub, zi_lt, zi_le, zi_eq, zi_bool, zi_byte, zi_short, zi_t8, zi_t16, nlt_T, nlt_F, nle_T, nle_F, neq_T, neq_F, ↓reduceIte, or_true, true_or, and_self, and_true, true_and, and_false, false_and, or_false, false_or, or_self, not_true_eq_false, not_false_eq_true]
    unfold tLin
    rw [if_pos h2, hp2, zl_nat (by omega)]
    simp only [List.append_assoc, List.cons_append, List.nil_append]
  · by_cases h3 : M.1 23 (300 * s + k) = 3
    · simp (config := { maxSteps := 2000000 }) (disch := (first | omega | (simp only [List.length_append, List.length_cons, List.length_nil]; omega))) only [mPt_1, mPt_21, mPt_221, s_Mo_at, e, w1, w2, M_digN, M_put, M_money, h3, s_Mo_listByte_146, s_Mo_listByte_189, s_Mo_listByte_218, zi_l86, m_is, m_g0, m_g1, m_g2, m_g3, m_g4, m_g5, m_g6, m_g7, m_g8, m_g9, m_g10, m_g11, m_g12, m_g13, m_g14, m_g15, m_g16, m_g17, m_g18, m_g19, m_g20, m_g21, m_g22, m_g23, m_g24, m_g25, m_g26, m_g27, m_g28, m_g29, m_g30, m_g31, m_g32, m_g33, m_g34, m_g35, m_g36, m_g37, m_g38, m_g39, m_p0, m_p34, m_p37, m_p38, m_p39, m_r1, m_w1, m_r2, m_w2, m_r3, m_w3, m_r4, m_w4, m_r5, m_w5, m_r6, m_w6, m_r7, m_w7, m_r8, m_w8, m_r9, m_w9, m_r10, m_w10, m_r11, m_w11, m_r12, m_w12, m_r13, m_w13, m_r14, m_w14, m_r15, m_w15, m_r16, m_w16, m_r17, m_w17, m_r18, m_w18, m_r19, m_w19, m_r20, m_w20, m_r21, m_w21, m_r22, m_w22, m_r23, m_w23, m_r24, m_w24, m_r25, m_w25, m_r26, m_w26, m_r27, m_w27, m_r28, m_w28, m_r29, m_w29, m_r30, m_w30, m_r31, m_w31, m_r32, m_w32, m_r33, m_w33, m_r34, m_w34, mSN_at, mSN_2, mSI_1, mSI_at, mSI_22, mSL_1, mSL_21, mSL_at, mSL_222, mSs_1, mSs_21, mSs_221, mSs_at, mSs_f, mSf_1, mSf_21, mSf_221, mSf_s, mSf_f, zi_l0, zi_l1, zi_l2, zi_l3, zi_l4, zi_l5, zi_l6, zi_l7, zi_l8, zi_l9, zi_l10, zi_l12, zi_l18, zi_l20, zi_l30, zi_l32, zi_l36, zi_l48, zi_l64, zi_l99, zi_l100, zi_l300, zi_l512, zi_l600, zi_l900, zi_l1800, zi_l9999, Option.bind_some, zi_lt0, zi_ge0, zi_01, zi_add, zi_mul, zi_sub, zi_lt, zi_le, zi_eq, zi_bool, zi_byte, zi_short, zi_t8, zi_t16, nlt_T, nlt_F, nle_T, nle_F, neq_T, neq_F, ↓reduceIte, or_true, true_or, and_self, and_true, true_and, and_false, false_and, or_false, false_or, or_self, not_true_eq_false, not_false_eq_true]
      unfold tLin
      rw [if_neg h2, if_pos h3]
      simp only [List.append_assoc, List.cons_append, List.nil_append]
    · simp (config := { maxSteps := 2000000 }) (disch := (first | omega | (simp only [List.length_append, List.length_cons, List.length_nil]; omega))) only [mPt_1, mPt_21, mPt_221, s_Mo_at, e, w1, w2, M_digN, M_put, M_money, s_Mo_listByte_146, s_Mo_listByte_189, s_Mo_listByte_218, zi_l76, m_is, m_g0, m_g1, m_g2, m_g3, m_g4, m_g5, m_g6, m_g7, m_g8, m_g9, m_g10, m_g11, m_g12, m_g13, m_g14, m_g15, m_g16, m_g17, m_g18, m_g19, m_g20, m_g21, m_g22, m_g23, m_g24, m_g25, m_g26, m_g27, m_g28, m_g29, m_g30, m_g31, m_g32, m_g33, m_g34, m_g35, m_g36, m_g37, m_g38, m_g39, m_p0, m_p34, m_p37, m_p38, m_p39, m_r1, m_w1, m_r2, m_w2, m_r3, m_w3, m_r4, m_w4, m_r5, m_w5, m_r6, m_w6, m_r7, m_w7, m_r8, m_w8, m_r9, m_w9, m_r10, m_w10, m_r11, m_w11, m_r12, m_w12, m_r13, m_w13, m_r14, m_w14, m_r15, m_w15, m_r16, m_w16, m_r17, m_w17, m_r18, m_w18, m_r19, m_w19, m_r20, m_w20, m_r21, m_w21, m_r22, m_w22, m_r23, m_w23, m_r24, m_w24, m_r25, m_w25, m_r26, m_w26, m_r27, m_w27, m_r28, m_w28, m_r29, m_w29, m_r30, m_w30, m_r31, m_w31, m_r32, m_w32, m_r33, m_w33, m_r34, m_w34, mSN_at, mSN_2, mSI_1, mSI_at, mSI_22, mSL_1, mSL_21, mSL_at, mSL_222, mSs_1, mSs_21, mSs_221, mSs_at, mSs_f, mSf_1, mSf_21, mSf_221, mSf_s, mSf_f, zi_l0, zi_l1, zi_l2, zi_l3, zi_l4, zi_l5, zi_l6, zi_l7, zi_l8, zi_l9, zi_l10, zi_l12, zi_l18, zi_l20, zi_l30, zi_l32, zi_l36, zi_l48, zi_l64, zi_l99, zi_l100, zi_l300, zi_l512, zi_l600, zi_l900, zi_l1800, zi_l9999, Option.bind_some, zi_lt0, zi_ge0, zi_01, zi_add, zi_mul, zi_sub, zi_lt, zi_le, zi_eq, zi_bool, zi_byte, zi_short, zi_t8, zi_t16, nlt_T, nlt_F, nle_T, nle_F, neq_T, neq_F, ↓reduceIte, or_true, true_or, and_self, and_true, true_and, and_false, false_and, or_false, false_or, or_self, not_true_eq_false, not_false_eq_true]
      unfold tLin
      rw [if_neg h2, if_neg h3]
      simp only [List.append_assoc, List.cons_append, List.nil_append]
theorem M_lb0 {s n : Nat} {x : Int32} (hs : s < 3) (hg : M.1 22 s ≤ 300) (hM : mOK M) (h37 : M.2.2.2.1 37 < 2147483648) (hl : l.length + 200 < 2147483648) (hp : ∀ k, k < M.1 22 s → M.1 23 (300 * s + k) = 2 → ∃ p, p ≤ 1000000000000 ∧ M.2.2.1 25 (300 * s + k) = zl p) : s_Mo_listByte_81 g (n + 1) am (zi s) x (zi (M.1 22 s + 1)) (mW am (mPt M l) ρ) = some (fnd (l ++ ([84, 32] ++ (tMon (mSum M s 6 (M.1 22 s)).toNatClampNeg ++ (tN (M.1 21 s) ++ [10])))) (M.2.2.2.1 37), mW am (mPt M (l ++ ([84, 32] ++ (tMon (mSum M s 6 (M.1 22 s)).toNatClampNeg ++ (tN (M.1 21 s) ++ [10]))))) ρ) := by
  obtain ⟨p, hp1, hp2⟩ := mSum_nat hp
  have e := hM.b31 21 s
  have b1 := tN_len (v := M.1 21 s)
  have b2 := tMon_len (v := p)
  have w1 : (zi (M.1 21 s)).toInt64 = zl (M.1 21 s) := zi_i64 (by omega)
  have qs : ∀ l : List Nat, s_Mo_sum g am (zi s) (zi 6) (mW am (mPt M l) ρ) = some (zl p, mW am (mPt M l) ρ) := by
    intro l
    have q := M_sum (g := g) (am := am) (M := mPt M l) (ρ := ρ) (s := s) (b := 6) hs (by decide) hg (mPt_OK hM)
    rw [mPt_sum, mPt_1, hp2] at q
    exact q
  rw [s_Mo_listByte_81, hp2, zl_nat (by omega)]
  simp (config := { maxSteps := 2000000 }) (disch := (first | omega | (simp only [List.length_append, List.length_cons, List.length_nil]; omega))) only [mPt_1, mPt_21, mPt_221, M_digN, M_put, M_money, zi_l84, qs, w1, mPt_f, m_is, m_g0, m_g1, m_g2, m_g3, m_g4, m_g5, m_g6, m_g7, m_g8, m_g9, m_g10, m_g11, m_g12, m_g13, m_g14, m_g15, m_g16, m_g17, m_g18, m_g19, m_g20, m_g21, m_g22, m_g23, m_g24, m_g25, m_g26, m_g27, m_g28, m_g29, m_g30, m_g31, m_g32, m_g33, m_g34, m_g35, m_g36, m_g37, m_g38, m_g39, m_p0, m_p34, m_p37, m_p38, m_p39, m_r1, m_w1, m_r2, m_w2, m_r3, m_w3, m_r4, m_w4, m_r5, m_w5, m_r6, m_w6, m_r7, m_w7, m_r8, m_w8, m_r9, m_w9, m_r10, m_w10, m_r11, m_w11, m_r12, m_w12, m_r13, m_w13, m_r14, m_w14, m_r15, m_w15, m_r16, m_w16, m_r17, m_w17, m_r18, m_w18, m_r19, m_w19, m_r20, m_w20, m_r21, m_w21, m_r22, m_w22, m_r23, m_w23, m_r24, m_w24, m_r25, m_w25, m_r26, m_w26, m_r27, m_w27, m_r28, m_w28, m_r29, m_w29, m_r30, m_w30, m_r31, m_w31, m_r32, m_w32, m_r33, m_w33, m_r34, m_w34, mSN_at, mSN_2, mSI_1, mSI_at, mSI_22, mSL_1, mSL_21, mSL_at, mSL_222, mSs_1, mSs_21, mSs_221, mSs_at, mSs_f, mSf_1, mSf_21, mSf_221, mSf_s, mSf_f, zi_l0, zi_l1, zi_l2, zi_l3, zi_l4, zi_l5, zi_l6, zi_l7, zi_l8, zi_l9, zi_l10, zi_l12, zi_l18, zi_l20, zi_l30, zi_l32, zi_l36, zi_l48, zi_l64, zi_l99, zi_l100, zi_l300, zi_l512, zi_l600, zi_l900, zi_l1800, zi_l9999, Option.bind_some, zi_lt0, zi_ge0, zi_01, zi_add, zi_mul, zi_sub, zi_lt, zi_le, zi_eq, zi_bool, zi_byte, zi_short, zi_t8, zi_t16, nlt_T, nlt_F, nle_T, nle_F, neq_T, neq_F, ↓reduceIte, or_true, true_or, and_self, and_true, true_and, and_false, false_and, or_false, false_or, or_self, not_true_eq_false, not_false_eq_true]
  simp only [List.append_assoc, List.cons_append, List.nil_append]
theorem M_lb {s : Nat} {x : Int32} (hs : s < 3) (hg : M.1 22 s ≤ 300) (hM : mOK M) (h37 : M.2.2.2.1 37 < 2147483648) (hp : ∀ k, k < M.1 22 s → M.1 23 (300 * s + k) = 2 → ∃ p, p ≤ 1000000000000 ∧ M.2.2.1 25 (300 * s + k) = zl p) : ∀ (m n fuel : Nat), n + m = M.1 22 s → m < fuel → s_Mo_listByte_81 g fuel am (zi s) x (zi (n + 1)) (mW am (mPt M (tLs M s n)) ρ) = some (fnd (tAll M s) (M.2.2.2.1 37), mW am (mPt M (tAll M s)) ρ) := by
  intro m
  induction m with
  | zero =>
    intro n fuel h2 h3
    obtain ⟨fuel, rfl⟩ : ∃ k, fuel = k + 1 := ⟨fuel - 1, by omega⟩
    have e : n = M.1 22 s := by omega
    have b := tLs_len (M := M) (s := s) n
    rw [e] at b
    rw [e]
    exact M_lb0 hs hg hM h37 (by omega) hp
  | succ m ih =>
    intro n fuel h2 h3
    obtain ⟨fuel, rfl⟩ : ∃ k, fuel = k + 1 := ⟨fuel - 1, by omega⟩
    have b := tLs_len (M := M) (s := s) n
    rw [M_lb1 hs hg (by omega) hM h37 (by omega) (hp n (by omega))]
    exact ih (n + 1) fuel (by omega) (by omega)
theorem tLs_s {s n w : Nat} : tLs (mSs (mSs M 0 0) 37 w) s n = tLs M s n := by
  induction n with
  | zero => rfl
  | succ n ih =>
    rw [tLs, tLs, ih]
    rfl
theorem mSum_s37 {s b n w : Nat} : mSum (mSs (mSs M 0 0) 37 w) s b n = mSum M s b n := by
  induction n with
  | zero => rfl
  | succ n ih =>
    rw [mSum, mSum, ih]
    rfl
theorem tAll_s {s w : Nat} : tAll (mSs (mSs M 0 0) 37 w) s = tAll M s := by
  unfold tAll
  rw [tLs_s, mSum_s37]
  rfl
theorem M_listByteO {s : Nat} {z : Int32} (hn : M.2.2.2.1 1 ≤ 6) (hd : M.1 1 (M.2.2.2.1 1) = 0) (hs : s < 3) (hM : mOK M) (ho : ¬ M.1 20 s = 2) : s_Mo_listByte g am (zi s) z (mW am M ρ) = some (-1, mW am (mSs M 0 0) ρ) := by
  have e := hM.b31 20 s
  unfold s_Mo_listByte
  simp (config := { maxSteps := 2000000 }) (disch := omega) only [s_Mo_listByte_18, s_Mo_listByte_50, s_Mo_listByte_63, hd, M_isSeries, m_is, m_g0, m_g1, m_g2, m_g3, m_g4, m_g5, m_g6, m_g7, m_g8, m_g9, m_g10, m_g11, m_g12, m_g13, m_g14, m_g15, m_g16, m_g17, m_g18, m_g19, m_g20, m_g21, m_g22, m_g23, m_g24, m_g25, m_g26, m_g27, m_g28, m_g29, m_g30, m_g31, m_g32, m_g33, m_g34, m_g35, m_g36, m_g37, m_g38, m_g39, m_p0, m_p34, m_p37, m_p38, m_p39, m_r1, m_w1, m_r2, m_w2, m_r3, m_w3, m_r4, m_w4, m_r5, m_w5, m_r6, m_w6, m_r7, m_w7, m_r8, m_w8, m_r9, m_w9, m_r10, m_w10, m_r11, m_w11, m_r12, m_w12, m_r13, m_w13, m_r14, m_w14, m_r15, m_w15, m_r16, m_w16, m_r17, m_w17, m_r18, m_w18, m_r19, m_w19, m_r20, m_w20, m_r21, m_w21, m_r22, m_w22, m_r23, m_w23, m_r24, m_w24, m_r25, m_w25, m_r26, m_w26, m_r27, m_w27, m_r28, m_w28, m_r29, m_w29, m_r30, m_w30, m_r31, m_w31, m_r32, m_w32, m_r33, m_w33, m_r34, m_w34, mSN_at, mSN_2, mSI_1, mSI_at, mSI_22, mSL_1, mSL_21, mSL_at, mSL_222, mSs_1, mSs_21, mSs_221, mSs_at, mSs_f, mSf_1, mSf_21, mSf_221, mSf_s, mSf_f, zi_l0, zi_l1, zi_l2, zi_l3, zi_l4, zi_l5, zi_l6, zi_l7, zi_l8, zi_l9, zi_l10, zi_l12, zi_l18, zi_l20, zi_l30, zi_l32, zi_l36, zi_l48, zi_l64, zi_l99, zi_l100, zi_l300, zi_l512, zi_l600, zi_l900, zi_l1800, zi_l9999, Option.bind_some, zi_lt0, zi_ge0, zi_01, zi_add, zi_mul, zi_sub, zi_lt, zi_le, zi_eq, zi_bool, zi_byte, zi_short, zi_t8, zi_t16, nlt_T, nlt_F, nle_T, nle_F, neq_T, neq_F, ↓reduceIte, or_true, true_or, and_self, and_true, true_and, and_false, false_and, or_false, false_or, or_self, not_true_eq_false, not_false_eq_true]
theorem M_listByteI {s : Nat} {z : Int32} (hn : M.2.2.2.1 1 ≤ 6) (hd : M.1 1 (M.2.2.2.1 1) = 0) (hs : s < 3) (ho : M.1 20 s = 2) (hz : z < 0) : s_Mo_listByte g am (zi s) z (mW am M ρ) = some (-1, mW am (mSs M 0 0) ρ) := by
  have h2 : ¬ 0 ≤ z := fun q => absurd (Int32.lt_of_lt_of_le hz q) (Int32.lt_irrefl)
  unfold s_Mo_listByte s_Mo_listByte_18
  simp only [if_neg h2]
  simp (config := { maxSteps := 2000000 }) (disch := omega) only [s_Mo_listByte_50, s_Mo_listByte_63, hd, M_isSeries, ho, m_is, m_g0, m_g1, m_g2, m_g3, m_g4, m_g5, m_g6, m_g7, m_g8, m_g9, m_g10, m_g11, m_g12, m_g13, m_g14, m_g15, m_g16, m_g17, m_g18, m_g19, m_g20, m_g21, m_g22, m_g23, m_g24, m_g25, m_g26, m_g27, m_g28, m_g29, m_g30, m_g31, m_g32, m_g33, m_g34, m_g35, m_g36, m_g37, m_g38, m_g39, m_p0, m_p34, m_p37, m_p38, m_p39, m_r1, m_w1, m_r2, m_w2, m_r3, m_w3, m_r4, m_w4, m_r5, m_w5, m_r6, m_w6, m_r7, m_w7, m_r8, m_w8, m_r9, m_w9, m_r10, m_w10, m_r11, m_w11, m_r12, m_w12, m_r13, m_w13, m_r14, m_w14, m_r15, m_w15, m_r16, m_w16, m_r17, m_w17, m_r18, m_w18, m_r19, m_w19, m_r20, m_w20, m_r21, m_w21, m_r22, m_w22, m_r23, m_w23, m_r24, m_w24, m_r25, m_w25, m_r26, m_w26, m_r27, m_w27, m_r28, m_w28, m_r29, m_w29, m_r30, m_w30, m_r31, m_w31, m_r32, m_w32, m_r33, m_w33, m_r34, m_w34, mSN_at, mSN_2, mSI_1, mSI_at, mSI_22, mSL_1, mSL_21, mSL_at, mSL_222, mSs_1, mSs_21, mSs_221, mSs_at, mSs_f, mSf_1, mSf_21, mSf_221, mSf_s, mSf_f, zi_l0, zi_l1, zi_l2, zi_l3, zi_l4, zi_l5, zi_l6, zi_l7, zi_l8, zi_l9, zi_l10, zi_l12, zi_l18, zi_l20, zi_l30, zi_l32, zi_l36, zi_l48, zi_l64, zi_l99, zi_l100, zi_l300, zi_l512, zi_l600, zi_l900, zi_l1800, zi_l9999, Option.bind_some, zi_lt0, zi_ge0, zi_01, zi_add, zi_mul, zi_sub, zi_lt, zi_le, zi_eq, zi_bool, zi_byte, zi_short, zi_t8, zi_t16, nlt_T, nlt_F, nle_T, nle_F, neq_T, neq_F, ↓reduceIte, or_true, true_or, and_self, and_true, true_and, and_false, false_and, or_false, false_or, or_self, not_true_eq_false, not_false_eq_true]
theorem M_listByte {s i : Nat} (hn : M.2.2.2.1 1 ≤ 6) (hd : M.1 1 (M.2.2.2.1 1) = 0) (hs : s < 3) (ho : M.1 20 s = 2) (hi : i < 2147483648) (hg : M.1 22 s ≤ 300) (hM : mOK M) (hp : ∀ k, k < M.1 22 s → M.1 23 (300 * s + k) = 2 → ∃ p, p ≤ 1000000000000 ∧ M.2.2.1 25 (300 * s + k) = zl p) : s_Mo_listByte g am (zi s) (zi i) (mW am M ρ) = some (fnd (tAll M s) i, mW am (mPt (mSs (mSs M 0 0) 37 i) (tAll M s)) ρ) := by
  have q := M_lb (g := g) (am := am) (M := mSs (mSs M 0 0) 37 i) (ρ := ρ) (x := zi i) hs hg (hM.set2 rfl) hi hp (M.1 22 s) 0 zfuel (by show 0 + M.1 22 s = M.1 22 s; omega) (by unfold zfuel; omega)
  have e : (mSs (mSs M 0 0) 37 i).2.2.2.1 37 = i := rfl
  rw [tAll_s, e] at q
  unfold s_Mo_listByte s_Mo_listByte_18
  simp (config := { maxSteps := 2000000 }) (disch := omega) only [hd, M_isSeries, ho, m_is, m_g0, m_g1, m_g2, m_g3, m_g4, m_g5, m_g6, m_g7, m_g8, m_g9, m_g10, m_g11, m_g12, m_g13, m_g14, m_g15, m_g16, m_g17, m_g18, m_g19, m_g20, m_g21, m_g22, m_g23, m_g24, m_g25, m_g26, m_g27, m_g28, m_g29, m_g30, m_g31, m_g32, m_g33, m_g34, m_g35, m_g36, m_g37, m_g38, m_g39, m_p0, m_p34, m_p37, m_p38, m_p39, m_r1, m_w1, m_r2, m_w2, m_r3, m_w3, m_r4, m_w4, m_r5, m_w5, m_r6, m_w6, m_r7, m_w7, m_r8, m_w8, m_r9, m_w9, m_r10, m_w10, m_r11, m_w11, m_r12, m_w12, m_r13, m_w13, m_r14, m_w14, m_r15, m_w15, m_r16, m_w16, m_r17, m_w17, m_r18, m_w18, m_r19, m_w19, m_r20, m_w20, m_r21, m_w21, m_r22, m_w22, m_r23, m_w23, m_r24, m_w24, m_r25, m_w25, m_r26, m_w26, m_r27, m_w27, m_r28, m_w28, m_r29, m_w29, m_r30, m_w30, m_r31, m_w31, m_r32, m_w32, m_r33, m_w33, m_r34, m_w34, mSN_at, mSN_2, mSI_1, mSI_at, mSI_22, mSL_1, mSL_21, mSL_at, mSL_222, mSs_1, mSs_21, mSs_221, mSs_at, mSs_f, mSf_1, mSf_21, mSf_221, mSf_s, mSf_f, zi_l0, zi_l1, zi_l2, zi_l3, zi_l4, zi_l5, zi_l6, zi_l7, zi_l8, zi_l9, zi_l10, zi_l12, zi_l18, zi_l20, zi_l30, zi_l32, zi_l36, zi_l48, zi_l64, zi_l99, zi_l100, zi_l300, zi_l512, zi_l600, zi_l900, zi_l1800, zi_l9999, Option.bind_some, zi_lt0, zi_ge0, zi_01, zi_add, zi_mul, zi_sub, zi_lt, zi_le, zi_eq, zi_bool, zi_byte, zi_short, zi_t8, zi_t16, nlt_T, nlt_F, nle_T, nle_F, neq_T, neq_F, ↓reduceIte, or_true, true_or, and_self, and_true, true_and, and_false, false_and, or_false, false_or, or_self, not_true_eq_false, not_false_eq_true]
  exact q
end MLIST2
