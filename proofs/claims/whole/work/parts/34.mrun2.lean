section MRUN2
variable {g : zG} {am : Nat} {M : mS} {ρ : zS}
theorem cpB2_wr {k j : Nat} {X : mS} : mSN (X) 13 (k) (X.1 13 (j)) = mWr [13] [] [] X k j := by
  refine Prod.ext ?_ (Prod.ext ?_ (Prod.ext ?_ rfl)) <;> funext a b <;> simp only [mWr, wrf, mSN, mSI, mSL, List.mem_cons, List.not_mem_nil, or_false, false_and, if_false] <;> by_cases hb : b = k <;> simp only [hb, and_true, and_false, if_false] <;> repeat' split <;> simp_all
theorem cpB2 {f t N : Nat} (hf : f < 36 ∧ t < 36 ∧ f ≠ t) (hN : M.1 5 f = N ∧ N ≤ 600) {Y : Option zS} (hY : ∀ X, X = mCp [13] [] [] M (600 * t) (600 * f) N → mOK X → (some (mW am X ρ) : Option zS) = Y) : ∀ (m n fuel : Nat) (X : mS), n + m = N → m < fuel → X = mCp [13] [] [] M (600 * t) (600 * f) n → mOK X → s_Mo_copyBook_224 g fuel am (zi f) (zi t) (zi n) (mW am X ρ) = Y := by
  intro m
  induction m with
  | zero =>
    intro n fuel X hn hfu hE hX
    obtain ⟨fu, rfl⟩ : ∃ fu, fuel = fu + 1 := ⟨fuel - 1, by omega⟩
    have hl : X.1 5 f = N := by
      rw [hE, mCp_1, cpf_out (Or.inl (by decide))]
      exact hN.1
    rw [s_Mo_copyBook_224]
    simp (disch := omega) only [hl, m_is, m_g0, m_g1, m_g2, m_g3, m_g4, m_g5, m_g6, m_g7, m_g8, m_g9, m_g10, m_g11, m_g12, m_g13, m_g14, m_g15, m_g16, m_g17, m_g18, m_g19, m_g20, m_g21, m_g22, m_g23, m_g24, m_g25, m_g26, m_g27, m_g28, m_g29, m_g30, m_g31, m_g32, m_g33, m_g34, m_g35, m_g36, m_g37, m_g38, m_g39, m_p0, m_p34, m_p37, m_p38, m_p39, m_r1, m_w1, m_r2, m_w2, m_r3, m_w3, m_r4, m_w4, m_r5, m_w5, m_r6, m_w6, m_r7, m_w7, m_r8, m_w8, m_r9, m_w9, m_r10, m_w10, m_r11, m_w11, m_r12, m_w12, m_r13, m_w13, m_r14, m_w14, m_r15, m_w15, m_r16, m_w16, m_r17, m_w17, m_r18, m_w18, m_r19, m_w19, m_r20, m_w20, m_r21, m_w21, m_r22, m_w22, m_r23, m_w23, m_r24, m_w24, m_r25, m_w25, m_r26, m_w26, m_r27, m_w27, m_r28, m_w28, m_r29, m_w29, m_r30, m_w30, m_r31, m_w31, m_r32, m_w32, m_r33, m_w33, m_r34, m_w34, mSN_at, mSN_2, mSI_1, mSI_at, mSI_22, mSL_1, mSL_21, mSL_at, mSL_222, mSs_1, mSs_21, mSs_221, mSs_at, mSs_f, mSf_1, mSf_21, mSf_221, mSf_s, mSf_f, zi_l0, zi_l1, zi_l2, zi_l3, zi_l4, zi_l5, zi_l6, zi_l7, zi_l8, zi_l9, zi_l10, zi_l12, zi_l18, zi_l20, zi_l30, zi_l32, zi_l36, zi_l48, zi_l64, zi_l99, zi_l100, zi_l300, zi_l512, zi_l600, zi_l900, zi_l1800, zi_l9999, Option.bind_some, zi_lt0, zi_ge0, zi_01, zi_add, zi_mul, zi_sub, zi_lt, zi_le, zi_eq, zi_bool, zi_byte, zi_short, zi_t8, zi_t16, if_pos, if_neg, if_true, if_false, or_true, true_or, and_self, and_true, true_and, and_false, false_and]
    exact hY X (by rw [hE, show n = N from by omega]) hX
  | succ m ih =>
    intro n fuel X hn hfu hE hX
    obtain ⟨fu, rfl⟩ : ∃ fu, fuel = fu + 1 := ⟨fuel - 1, by omega⟩
    have hl : X.1 5 f = N := by
      rw [hE, mCp_1, cpf_out (Or.inl (by decide))]
      exact hN.1
    have e13 := hX.b16 (j := 13) (by omega) (600 * f + n)
    rw [s_Mo_copyBook_224]
    simp (disch := omega) only [hl, m_is, m_g0, m_g1, m_g2, m_g3, m_g4, m_g5, m_g6, m_g7, m_g8, m_g9, m_g10, m_g11, m_g12, m_g13, m_g14, m_g15, m_g16, m_g17, m_g18, m_g19, m_g20, m_g21, m_g22, m_g23, m_g24, m_g25, m_g26, m_g27, m_g28, m_g29, m_g30, m_g31, m_g32, m_g33, m_g34, m_g35, m_g36, m_g37, m_g38, m_g39, m_p0, m_p34, m_p37, m_p38, m_p39, m_r1, m_w1, m_r2, m_w2, m_r3, m_w3, m_r4, m_w4, m_r5, m_w5, m_r6, m_w6, m_r7, m_w7, m_r8, m_w8, m_r9, m_w9, m_r10, m_w10, m_r11, m_w11, m_r12, m_w12, m_r13, m_w13, m_r14, m_w14, m_r15, m_w15, m_r16, m_w16, m_r17, m_w17, m_r18, m_w18, m_r19, m_w19, m_r20, m_w20, m_r21, m_w21, m_r22, m_w22, m_r23, m_w23, m_r24, m_w24, m_r25, m_w25, m_r26, m_w26, m_r27, m_w27, m_r28, m_w28, m_r29, m_w29, m_r30, m_w30, m_r31, m_w31, m_r32, m_w32, m_r33, m_w33, m_r34, m_w34, mSN_at, mSN_2, mSI_1, mSI_at, mSI_22, mSL_1, mSL_21, mSL_at, mSL_222, mSs_1, mSs_21, mSs_221, mSs_at, mSs_f, mSf_1, mSf_21, mSf_221, mSf_s, mSf_f, zi_l0, zi_l1, zi_l2, zi_l3, zi_l4, zi_l5, zi_l6, zi_l7, zi_l8, zi_l9, zi_l10, zi_l12, zi_l18, zi_l20, zi_l30, zi_l32, zi_l36, zi_l48, zi_l64, zi_l99, zi_l100, zi_l300, zi_l512, zi_l600, zi_l900, zi_l1800, zi_l9999, Option.bind_some, zi_lt0, zi_ge0, zi_01, zi_add, zi_mul, zi_sub, zi_lt, zi_le, zi_eq, zi_bool, zi_byte, zi_short, zi_t8, zi_t16, if_pos, if_neg, if_true, if_false, or_true, true_or, and_self, and_true, true_and, and_false, false_and]
    rw [cpB2_wr]
    have hE2 : mWr [13] [] [] X (600 * t + n) (600 * f + n) = mCp [13] [] [] M (600 * t) (600 * f) (n + 1) := by
      rw [hE]
      exact mCp_step (by omega)
    rw [hE2]
    have hO2 : mOK (mCp [13] [] [] M (600 * t) (600 * f) (n + 1)) := by
      rw [← hE2]
      intro a b
      show (if a ∈ _ ∧ b = _ then X.1 a _ else X.1 a b) < mbd a
      split
      · exact hX _ _
      · exact hX _ _
    exact ih (n + 1) fu _ (by omega) (by omega) rfl hO2
theorem cpB1_wr {k j : Nat} {X : mS} : mSN (mSI (mSL (mSN (mSN (mSN (X) 7 (k) (X.1 7 (j))) 8 (k) (X.1 8 (j))) 9 (k) (X.1 9 (j))) 10 (k) (X.2.2.1 10 (j))) 11 (k) (X.2.1 11 (j))) 12 (k) (X.1 12 (j)) = mWr [7, 8, 9, 12] [11] [10] X k j := by
  refine Prod.ext ?_ (Prod.ext ?_ (Prod.ext ?_ rfl)) <;> funext a b <;> simp only [mWr, wrf, mSN, mSI, mSL, List.mem_cons, List.not_mem_nil, or_false, false_and, if_false] <;> by_cases hb : b = k <;> simp only [hb, and_true, and_false, if_false] <;> repeat' split <;> simp_all
theorem cpB1 {f t N : Nat} (hf : f < 36 ∧ t < 36 ∧ f ≠ t) (hN : M.1 2 f = N ∧ N ≤ 300) {Y : Option zS} (hY : ∀ X, X = mCp [7, 8, 9, 12] [11] [10] M (300 * t) (300 * f) N → mOK X → s_Mo_copyBook_224 g zfuel am (zi f) (zi t) (zi 0) (mW am X ρ) = Y) : ∀ (m n fuel : Nat) (X : mS), n + m = N → m < fuel → X = mCp [7, 8, 9, 12] [11] [10] M (300 * t) (300 * f) n → mOK X → s_Mo_copyBook_62 g fuel am (zi f) (zi t) (zi n) (mW am X ρ) = Y := by
  intro m
  induction m with
  | zero =>
    intro n fuel X hn hfu hE hX
    obtain ⟨fu, rfl⟩ : ∃ fu, fuel = fu + 1 := ⟨fuel - 1, by omega⟩
    have hl : X.1 2 f = N := by
      rw [hE, mCp_1, cpf_out (Or.inl (by decide))]
      exact hN.1
    rw [s_Mo_copyBook_62]
    simp (disch := omega) only [hl, m_is, m_g0, m_g1, m_g2, m_g3, m_g4, m_g5, m_g6, m_g7, m_g8, m_g9, m_g10, m_g11, m_g12, m_g13, m_g14, m_g15, m_g16, m_g17, m_g18, m_g19, m_g20, m_g21, m_g22, m_g23, m_g24, m_g25, m_g26, m_g27, m_g28, m_g29, m_g30, m_g31, m_g32, m_g33, m_g34, m_g35, m_g36, m_g37, m_g38, m_g39, m_p0, m_p34, m_p37, m_p38, m_p39, m_r1, m_w1, m_r2, m_w2, m_r3, m_w3, m_r4, m_w4, m_r5, m_w5, m_r6, m_w6, m_r7, m_w7, m_r8, m_w8, m_r9, m_w9, m_r10, m_w10, m_r11, m_w11, m_r12, m_w12, m_r13, m_w13, m_r14, m_w14, m_r15, m_w15, m_r16, m_w16, m_r17, m_w17, m_r18, m_w18, m_r19, m_w19, m_r20, m_w20, m_r21, m_w21, m_r22, m_w22, m_r23, m_w23, m_r24, m_w24, m_r25, m_w25, m_r26, m_w26, m_r27, m_w27, m_r28, m_w28, m_r29, m_w29, m_r30, m_w30, m_r31, m_w31, m_r32, m_w32, m_r33, m_w33, m_r34, m_w34, mSN_at, mSN_2, mSI_1, mSI_at, mSI_22, mSL_1, mSL_21, mSL_at, mSL_222, mSs_1, mSs_21, mSs_221, mSs_at, mSs_f, mSf_1, mSf_21, mSf_221, mSf_s, mSf_f, zi_l0, zi_l1, zi_l2, zi_l3, zi_l4, zi_l5, zi_l6, zi_l7, zi_l8, zi_l9, zi_l10, zi_l12, zi_l18, zi_l20, zi_l30, zi_l32, zi_l36, zi_l48, zi_l64, zi_l99, zi_l100, zi_l300, zi_l512, zi_l600, zi_l900, zi_l1800, zi_l9999, Option.bind_some, zi_lt0, zi_ge0, zi_01, zi_add, zi_mul, zi_sub, zi_lt, zi_le, zi_eq, zi_bool, zi_byte, zi_short, zi_t8, zi_t16, if_pos, if_neg, if_true, if_false, or_true, true_or, and_self, and_true, true_and, and_false, false_and]
    exact hY X (by rw [hE, show n = N from by omega]) hX
  | succ m ih =>
    intro n fuel X hn hfu hE hX
    obtain ⟨fu, rfl⟩ : ∃ fu, fuel = fu + 1 := ⟨fuel - 1, by omega⟩
    have hl : X.1 2 f = N := by
      rw [hE, mCp_1, cpf_out (Or.inl (by decide))]
      exact hN.1
    have e7 := hX.b16 (j := 7) (by omega) (300 * f + n)
    have e8 := hX.b16 (j := 8) (by omega) (300 * f + n)
    have e9 := hX.b128 (j := 9) (by omega) (300 * f + n)
    have e12 := hX.b128 (j := 12) (by omega) (300 * f + n)
    rw [s_Mo_copyBook_62]
    simp (disch := omega) only [hl, m_is, m_g0, m_g1, m_g2, m_g3, m_g4, m_g5, m_g6, m_g7, m_g8, m_g9, m_g10, m_g11, m_g12, m_g13, m_g14, m_g15, m_g16, m_g17, m_g18, m_g19, m_g20, m_g21, m_g22, m_g23, m_g24, m_g25, m_g26, m_g27, m_g28, m_g29, m_g30, m_g31, m_g32, m_g33, m_g34, m_g35, m_g36, m_g37, m_g38, m_g39, m_p0, m_p34, m_p37, m_p38, m_p39, m_r1, m_w1, m_r2, m_w2, m_r3, m_w3, m_r4, m_w4, m_r5, m_w5, m_r6, m_w6, m_r7, m_w7, m_r8, m_w8, m_r9, m_w9, m_r10, m_w10, m_r11, m_w11, m_r12, m_w12, m_r13, m_w13, m_r14, m_w14, m_r15, m_w15, m_r16, m_w16, m_r17, m_w17, m_r18, m_w18, m_r19, m_w19, m_r20, m_w20, m_r21, m_w21, m_r22, m_w22, m_r23, m_w23, m_r24, m_w24, m_r25, m_w25, m_r26, m_w26, m_r27, m_w27, m_r28, m_w28, m_r29, m_w29, m_r30, m_w30, m_r31, m_w31, m_r32, m_w32, m_r33, m_w33, m_r34, m_w34, mSN_at, mSN_2, mSI_1, mSI_at, mSI_22, mSL_1, mSL_21, mSL_at, mSL_222, mSs_1, mSs_21, mSs_221, mSs_at, mSs_f, mSf_1, mSf_21, mSf_221, mSf_s, mSf_f, zi_l0, zi_l1, zi_l2, zi_l3, zi_l4, zi_l5, zi_l6, zi_l7, zi_l8, zi_l9, zi_l10, zi_l12, zi_l18, zi_l20, zi_l30, zi_l32, zi_l36, zi_l48, zi_l64, zi_l99, zi_l100, zi_l300, zi_l512, zi_l600, zi_l900, zi_l1800, zi_l9999, Option.bind_some, zi_lt0, zi_ge0, zi_01, zi_add, zi_mul, zi_sub, zi_lt, zi_le, zi_eq, zi_bool, zi_byte, zi_short, zi_t8, zi_t16, if_pos, if_neg, if_true, if_false, or_true, true_or, and_self, and_true, true_and, and_false, false_and]
    rw [cpB1_wr]
    have hE2 : mWr [7, 8, 9, 12] [11] [10] X (300 * t + n) (300 * f + n) = mCp [7, 8, 9, 12] [11] [10] M (300 * t) (300 * f) (n + 1) := by
      rw [hE]
      exact mCp_step (by omega)
    rw [hE2]
    have hO2 : mOK (mCp [7, 8, 9, 12] [11] [10] M (300 * t) (300 * f) (n + 1)) := by
      rw [← hE2]
      intro a b
      show (if a ∈ _ ∧ b = _ then X.1 a _ else X.1 a b) < mbd a
      split
      · exact hX _ _
      · exact hX _ _
    exact ih (n + 1) fu _ (by omega) (by omega) rfl hO2
theorem cpB0_wr {k j : Nat} {X : mS} : mSN (mSN (mSN (mSN (mSN (X) 2 (k) (X.1 2 (j))) 3 (k) (X.1 3 (j))) 4 (k) (X.1 4 (j))) 5 (k) (X.1 5 (j))) 6 (k) (X.1 6 (j)) = mWr [2, 3, 4, 5, 6] [] [] X k j := by
  refine Prod.ext ?_ (Prod.ext ?_ (Prod.ext ?_ rfl)) <;> funext a b <;> simp only [mWr, wrf, mSN, mSI, mSL, List.mem_cons, List.not_mem_nil, or_false, false_and, if_false] <;> by_cases hb : b = k <;> simp only [hb, and_true, and_false, if_false] <;> repeat' split <;> simp_all
def mCpK (M : mS) (f t : Nat) : mS := mCp [13] [] [] (mCp [7, 8, 9, 12] [11] [10] (mCp [2, 3, 4, 5, 6] [] [] M t f 1) (300 * t) (300 * f) (M.1 2 f)) (600 * t) (600 * f) (M.1 5 f)
theorem mWr_1 {P Q R : List Nat} {t f : Nat} : mWr P Q R M t f = mCp P Q R M t f 1 := by
  have h : ∀ {α : Type} (L : List Nat) (F : Nat → Nat → α), wrf L F t f = cpf L F t f 1 := by
    intro α L F
    funext a b
    unfold wrf cpf
    by_cases h : a ∈ L ∧ b = t
    · rw [if_pos h, if_pos ⟨h.1, by omega, by omega⟩, show f + (b - t) = f from by omega]
    · rw [if_neg h, if_neg (fun q => h ⟨q.1, by omega⟩)]
  unfold mWr mCp
  rw [h, h, h]
theorem M_copyBook {f t : Nat} (hf : f < 36 ∧ t < 36 ∧ f ≠ t) (h2 : M.1 2 f ≤ 300) (h5 : M.1 5 f ≤ 600) (hX : mOK M) : s_Mo_copyBook g am (zi f) (zi t) (mW am M ρ) = some (mW am (mCpK M f t) ρ) := by
  unfold s_Mo_copyBook
  have e2 := hX.b31 2 (f)
  have e3 := hX.b31 3 (f)
  have e4 := hX.b31 4 (f)
  have e5 := hX.b31 5 (f)
  have e6 := hX.b31 6 (f)
  simp (disch := omega) only [m_is, m_g0, m_g1, m_g2, m_g3, m_g4, m_g5, m_g6, m_g7, m_g8, m_g9, m_g10, m_g11, m_g12, m_g13, m_g14, m_g15, m_g16, m_g17, m_g18, m_g19, m_g20, m_g21, m_g22, m_g23, m_g24, m_g25, m_g26, m_g27, m_g28, m_g29, m_g30, m_g31, m_g32, m_g33, m_g34, m_g35, m_g36, m_g37, m_g38, m_g39, m_p0, m_p34, m_p37, m_p38, m_p39, m_r1, m_w1, m_r2, m_w2, m_r3, m_w3, m_r4, m_w4, m_r5, m_w5, m_r6, m_w6, m_r7, m_w7, m_r8, m_w8, m_r9, m_w9, m_r10, m_w10, m_r11, m_w11, m_r12, m_w12, m_r13, m_w13, m_r14, m_w14, m_r15, m_w15, m_r16, m_w16, m_r17, m_w17, m_r18, m_w18, m_r19, m_w19, m_r20, m_w20, m_r21, m_w21, m_r22, m_w22, m_r23, m_w23, m_r24, m_w24, m_r25, m_w25, m_r26, m_w26, m_r27, m_w27, m_r28, m_w28, m_r29, m_w29, m_r30, m_w30, m_r31, m_w31, m_r32, m_w32, m_r33, m_w33, m_r34, m_w34, mSN_at, mSN_2, mSI_1, mSI_at, mSI_22, mSL_1, mSL_21, mSL_at, mSL_222, mSs_1, mSs_21, mSs_221, mSs_at, mSs_f, mSf_1, mSf_21, mSf_221, mSf_s, mSf_f, zi_l0, zi_l1, zi_l2, zi_l3, zi_l4, zi_l5, zi_l6, zi_l7, zi_l8, zi_l9, zi_l10, zi_l12, zi_l18, zi_l20, zi_l30, zi_l32, zi_l36, zi_l48, zi_l64, zi_l99, zi_l100, zi_l300, zi_l512, zi_l600, zi_l900, zi_l1800, zi_l9999, Option.bind_some, zi_lt0, zi_ge0, zi_01, zi_add, zi_mul, zi_sub, zi_lt, zi_le, zi_eq, zi_bool, zi_byte, zi_short, zi_t8, zi_t16, if_pos, if_neg, if_true, if_false, or_true, true_or, and_self, and_true, true_and, and_false, false_and]
  rw [cpB0_wr, mWr_1]
  have q2 : (mCp [2, 3, 4, 5, 6] [] [] M t f 1).1 2 f = M.1 2 f := by rw [mCp_1, cpf_out (by omega)]
  have q5 : (mCp [2, 3, 4, 5, 6] [] [] M t f 1).1 5 f = M.1 5 f := by rw [mCp_1, cpf_out (by omega)]
  refine cpB1 hf ⟨q2, h2⟩ (fun X hE hO => ?_) (M.1 2 f) 0 zfuel _ (by omega) (by unfold zfuel; omega) mCp_0.symm hX.cp
  have r5 : X.1 5 f = M.1 5 f := by rw [hE, mCp_1, cpf_out (Or.inl (by decide)), q5]
  refine cpB2 hf ⟨r5, h5⟩ (fun X2 hE2 hO2 => ?_) (M.1 5 f) 0 zfuel _ (by omega) (by unfold zfuel; omega) mCp_0.symm hO
  rw [hE2, hE]
  rfl
theorem cpR0_wr {k j : Nat} {X : mS} : mSN (mSN (mSN (mSN (mSN (mSN (X) 14 (k) (X.1 14 (j))) 15 (k) (X.1 15 (j))) 16 (k) (X.1 16 (j))) 17 (k) (X.1 17 (j))) 18 (k) (X.1 18 (j))) 19 (k) (X.1 19 (j)) = mWr [14, 15, 16, 17, 18, 19] [] [] X k j := by
  refine Prod.ext ?_ (Prod.ext ?_ (Prod.ext ?_ rfl)) <;> funext a b <;> simp only [mWr, wrf, mSN, mSI, mSL, List.mem_cons, List.not_mem_nil, or_false, false_and, if_false] <;> by_cases hb : b = k <;> simp only [hb, and_true, and_false, if_false] <;> repeat' split <;> simp_all
def mCpR (M : mS) (f t : Nat) : mS := mCpK (mCpK (mCpK (mCp [14, 15, 16, 17, 18, 19] [] [] M t f 1) (3 * f) (3 * t)) (3 * f + 1) (3 * t + 1)) (3 * f + 2) (3 * t + 2)
theorem mOK.k (h : mOK M) {f t : Nat} : mOK (mCpK M f t) := mOK.cp (mOK.cp (mOK.cp h))
theorem mCpK_2 {f t a b : Nat} (h : a = 2 ∨ a = 5) (hb : b ≠ t) : (mCpK M f t).1 a b = M.1 a b := by
  unfold mCpK
  rw [mCp_1, cpf_out (Or.inl (by rcases h with rfl | rfl <;> decide)), mCp_1, cpf_out (Or.inl (by rcases h with rfl | rfl <;> decide)), mCp_1, cpf_out (Or.inr (by omega))]
theorem M_copyBranch {f t : Nat} (hf : f < 12 ∧ t < 12 ∧ f ≠ t) (h2 : ∀ s, s < 3 → M.1 2 (3 * f + s) ≤ 300) (h5 : ∀ s, s < 3 → M.1 5 (3 * f + s) ≤ 600) (hX : mOK M) : s_Mo_copyBranch g am (zi f) (zi t) (mW am M ρ) = some (mW am (mCpR M f t) ρ) := by
  unfold s_Mo_copyBranch
  have e14 := hX.b31 14 (f)
  have e15 := hX.b31 15 (f)
  have e16 := hX.b31 16 (f)
  have e17 := hX.b31 17 (f)
  have e18 := hX.b2 (j := 18) (by omega) (f)
  have e19 := hX.b2 (j := 19) (by omega) (f)
  simp (disch := omega) only [m_is, m_g0, m_g1, m_g2, m_g3, m_g4, m_g5, m_g6, m_g7, m_g8, m_g9, m_g10, m_g11, m_g12, m_g13, m_g14, m_g15, m_g16, m_g17, m_g18, m_g19, m_g20, m_g21, m_g22, m_g23, m_g24, m_g25, m_g26, m_g27, m_g28, m_g29, m_g30, m_g31, m_g32, m_g33, m_g34, m_g35, m_g36, m_g37, m_g38, m_g39, m_p0, m_p34, m_p37, m_p38, m_p39, m_r1, m_w1, m_r2, m_w2, m_r3, m_w3, m_r4, m_w4, m_r5, m_w5, m_r6, m_w6, m_r7, m_w7, m_r8, m_w8, m_r9, m_w9, m_r10, m_w10, m_r11, m_w11, m_r12, m_w12, m_r13, m_w13, m_r14, m_w14, m_r15, m_w15, m_r16, m_w16, m_r17, m_w17, m_r18, m_w18, m_r19, m_w19, m_r20, m_w20, m_r21, m_w21, m_r22, m_w22, m_r23, m_w23, m_r24, m_w24, m_r25, m_w25, m_r26, m_w26, m_r27, m_w27, m_r28, m_w28, m_r29, m_w29, m_r30, m_w30, m_r31, m_w31, m_r32, m_w32, m_r33, m_w33, m_r34, m_w34, mSN_at, mSN_2, mSI_1, mSI_at, mSI_22, mSL_1, mSL_21, mSL_at, mSL_222, mSs_1, mSs_21, mSs_221, mSs_at, mSs_f, mSf_1, mSf_21, mSf_221, mSf_s, mSf_f, zi_l0, zi_l1, zi_l2, zi_l3, zi_l4, zi_l5, zi_l6, zi_l7, zi_l8, zi_l9, zi_l10, zi_l12, zi_l18, zi_l20, zi_l30, zi_l32, zi_l36, zi_l48, zi_l64, zi_l99, zi_l100, zi_l300, zi_l512, zi_l600, zi_l900, zi_l1800, zi_l9999, Option.bind_some, zi_lt0, zi_ge0, zi_01, zi_add, zi_mul, zi_sub, zi_lt, zi_le, zi_eq, zi_bool, zi_byte, zi_short, zi_t8, zi_t16, if_pos, if_neg, if_true, if_false, or_true, true_or, and_self, and_true, true_and, and_false, false_and]
  rw [cpR0_wr, mWr_1, show zfuel = (zfuel - 4) + 4 from rfl]
  have k0 := h2 0 (by decide)
  have k1 := h2 1 (by decide)
  have k2 := h2 2 (by decide)
  have l0 := h5 0 (by decide)
  have l1 := h5 1 (by decide)
  have l2 := h5 2 (by decide)
  have hO := hX.cp (P := [14, 15, 16, 17, 18, 19]) (Q := []) (R := []) (d := t) (s := f) (n := 1)
  have b1 : ∀ a b, a = 2 ∨ a = 5 → (mCp [14, 15, 16, 17, 18, 19] [] [] M t f 1).1 a b = M.1 a b := fun a b h => by rw [mCp_1, cpf_out (Or.inl (by rcases h with rfl | rfl <;> decide))]
  rw [s_Mo_copyBranch_74]
  simp (disch := omega) only [m_is, m_g0, m_g1, m_g2, m_g3, m_g4, m_g5, m_g6, m_g7, m_g8, m_g9, m_g10, m_g11, m_g12, m_g13, m_g14, m_g15, m_g16, m_g17, m_g18, m_g19, m_g20, m_g21, m_g22, m_g23, m_g24, m_g25, m_g26, m_g27, m_g28, m_g29, m_g30, m_g31, m_g32, m_g33, m_g34, m_g35, m_g36, m_g37, m_g38, m_g39, m_p0, m_p34, m_p37, m_p38, m_p39, m_r1, m_w1, m_r2, m_w2, m_r3, m_w3, m_r4, m_w4, m_r5, m_w5, m_r6, m_w6, m_r7, m_w7, m_r8, m_w8, m_r9, m_w9, m_r10, m_w10, m_r11, m_w11, m_r12, m_w12, m_r13, m_w13, m_r14, m_w14, m_r15, m_w15, m_r16, m_w16, m_r17, m_w17, m_r18, m_w18, m_r19, m_w19, m_r20, m_w20, m_r21, m_w21, m_r22, m_w22, m_r23, m_w23, m_r24, m_w24, m_r25, m_w25, m_r26, m_w26, m_r27, m_w27, m_r28, m_w28, m_r29, m_w29, m_r30, m_w30, m_r31, m_w31, m_r32, m_w32, m_r33, m_w33, m_r34, m_w34, mSN_at, mSN_2, mSI_1, mSI_at, mSI_22, mSL_1, mSL_21, mSL_at, mSL_222, mSs_1, mSs_21, mSs_221, mSs_at, mSs_f, mSf_1, mSf_21, mSf_221, mSf_s, mSf_f, zi_l0, zi_l1, zi_l2, zi_l3, zi_l4, zi_l5, zi_l6, zi_l7, zi_l8, zi_l9, zi_l10, zi_l12, zi_l18, zi_l20, zi_l30, zi_l32, zi_l36, zi_l48, zi_l64, zi_l99, zi_l100, zi_l300, zi_l512, zi_l600, zi_l900, zi_l1800, zi_l9999, Option.bind_some, zi_lt0, zi_ge0, zi_01, zi_add, zi_mul, zi_sub, zi_lt, zi_le, zi_eq, zi_bool, zi_byte, zi_short, zi_t8, zi_t16, if_pos, if_neg, if_true, if_false, or_true, true_or, and_self, and_true, true_and, and_false, false_and]
  rw [M_copyBook (M := mCp [14, 15, 16, 17, 18, 19] [] [] M t f 1) (by omega) (by rw [b1 _ _ (Or.inl rfl)]; exact k0) (by rw [b1 _ _ (Or.inr rfl)]; exact l0) hO]
  dsimp only [Option.bind_some]
  rw [s_Mo_copyBranch_74]
  simp (disch := omega) only [m_is, m_g0, m_g1, m_g2, m_g3, m_g4, m_g5, m_g6, m_g7, m_g8, m_g9, m_g10, m_g11, m_g12, m_g13, m_g14, m_g15, m_g16, m_g17, m_g18, m_g19, m_g20, m_g21, m_g22, m_g23, m_g24, m_g25, m_g26, m_g27, m_g28, m_g29, m_g30, m_g31, m_g32, m_g33, m_g34, m_g35, m_g36, m_g37, m_g38, m_g39, m_p0, m_p34, m_p37, m_p38, m_p39, m_r1, m_w1, m_r2, m_w2, m_r3, m_w3, m_r4, m_w4, m_r5, m_w5, m_r6, m_w6, m_r7, m_w7, m_r8, m_w8, m_r9, m_w9, m_r10, m_w10, m_r11, m_w11, m_r12, m_w12, m_r13, m_w13, m_r14, m_w14, m_r15, m_w15, m_r16, m_w16, m_r17, m_w17, m_r18, m_w18, m_r19, m_w19, m_r20, m_w20, m_r21, m_w21, m_r22, m_w22, m_r23, m_w23, m_r24, m_w24, m_r25, m_w25, m_r26, m_w26, m_r27, m_w27, m_r28, m_w28, m_r29, m_w29, m_r30, m_w30, m_r31, m_w31, m_r32, m_w32, m_r33, m_w33, m_r34, m_w34, mSN_at, mSN_2, mSI_1, mSI_at, mSI_22, mSL_1, mSL_21, mSL_at, mSL_222, mSs_1, mSs_21, mSs_221, mSs_at, mSs_f, mSf_1, mSf_21, mSf_221, mSf_s, mSf_f, zi_l0, zi_l1, zi_l2, zi_l3, zi_l4, zi_l5, zi_l6, zi_l7, zi_l8, zi_l9, zi_l10, zi_l12, zi_l18, zi_l20, zi_l30, zi_l32, zi_l36, zi_l48, zi_l64, zi_l99, zi_l100, zi_l300, zi_l512, zi_l600, zi_l900, zi_l1800, zi_l9999, Option.bind_some, zi_lt0, zi_ge0, zi_01, zi_add, zi_mul, zi_sub, zi_lt, zi_le, zi_eq, zi_bool, zi_byte, zi_short, zi_t8, zi_t16, if_pos, if_neg, if_true, if_false, or_true, true_or, and_self, and_true, true_and, and_false, false_and]
  rw [M_copyBook (by omega) (by rw [mCpK_2 (Or.inl rfl) (by omega), b1 _ _ (Or.inl rfl)]; exact k1) (by rw [mCpK_2 (Or.inr rfl) (by omega), b1 _ _ (Or.inr rfl)]; exact l1) hO.k]
  dsimp only [Option.bind_some]
  rw [s_Mo_copyBranch_74]
  simp (disch := omega) only [m_is, m_g0, m_g1, m_g2, m_g3, m_g4, m_g5, m_g6, m_g7, m_g8, m_g9, m_g10, m_g11, m_g12, m_g13, m_g14, m_g15, m_g16, m_g17, m_g18, m_g19, m_g20, m_g21, m_g22, m_g23, m_g24, m_g25, m_g26, m_g27, m_g28, m_g29, m_g30, m_g31, m_g32, m_g33, m_g34, m_g35, m_g36, m_g37, m_g38, m_g39, m_p0, m_p34, m_p37, m_p38, m_p39, m_r1, m_w1, m_r2, m_w2, m_r3, m_w3, m_r4, m_w4, m_r5, m_w5, m_r6, m_w6, m_r7, m_w7, m_r8, m_w8, m_r9, m_w9, m_r10, m_w10, m_r11, m_w11, m_r12, m_w12, m_r13, m_w13, m_r14, m_w14, m_r15, m_w15, m_r16, m_w16, m_r17, m_w17, m_r18, m_w18, m_r19, m_w19, m_r20, m_w20, m_r21, m_w21, m_r22, m_w22, m_r23, m_w23, m_r24, m_w24, m_r25, m_w25, m_r26, m_w26, m_r27, m_w27, m_r28, m_w28, m_r29, m_w29, m_r30, m_w30, m_r31, m_w31, m_r32, m_w32, m_r33, m_w33, m_r34, m_w34, mSN_at, mSN_2, mSI_1, mSI_at, mSI_22, mSL_1, mSL_21, mSL_at, mSL_222, mSs_1, mSs_21, mSs_221, mSs_at, mSs_f, mSf_1, mSf_21, mSf_221, mSf_s, mSf_f, zi_l0, zi_l1, zi_l2, zi_l3, zi_l4, zi_l5, zi_l6, zi_l7, zi_l8, zi_l9, zi_l10, zi_l12, zi_l18, zi_l20, zi_l30, zi_l32, zi_l36, zi_l48, zi_l64, zi_l99, zi_l100, zi_l300, zi_l512, zi_l600, zi_l900, zi_l1800, zi_l9999, Option.bind_some, zi_lt0, zi_ge0, zi_01, zi_add, zi_mul, zi_sub, zi_lt, zi_le, zi_eq, zi_bool, zi_byte, zi_short, zi_t8, zi_t16, if_pos, if_neg, if_true, if_false, or_true, true_or, and_self, and_true, true_and, and_false, false_and]
  rw [M_copyBook (by omega) (by rw [mCpK_2 (Or.inl rfl) (by omega), mCpK_2 (Or.inl rfl) (by omega), b1 _ _ (Or.inl rfl)]; exact k2) (by rw [mCpK_2 (Or.inr rfl) (by omega), mCpK_2 (Or.inr rfl) (by omega), b1 _ _ (Or.inr rfl)]; exact l2) hO.k.k]
  dsimp only [Option.bind_some]
  rw [s_Mo_copyBranch_74]
  simp (disch := omega) only [m_is, m_g0, m_g1, m_g2, m_g3, m_g4, m_g5, m_g6, m_g7, m_g8, m_g9, m_g10, m_g11, m_g12, m_g13, m_g14, m_g15, m_g16, m_g17, m_g18, m_g19, m_g20, m_g21, m_g22, m_g23, m_g24, m_g25, m_g26, m_g27, m_g28, m_g29, m_g30, m_g31, m_g32, m_g33, m_g34, m_g35, m_g36, m_g37, m_g38, m_g39, m_p0, m_p34, m_p37, m_p38, m_p39, m_r1, m_w1, m_r2, m_w2, m_r3, m_w3, m_r4, m_w4, m_r5, m_w5, m_r6, m_w6, m_r7, m_w7, m_r8, m_w8, m_r9, m_w9, m_r10, m_w10, m_r11, m_w11, m_r12, m_w12, m_r13, m_w13, m_r14, m_w14, m_r15, m_w15, m_r16, m_w16, m_r17, m_w17, m_r18, m_w18, m_r19, m_w19, m_r20, m_w20, m_r21, m_w21, m_r22, m_w22, m_r23, m_w23, m_r24, m_w24, m_r25, m_w25, m_r26, m_w26, m_r27, m_w27, m_r28, m_w28, m_r29, m_w29, m_r30, m_w30, m_r31, m_w31, m_r32, m_w32, m_r33, m_w33, m_r34, m_w34, mSN_at, mSN_2, mSI_1, mSI_at, mSI_22, mSL_1, mSL_21, mSL_at, mSL_222, mSs_1, mSs_21, mSs_221, mSs_at, mSs_f, mSf_1, mSf_21, mSf_221, mSf_s, mSf_f, zi_l0, zi_l1, zi_l2, zi_l3, zi_l4, zi_l5, zi_l6, zi_l7, zi_l8, zi_l9, zi_l10, zi_l12, zi_l18, zi_l20, zi_l30, zi_l32, zi_l36, zi_l48, zi_l64, zi_l99, zi_l100, zi_l300, zi_l512, zi_l600, zi_l900, zi_l1800, zi_l9999, Option.bind_some, zi_lt0, zi_ge0, zi_01, zi_add, zi_mul, zi_sub, zi_lt, zi_le, zi_eq, zi_bool, zi_byte, zi_short, zi_t8, zi_t16, if_pos, if_neg, if_true, if_false, or_true, true_or, and_self, and_true, true_and, and_false, false_and]
  rfl
end MRUN2
