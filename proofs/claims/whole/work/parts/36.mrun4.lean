theorem zi_div2 {x : Nat} (h : x < 2147483648) : zi x / zi 2 = zi (x / 2) := by
  rw [← Int32.toInt_inj, Int32.toInt_div, zi_int h, zi_int (by decide), zi_int (by omega)]
  rw [show ((x : Int).tdiv ((2 : Nat) : Int)) = ((x / 2 : Nat) : Int) from rfl]
  exact Int.bmod_eq_of_le_mul_two (by omega) (by omega)
section MRUN4
variable {g : zG} {am : Nat} {M : mS} {ρ : zS}
/-! the office learns of one event: k the branch's place, x the office's place, v 1 for void -/
def mLq (M : mS) (s k x v : Nat) : mS :=
  if v = 0 then (if M.1 23 x = 1 then mSI (mSL (mSN M 23 x 2) 25 x (M.2.2.1 10 k)) 26 x (M.2.1 11 k) else M)
  else (if (M.1 23 x = 1 ∨ M.1 23 x = 2) ∧ ¬ M.1 20 s = 2 then mSN (mSN M 23 x 3) 27 x (M.1 12 k) else M)
section MLQ
variable {s k x v a b : Nat}
theorem mLq_row (h : ¬ a = 23 ∧ ¬ a = 27) : (mLq M s k x v).1 a b = M.1 a b := by
  unfold mLq
  split
  · split
    · show (if a = 23 ∧ _ then _ else _) = _
      rw [if_neg (fun q => h.1 q.1)]
    · rfl
  · split
    · show (if a = 27 ∧ _ then _ else (if a = 23 ∧ _ then _ else _)) = _
      rw [if_neg (fun q => h.2 q.1), if_neg (fun q => h.1 q.1)]
    · rfl
theorem mLq_rowI (h : ¬ a = 26) : (mLq M s k x v).2.1 a b = M.2.1 a b := by
  unfold mLq
  split
  · split
    · show (if a = 26 ∧ b = x then _ else M.2.1 a b) = _
      rw [if_neg (fun q => h q.1)]
    · rfl
  · split <;> rfl
theorem mLq_rowL (h : ¬ a = 25) : (mLq M s k x v).2.2.1 a b = M.2.2.1 a b := by
  unfold mLq
  split
  · split
    · show (if a = 25 ∧ b = x then _ else M.2.2.1 a b) = _
      rw [if_neg (fun q => h q.1)]
    · rfl
  · split <;> rfl
theorem mLq_s : (mLq M s k x v).2.2.2 = M.2.2.2 := by
  unfold mLq
  split <;> split <;> rfl
theorem mOK.lq (h : mOK M) : mOK (mLq M s k x v) := by
  unfold mLq
  split
  · split
    · exact (h.set (by decide)).set2 rfl
    · exact h
  · split
    · exact (h.set (by decide)).set (h 12 _)
    · exact h
end MLQ
theorem M_learn_93 {s k x v b f t j i : Nat} {kk : Nat → Int32 → Int32 → Int32 → Int32 → Int32 → Int32 → zS → Option zS} (hs : s < 3) (hk : k < 10800) (hx : x < 1800) (hM : mOK M) (hv : v = 0 ∨ v = 1) : s_Mo_learn_93 g kk am (zi b) (zi s) (zi f) (zi t) (zi j) (zi i) (zi k) (zi x) (zi v) (mW am M ρ) = kk am (zi b) (zi s) (zi f) (zi t) (zi j) (zi (i + 1)) (mW am (mLq M s k x v) ρ) := by
  have e23 := hM.b128 (j := 23) (by omega) x
  have e12 := hM.b128 (j := 12) (by omega) k
  have e20 := hM.b31 20 s
  unfold mLq
  rcases hv with rfl | rfl
  · rw [if_pos rfl]
    by_cases h1 : M.1 23 x = 1
    · rw [if_pos h1]
      simp (disch := omega) only [s_Mo_learn_93, s_Mo_learn_147, s_Mo_learn_174, s_Mo_learn_206, h1, m_is, m_g0, m_g1, m_g2, m_g3, m_g4, m_g5, m_g6, m_g7, m_g8, m_g9, m_g10, m_g11, m_g12, m_g13, m_g14, m_g15, m_g16, m_g17, m_g18, m_g19, m_g20, m_g21, m_g22, m_g23, m_g24, m_g25, m_g26, m_g27, m_g28, m_g29, m_g30, m_g31, m_g32, m_g33, m_g34, m_g35, m_g36, m_g37, m_g38, m_g39, m_p0, m_p34, m_p37, m_p38, m_p39, m_r1, m_w1, m_r2, m_w2, m_r3, m_w3, m_r4, m_w4, m_r5, m_w5, m_r6, m_w6, m_r7, m_w7, m_r8, m_w8, m_r9, m_w9, m_r10, m_w10, m_r11, m_w11, m_r12, m_w12, m_r13, m_w13, m_r14, m_w14, m_r15, m_w15, m_r16, m_w16, m_r17, m_w17, m_r18, m_w18, m_r19, m_w19, m_r20, m_w20, m_r21, m_w21, m_r22, m_w22, m_r23, m_w23, m_r24, m_w24, m_r25, m_w25, m_r26, m_w26, m_r27, m_w27, m_r28, m_w28, m_r29, m_w29, m_r30, m_w30, m_r31, m_w31, m_r32, m_w32, m_r33, m_w33, m_r34, m_w34, mSN_at, mSN_2, mSI_1, mSI_at, mSI_22, mSL_1, mSL_21, mSL_at, mSL_222, mSs_1, mSs_21, mSs_221, mSs_at, mSs_f, mSf_1, mSf_21, mSf_221, mSf_s, mSf_f, zi_l0, zi_l1, zi_l2, zi_l3, zi_l4, zi_l5, zi_l6, zi_l7, zi_l8, zi_l9, zi_l10, zi_l12, zi_l18, zi_l20, zi_l30, zi_l32, zi_l36, zi_l48, zi_l64, zi_l99, zi_l100, zi_l300, zi_l512, zi_l600, zi_l900, zi_l1800, zi_l9999, Option.bind_some, zi_lt0, zi_ge0, zi_01, zi_add, zi_mul, zi_sub, zi_lt, zi_le, zi_eq, zi_bool, zi_byte, zi_short, zi_t8, zi_t16, if_pos, if_neg, if_true, if_false, or_true, true_or, and_self, and_true, true_and, and_false, false_and]
    · rw [if_neg h1]
      simp (disch := omega) only [s_Mo_learn_93, s_Mo_learn_147, s_Mo_learn_174, s_Mo_learn_206, h1, m_is, m_g0, m_g1, m_g2, m_g3, m_g4, m_g5, m_g6, m_g7, m_g8, m_g9, m_g10, m_g11, m_g12, m_g13, m_g14, m_g15, m_g16, m_g17, m_g18, m_g19, m_g20, m_g21, m_g22, m_g23, m_g24, m_g25, m_g26, m_g27, m_g28, m_g29, m_g30, m_g31, m_g32, m_g33, m_g34, m_g35, m_g36, m_g37, m_g38, m_g39, m_p0, m_p34, m_p37, m_p38, m_p39, m_r1, m_w1, m_r2, m_w2, m_r3, m_w3, m_r4, m_w4, m_r5, m_w5, m_r6, m_w6, m_r7, m_w7, m_r8, m_w8, m_r9, m_w9, m_r10, m_w10, m_r11, m_w11, m_r12, m_w12, m_r13, m_w13, m_r14, m_w14, m_r15, m_w15, m_r16, m_w16, m_r17, m_w17, m_r18, m_w18, m_r19, m_w19, m_r20, m_w20, m_r21, m_w21, m_r22, m_w22, m_r23, m_w23, m_r24, m_w24, m_r25, m_w25, m_r26, m_w26, m_r27, m_w27, m_r28, m_w28, m_r29, m_w29, m_r30, m_w30, m_r31, m_w31, m_r32, m_w32, m_r33, m_w33, m_r34, m_w34, mSN_at, mSN_2, mSI_1, mSI_at, mSI_22, mSL_1, mSL_21, mSL_at, mSL_222, mSs_1, mSs_21, mSs_221, mSs_at, mSs_f, mSf_1, mSf_21, mSf_221, mSf_s, mSf_f, zi_l0, zi_l1, zi_l2, zi_l3, zi_l4, zi_l5, zi_l6, zi_l7, zi_l8, zi_l9, zi_l10, zi_l12, zi_l18, zi_l20, zi_l30, zi_l32, zi_l36, zi_l48, zi_l64, zi_l99, zi_l100, zi_l300, zi_l512, zi_l600, zi_l900, zi_l1800, zi_l9999, Option.bind_some, zi_lt0, zi_ge0, zi_01, zi_add, zi_mul, zi_sub, zi_lt, zi_le, zi_eq, zi_bool, zi_byte, zi_short, zi_t8, zi_t16, if_pos, if_neg, if_true, if_false, or_true, true_or, and_self, and_true, true_and, and_false, false_and]
  · rw [if_neg (show ¬ (1 : Nat) = 0 by decide)]
    by_cases h1 : (M.1 23 x = 1 ∨ M.1 23 x = 2) ∧ ¬ M.1 20 s = 2
    · rw [if_pos h1]
      rcases h1 with ⟨h1 | h1, h2⟩
      · simp (disch := omega) only [s_Mo_learn_93, s_Mo_learn_147, s_Mo_learn_174, s_Mo_learn_206, h1, m_is, m_g0, m_g1, m_g2, m_g3, m_g4, m_g5, m_g6, m_g7, m_g8, m_g9, m_g10, m_g11, m_g12, m_g13, m_g14, m_g15, m_g16, m_g17, m_g18, m_g19, m_g20, m_g21, m_g22, m_g23, m_g24, m_g25, m_g26, m_g27, m_g28, m_g29, m_g30, m_g31, m_g32, m_g33, m_g34, m_g35, m_g36, m_g37, m_g38, m_g39, m_p0, m_p34, m_p37, m_p38, m_p39, m_r1, m_w1, m_r2, m_w2, m_r3, m_w3, m_r4, m_w4, m_r5, m_w5, m_r6, m_w6, m_r7, m_w7, m_r8, m_w8, m_r9, m_w9, m_r10, m_w10, m_r11, m_w11, m_r12, m_w12, m_r13, m_w13, m_r14, m_w14, m_r15, m_w15, m_r16, m_w16, m_r17, m_w17, m_r18, m_w18, m_r19, m_w19, m_r20, m_w20, m_r21, m_w21, m_r22, m_w22, m_r23, m_w23, m_r24, m_w24, m_r25, m_w25, m_r26, m_w26, m_r27, m_w27, m_r28, m_w28, m_r29, m_w29, m_r30, m_w30, m_r31, m_w31, m_r32, m_w32, m_r33, m_w33, m_r34, m_w34, mSN_at, mSN_2, mSI_1, mSI_at, mSI_22, mSL_1, mSL_21, mSL_at, mSL_222, mSs_1, mSs_21, mSs_221, mSs_at, mSs_f, mSf_1, mSf_21, mSf_221, mSf_s, mSf_f, zi_l0, zi_l1, zi_l2, zi_l3, zi_l4, zi_l5, zi_l6, zi_l7, zi_l8, zi_l9, zi_l10, zi_l12, zi_l18, zi_l20, zi_l30, zi_l32, zi_l36, zi_l48, zi_l64, zi_l99, zi_l100, zi_l300, zi_l512, zi_l600, zi_l900, zi_l1800, zi_l9999, Option.bind_some, zi_lt0, zi_ge0, zi_01, zi_add, zi_mul, zi_sub, zi_lt, zi_le, zi_eq, zi_bool, zi_byte, zi_short, zi_t8, zi_t16, if_pos, if_neg, if_true, if_false, or_true, true_or, and_self, and_true, true_and, and_false, false_and]
      · simp (disch := omega) only [s_Mo_learn_93, s_Mo_learn_147, s_Mo_learn_174, s_Mo_learn_206, h1, m_is, m_g0, m_g1, m_g2, m_g3, m_g4, m_g5, m_g6, m_g7, m_g8, m_g9, m_g10, m_g11, m_g12, m_g13, m_g14, m_g15, m_g16, m_g17, m_g18, m_g19, m_g20, m_g21, m_g22, m_g23, m_g24, m_g25, m_g26, m_g27, m_g28, m_g29, m_g30, m_g31, m_g32, m_g33, m_g34, m_g35, m_g36, m_g37, m_g38, m_g39, m_p0, m_p34, m_p37, m_p38, m_p39, m_r1, m_w1, m_r2, m_w2, m_r3, m_w3, m_r4, m_w4, m_r5, m_w5, m_r6, m_w6, m_r7, m_w7, m_r8, m_w8, m_r9, m_w9, m_r10, m_w10, m_r11, m_w11, m_r12, m_w12, m_r13, m_w13, m_r14, m_w14, m_r15, m_w15, m_r16, m_w16, m_r17, m_w17, m_r18, m_w18, m_r19, m_w19, m_r20, m_w20, m_r21, m_w21, m_r22, m_w22, m_r23, m_w23, m_r24, m_w24, m_r25, m_w25, m_r26, m_w26, m_r27, m_w27, m_r28, m_w28, m_r29, m_w29, m_r30, m_w30, m_r31, m_w31, m_r32, m_w32, m_r33, m_w33, m_r34, m_w34, mSN_at, mSN_2, mSI_1, mSI_at, mSI_22, mSL_1, mSL_21, mSL_at, mSL_222, mSs_1, mSs_21, mSs_221, mSs_at, mSs_f, mSf_1, mSf_21, mSf_221, mSf_s, mSf_f, zi_l0, zi_l1, zi_l2, zi_l3, zi_l4, zi_l5, zi_l6, zi_l7, zi_l8, zi_l9, zi_l10, zi_l12, zi_l18, zi_l20, zi_l30, zi_l32, zi_l36, zi_l48, zi_l64, zi_l99, zi_l100, zi_l300, zi_l512, zi_l600, zi_l900, zi_l1800, zi_l9999, Option.bind_some, zi_lt0, zi_ge0, zi_01, zi_add, zi_mul, zi_sub, zi_lt, zi_le, zi_eq, zi_bool, zi_byte, zi_short, zi_t8, zi_t16, if_pos, if_neg, if_true, if_false, or_true, true_or, and_self, and_true, true_and, and_false, false_and]
    · rw [if_neg h1]
      by_cases h2 : M.1 23 x = 1
      · have h3 : M.1 20 s = 2 := by omega
        simp (disch := omega) only [s_Mo_learn_93, s_Mo_learn_147, s_Mo_learn_174, s_Mo_learn_206, h2, h3, m_is, m_g0, m_g1, m_g2, m_g3, m_g4, m_g5, m_g6, m_g7, m_g8, m_g9, m_g10, m_g11, m_g12, m_g13, m_g14, m_g15, m_g16, m_g17, m_g18, m_g19, m_g20, m_g21, m_g22, m_g23, m_g24, m_g25, m_g26, m_g27, m_g28, m_g29, m_g30, m_g31, m_g32, m_g33, m_g34, m_g35, m_g36, m_g37, m_g38, m_g39, m_p0, m_p34, m_p37, m_p38, m_p39, m_r1, m_w1, m_r2, m_w2, m_r3, m_w3, m_r4, m_w4, m_r5, m_w5, m_r6, m_w6, m_r7, m_w7, m_r8, m_w8, m_r9, m_w9, m_r10, m_w10, m_r11, m_w11, m_r12, m_w12, m_r13, m_w13, m_r14, m_w14, m_r15, m_w15, m_r16, m_w16, m_r17, m_w17, m_r18, m_w18, m_r19, m_w19, m_r20, m_w20, m_r21, m_w21, m_r22, m_w22, m_r23, m_w23, m_r24, m_w24, m_r25, m_w25, m_r26, m_w26, m_r27, m_w27, m_r28, m_w28, m_r29, m_w29, m_r30, m_w30, m_r31, m_w31, m_r32, m_w32, m_r33, m_w33, m_r34, m_w34, mSN_at, mSN_2, mSI_1, mSI_at, mSI_22, mSL_1, mSL_21, mSL_at, mSL_222, mSs_1, mSs_21, mSs_221, mSs_at, mSs_f, mSf_1, mSf_21, mSf_221, mSf_s, mSf_f, zi_l0, zi_l1, zi_l2, zi_l3, zi_l4, zi_l5, zi_l6, zi_l7, zi_l8, zi_l9, zi_l10, zi_l12, zi_l18, zi_l20, zi_l30, zi_l32, zi_l36, zi_l48, zi_l64, zi_l99, zi_l100, zi_l300, zi_l512, zi_l600, zi_l900, zi_l1800, zi_l9999, Option.bind_some, zi_lt0, zi_ge0, zi_01, zi_add, zi_mul, zi_sub, zi_lt, zi_le, zi_eq, zi_bool, zi_byte, zi_short, zi_t8, zi_t16, if_pos, if_neg, if_true, if_false, or_true, true_or, and_self, and_true, true_and, and_false, false_and]
      · by_cases h4 : M.1 23 x = 2
        · have h3 : M.1 20 s = 2 := by omega
          simp (disch := omega) only [s_Mo_learn_93, s_Mo_learn_147, s_Mo_learn_174, s_Mo_learn_206, h4, h3, m_is, m_g0, m_g1, m_g2, m_g3, m_g4, m_g5, m_g6, m_g7, m_g8, m_g9, m_g10, m_g11, m_g12, m_g13, m_g14, m_g15, m_g16, m_g17, m_g18, m_g19, m_g20, m_g21, m_g22, m_g23, m_g24, m_g25, m_g26, m_g27, m_g28, m_g29, m_g30, m_g31, m_g32, m_g33, m_g34, m_g35, m_g36, m_g37, m_g38, m_g39, m_p0, m_p34, m_p37, m_p38, m_p39, m_r1, m_w1, m_r2, m_w2, m_r3, m_w3, m_r4, m_w4, m_r5, m_w5, m_r6, m_w6, m_r7, m_w7, m_r8, m_w8, m_r9, m_w9, m_r10, m_w10, m_r11, m_w11, m_r12, m_w12, m_r13, m_w13, m_r14, m_w14, m_r15, m_w15, m_r16, m_w16, m_r17, m_w17, m_r18, m_w18, m_r19, m_w19, m_r20, m_w20, m_r21, m_w21, m_r22, m_w22, m_r23, m_w23, m_r24, m_w24, m_r25, m_w25, m_r26, m_w26, m_r27, m_w27, m_r28, m_w28, m_r29, m_w29, m_r30, m_w30, m_r31, m_w31, m_r32, m_w32, m_r33, m_w33, m_r34, m_w34, mSN_at, mSN_2, mSI_1, mSI_at, mSI_22, mSL_1, mSL_21, mSL_at, mSL_222, mSs_1, mSs_21, mSs_221, mSs_at, mSs_f, mSf_1, mSf_21, mSf_221, mSf_s, mSf_f, zi_l0, zi_l1, zi_l2, zi_l3, zi_l4, zi_l5, zi_l6, zi_l7, zi_l8, zi_l9, zi_l10, zi_l12, zi_l18, zi_l20, zi_l30, zi_l32, zi_l36, zi_l48, zi_l64, zi_l99, zi_l100, zi_l300, zi_l512, zi_l600, zi_l900, zi_l1800, zi_l9999, Option.bind_some, zi_lt0, zi_ge0, zi_01, zi_add, zi_mul, zi_sub, zi_lt, zi_le, zi_eq, zi_bool, zi_byte, zi_short, zi_t8, zi_t16, if_pos, if_neg, if_true, if_false, or_true, true_or, and_self, and_true, true_and, and_false, false_and]
        · simp (disch := omega) only [s_Mo_learn_93, s_Mo_learn_147, s_Mo_learn_174, s_Mo_learn_206, m_is, m_g0, m_g1, m_g2, m_g3, m_g4, m_g5, m_g6, m_g7, m_g8, m_g9, m_g10, m_g11, m_g12, m_g13, m_g14, m_g15, m_g16, m_g17, m_g18, m_g19, m_g20, m_g21, m_g22, m_g23, m_g24, m_g25, m_g26, m_g27, m_g28, m_g29, m_g30, m_g31, m_g32, m_g33, m_g34, m_g35, m_g36, m_g37, m_g38, m_g39, m_p0, m_p34, m_p37, m_p38, m_p39, m_r1, m_w1, m_r2, m_w2, m_r3, m_w3, m_r4, m_w4, m_r5, m_w5, m_r6, m_w6, m_r7, m_w7, m_r8, m_w8, m_r9, m_w9, m_r10, m_w10, m_r11, m_w11, m_r12, m_w12, m_r13, m_w13, m_r14, m_w14, m_r15, m_w15, m_r16, m_w16, m_r17, m_w17, m_r18, m_w18, m_r19, m_w19, m_r20, m_w20, m_r21, m_w21, m_r22, m_w22, m_r23, m_w23, m_r24, m_w24, m_r25, m_w25, m_r26, m_w26, m_r27, m_w27, m_r28, m_w28, m_r29, m_w29, m_r30, m_w30, m_r31, m_w31, m_r32, m_w32, m_r33, m_w33, m_r34, m_w34, mSN_at, mSN_2, mSI_1, mSI_at, mSI_22, mSL_1, mSL_21, mSL_at, mSL_222, mSs_1, mSs_21, mSs_221, mSs_at, mSs_f, mSf_1, mSf_21, mSf_221, mSf_s, mSf_f, zi_l0, zi_l1, zi_l2, zi_l3, zi_l4, zi_l5, zi_l6, zi_l7, zi_l8, zi_l9, zi_l10, zi_l12, zi_l18, zi_l20, zi_l30, zi_l32, zi_l36, zi_l48, zi_l64, zi_l99, zi_l100, zi_l300, zi_l512, zi_l600, zi_l900, zi_l1800, zi_l9999, Option.bind_some, zi_lt0, zi_ge0, zi_01, zi_add, zi_mul, zi_sub, zi_lt, zi_le, zi_eq, zi_bool, zi_byte, zi_short, zi_t8, zi_t16, if_pos, if_neg, if_true, if_false, or_true, true_or, and_self, and_true, true_and, and_false, false_and]
theorem M_learn_1 {s j i b f t n e y : Nat} (hs : s < 3) (hj : j < 36) (hM : mOK M) (hi : i < 600) (he : M.1 13 (600 * j + i) = e) (hk : e / 2 < 300) (h7 : M.1 7 (300 * j + e / 2) = y) (hx : 1 ≤ y ∧ y ≤ 300) (hf : f + t < 2147483648 ∧ i < f + t) : s_Mo_learn_20 g (n + 1) am (zi b) (zi s) (zi f) (zi t) (zi j) (zi i) (mW am M ρ) = s_Mo_learn_20 g n am (zi b) (zi s) (zi f) (zi t) (zi j) (zi (i + 1)) (mW am (mLq M s (300 * j + e / 2) (300 * s + y - 1) (e % 2)) ρ) := by
  rw [s_Mo_learn_20]
  have h0 : e % 2 = 0 ∨ e % 2 = 1 := by omega
  have q := fun v hv => M_learn_93 (g := g) (am := am) (M := M) (ρ := ρ) (s := s) (k := 300 * j + e / 2) (x := 300 * s + y - 1) (v := v) (b := b) (f := f) (t := t) (j := j) (i := i) (kk := fun v0 v1 v2 v3 v4 v5 v6 σ => s_Mo_learn_20 g n v0 v1 v2 v3 v4 v5 v6 σ) hs (by omega) (by omega) hM hv
  rcases h0 with h0 | h0
  · rw [h0, ← q 0 (Or.inl rfl)]
    simp (disch := omega) only [s_Mo_at, zi_div2, he, h7, m_is, m_g0, m_g1, m_g2, m_g3, m_g4, m_g5, m_g6, m_g7, m_g8, m_g9, m_g10, m_g11, m_g12, m_g13, m_g14, m_g15, m_g16, m_g17, m_g18, m_g19, m_g20, m_g21, m_g22, m_g23, m_g24, m_g25, m_g26, m_g27, m_g28, m_g29, m_g30, m_g31, m_g32, m_g33, m_g34, m_g35, m_g36, m_g37, m_g38, m_g39, m_p0, m_p34, m_p37, m_p38, m_p39, m_r1, m_w1, m_r2, m_w2, m_r3, m_w3, m_r4, m_w4, m_r5, m_w5, m_r6, m_w6, m_r7, m_w7, m_r8, m_w8, m_r9, m_w9, m_r10, m_w10, m_r11, m_w11, m_r12, m_w12, m_r13, m_w13, m_r14, m_w14, m_r15, m_w15, m_r16, m_w16, m_r17, m_w17, m_r18, m_w18, m_r19, m_w19, m_r20, m_w20, m_r21, m_w21, m_r22, m_w22, m_r23, m_w23, m_r24, m_w24, m_r25, m_w25, m_r26, m_w26, m_r27, m_w27, m_r28, m_w28, m_r29, m_w29, m_r30, m_w30, m_r31, m_w31, m_r32, m_w32, m_r33, m_w33, m_r34, m_w34, mSN_at, mSN_2, mSI_1, mSI_at, mSI_22, mSL_1, mSL_21, mSL_at, mSL_222, mSs_1, mSs_21, mSs_221, mSs_at, mSs_f, mSf_1, mSf_21, mSf_221, mSf_s, mSf_f, zi_l0, zi_l1, zi_l2, zi_l3, zi_l4, zi_l5, zi_l6, zi_l7, zi_l8, zi_l9, zi_l10, zi_l12, zi_l18, zi_l20, zi_l30, zi_l32, zi_l36, zi_l48, zi_l64, zi_l99, zi_l100, zi_l300, zi_l512, zi_l600, zi_l900, zi_l1800, zi_l9999, Option.bind_some, zi_lt0, zi_ge0, zi_01, zi_add, zi_mul, zi_sub, zi_lt, zi_le, zi_eq, zi_bool, zi_byte, zi_short, zi_t8, zi_t16, if_pos, if_neg, if_true, if_false, or_true, true_or, and_self, and_true, true_and, and_false, false_and]
  · rw [h0, ← q 1 (Or.inr rfl)]
    simp (disch := omega) only [s_Mo_at, zi_div2, he, h7, m_is, m_g0, m_g1, m_g2, m_g3, m_g4, m_g5, m_g6, m_g7, m_g8, m_g9, m_g10, m_g11, m_g12, m_g13, m_g14, m_g15, m_g16, m_g17, m_g18, m_g19, m_g20, m_g21, m_g22, m_g23, m_g24, m_g25, m_g26, m_g27, m_g28, m_g29, m_g30, m_g31, m_g32, m_g33, m_g34, m_g35, m_g36, m_g37, m_g38, m_g39, m_p0, m_p34, m_p37, m_p38, m_p39, m_r1, m_w1, m_r2, m_w2, m_r3, m_w3, m_r4, m_w4, m_r5, m_w5, m_r6, m_w6, m_r7, m_w7, m_r8, m_w8, m_r9, m_w9, m_r10, m_w10, m_r11, m_w11, m_r12, m_w12, m_r13, m_w13, m_r14, m_w14, m_r15, m_w15, m_r16, m_w16, m_r17, m_w17, m_r18, m_w18, m_r19, m_w19, m_r20, m_w20, m_r21, m_w21, m_r22, m_w22, m_r23, m_w23, m_r24, m_w24, m_r25, m_w25, m_r26, m_w26, m_r27, m_w27, m_r28, m_w28, m_r29, m_w29, m_r30, m_w30, m_r31, m_w31, m_r32, m_w32, m_r33, m_w33, m_r34, m_w34, mSN_at, mSN_2, mSI_1, mSI_at, mSI_22, mSL_1, mSL_21, mSL_at, mSL_222, mSs_1, mSs_21, mSs_221, mSs_at, mSs_f, mSf_1, mSf_21, mSf_221, mSf_s, mSf_f, zi_l0, zi_l1, zi_l2, zi_l3, zi_l4, zi_l5, zi_l6, zi_l7, zi_l8, zi_l9, zi_l10, zi_l12, zi_l18, zi_l20, zi_l30, zi_l32, zi_l36, zi_l48, zi_l64, zi_l99, zi_l100, zi_l300, zi_l512, zi_l600, zi_l900, zi_l1800, zi_l9999, Option.bind_some, zi_lt0, zi_ge0, zi_01, zi_add, zi_mul, zi_sub, zi_lt, zi_le, zi_eq, zi_bool, zi_byte, zi_short, zi_t8, zi_t16, if_pos, if_neg, if_true, if_false, or_true, true_or, and_self, and_true, true_and, and_false, false_and]
end MRUN4
