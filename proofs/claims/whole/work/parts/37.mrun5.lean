section MRUN5
variable {g : zG} {am : Nat} {M : mS} {ρ : zS}
def mLn (M : mS) (s j f : Nat) : Nat → mS
  | 0 => M
  | n + 1 => mLq (mLn M s j f n) s (300 * j + M.1 13 (600 * j + (f + n)) / 2) (300 * s + M.1 7 (300 * j + M.1 13 (600 * j + (f + n)) / 2) - 1) (M.1 13 (600 * j + (f + n)) % 2)
theorem mLn_row {s j f n a b : Nat} (h : ¬ a = 23 ∧ ¬ a = 27) : (mLn M s j f n).1 a b = M.1 a b := by
  induction n with
  | zero => rfl
  | succ n ih =>
    rw [mLn, mLq_row h]
    exact ih
theorem mLn_rowI {s j f n a b : Nat} (h : ¬ a = 26) : (mLn M s j f n).2.1 a b = M.2.1 a b := by
  induction n with
  | zero => rfl
  | succ n ih =>
    rw [mLn, mLq_rowI h]
    exact ih
theorem mLn_rowL {s j f n a b : Nat} (h : ¬ a = 25) : (mLn M s j f n).2.2.1 a b = M.2.2.1 a b := by
  induction n with
  | zero => rfl
  | succ n ih =>
    rw [mLn, mLq_rowL h]
    exact ih
theorem mLn_s {s j f n : Nat} : (mLn M s j f n).2.2.2 = M.2.2.2 := by
  induction n with
  | zero => rfl
  | succ n ih =>
    rw [mLn, mLq_s]
    exact ih
theorem mOK.ln (h : mOK M) {s j f n : Nat} : mOK (mLn M s j f n) := by
  induction n with
  | zero => exact h
  | succ n ih => exact ih.lq
theorem M_learn_20 {s j b f t : Nat} (hs : s < 3) (hj : j < 36) (hM : mOK M) (hf : f + t ≤ 600) (hev : ∀ i, f ≤ i → i < f + t → M.1 13 (600 * j + i) / 2 < 300 ∧ 1 ≤ M.1 7 (300 * j + M.1 13 (600 * j + i) / 2) ∧ M.1 7 (300 * j + M.1 13 (600 * j + i) / 2) ≤ 300) : ∀ (m n fuel : Nat), n + m = t → m < fuel → s_Mo_learn_20 g fuel am (zi b) (zi s) (zi f) (zi t) (zi j) (zi (f + n)) (mW am (mLn M s j f n) ρ) = some (mW am (mLn M s j f t) ρ) := by
  intro m
  induction m with
  | zero =>
    intro n fuel hn hfu
    obtain ⟨fu, rfl⟩ : ∃ fu, fuel = fu + 1 := ⟨fuel - 1, by omega⟩
    rw [s_Mo_learn_20]
    simp (disch := omega) only [m_is, m_g0, m_g1, m_g2, m_g3, m_g4, m_g5, m_g6, m_g7, m_g8, m_g9, m_g10, m_g11, m_g12, m_g13, m_g14, m_g15, m_g16, m_g17, m_g18, m_g19, m_g20, m_g21, m_g22, m_g23, m_g24, m_g25, m_g26, m_g27, m_g28, m_g29, m_g30, m_g31, m_g32, m_g33, m_g34, m_g35, m_g36, m_g37, m_g38, m_g39, m_p0, m_p34, m_p37, m_p38, m_p39, m_r1, m_w1, m_r2, m_w2, m_r3, m_w3, m_r4, m_w4, m_r5, m_w5, m_r6, m_w6, m_r7, m_w7, m_r8, m_w8, m_r9, m_w9, m_r10, m_w10, m_r11, m_w11, m_r12, m_w12, m_r13, m_w13, m_r14, m_w14, m_r15, m_w15, m_r16, m_w16, m_r17, m_w17, m_r18, m_w18, m_r19, m_w19, m_r20, m_w20, m_r21, m_w21, m_r22, m_w22, m_r23, m_w23, m_r24, m_w24, m_r25, m_w25, m_r26, m_w26, m_r27, m_w27, m_r28, m_w28, m_r29, m_w29, m_r30, m_w30, m_r31, m_w31, m_r32, m_w32, m_r33, m_w33, m_r34, m_w34, mSN_at, mSN_2, mSI_1, mSI_at, mSI_22, mSL_1, mSL_21, mSL_at, mSL_222, mSs_1, mSs_21, mSs_221, mSs_at, mSs_f, mSf_1, mSf_21, mSf_221, mSf_s, mSf_f, zi_l0, zi_l1, zi_l2, zi_l3, zi_l4, zi_l5, zi_l6, zi_l7, zi_l8, zi_l9, zi_l10, zi_l12, zi_l18, zi_l20, zi_l30, zi_l32, zi_l36, zi_l48, zi_l64, zi_l99, zi_l100, zi_l300, zi_l512, zi_l600, zi_l900, zi_l1800, zi_l9999, Option.bind_some, zi_lt0, zi_ge0, zi_01, zi_add, zi_mul, zi_sub, zi_lt, zi_le, zi_eq, zi_bool, zi_byte, zi_short, zi_t8, zi_t16, if_pos, if_neg, if_true, if_false, or_true, true_or, and_self, and_true, true_and, and_false, false_and]
    rw [show n = t from by omega]
  | succ m ih =>
    intro n fuel hn hfu
    obtain ⟨fu, rfl⟩ : ∃ fu, fuel = fu + 1 := ⟨fuel - 1, by omega⟩
    have h := hev (f + n) (by omega) (by omega)
    rw [M_learn_1 (M := mLn M s j f n) (e := M.1 13 (600 * j + (f + n))) (y := M.1 7 (300 * j + M.1 13 (600 * j + (f + n)) / 2)) hs hj hM.ln (by omega) (mLn_row (by decide)) h.1 (mLn_row (by decide)) h.2 (by omega)]
    exact ih (n + 1) fu (by omega) (by omega)
theorem M_learn {s b f t : Nat} (hs : s < 3) (hb : b < 6) (hM : mOK M) (hf : f + t ≤ 600) (hev : ∀ i, f ≤ i → i < f + t → M.1 13 (600 * (3 * (b + 6) + s) + i) / 2 < 300 ∧ 1 ≤ M.1 7 (300 * (3 * (b + 6) + s) + M.1 13 (600 * (3 * (b + 6) + s) + i) / 2) ∧ M.1 7 (300 * (3 * (b + 6) + s) + M.1 13 (600 * (3 * (b + 6) + s) + i) / 2) ≤ 300) : s_Mo_learn g am (zi b) (zi s) (zi f) (zi t) (mW am M ρ) = some (mW am (mLn (mSN M 30 b 2) s (3 * (b + 6) + s) f t) ρ) := by
  unfold s_Mo_learn
  simp (disch := omega) only [m_is, m_g0, m_g1, m_g2, m_g3, m_g4, m_g5, m_g6, m_g7, m_g8, m_g9, m_g10, m_g11, m_g12, m_g13, m_g14, m_g15, m_g16, m_g17, m_g18, m_g19, m_g20, m_g21, m_g22, m_g23, m_g24, m_g25, m_g26, m_g27, m_g28, m_g29, m_g30, m_g31, m_g32, m_g33, m_g34, m_g35, m_g36, m_g37, m_g38, m_g39, m_p0, m_p34, m_p37, m_p38, m_p39, m_r1, m_w1, m_r2, m_w2, m_r3, m_w3, m_r4, m_w4, m_r5, m_w5, m_r6, m_w6, m_r7, m_w7, m_r8, m_w8, m_r9, m_w9, m_r10, m_w10, m_r11, m_w11, m_r12, m_w12, m_r13, m_w13, m_r14, m_w14, m_r15, m_w15, m_r16, m_w16, m_r17, m_w17, m_r18, m_w18, m_r19, m_w19, m_r20, m_w20, m_r21, m_w21, m_r22, m_w22, m_r23, m_w23, m_r24, m_w24, m_r25, m_w25, m_r26, m_w26, m_r27, m_w27, m_r28, m_w28, m_r29, m_w29, m_r30, m_w30, m_r31, m_w31, m_r32, m_w32, m_r33, m_w33, m_r34, m_w34, mSN_at, mSN_2, mSI_1, mSI_at, mSI_22, mSL_1, mSL_21, mSL_at, mSL_222, mSs_1, mSs_21, mSs_221, mSs_at, mSs_f, mSf_1, mSf_21, mSf_221, mSf_s, mSf_f, zi_l0, zi_l1, zi_l2, zi_l3, zi_l4, zi_l5, zi_l6, zi_l7, zi_l8, zi_l9, zi_l10, zi_l12, zi_l18, zi_l20, zi_l30, zi_l32, zi_l36, zi_l48, zi_l64, zi_l99, zi_l100, zi_l300, zi_l512, zi_l600, zi_l900, zi_l1800, zi_l9999, Option.bind_some, zi_lt0, zi_ge0, zi_01, zi_add, zi_mul, zi_sub, zi_lt, zi_le, zi_eq, zi_bool, zi_byte, zi_short, zi_t8, zi_t16, if_pos, if_neg, if_true, if_false, or_true, true_or, and_self, and_true, true_and, and_false, false_and]
  exact M_learn_20 (M := mSN M 30 b 2) (f := f) (t := t) hs (by omega) (hM.set (by decide)) hf hev t 0 zfuel (by omega) (by unfold zfuel; omega)
theorem M_safeB {b : Nat} (hb : b < M.2.2.2.1 1) (hn : M.2.2.2.1 1 ≤ 6) (h2 : ∀ s, s < 3 → M.1 2 (3 * b + s) ≤ 300) (h5 : ∀ s, s < 3 → M.1 5 (3 * b + s) ≤ 600) (hM : mOK M) : s_Mo_safe g am (zi b) (mW am M ρ) = some (mW am (mCpR M b (b + 6)) ρ) := by
  have h := M_copyBranch (g := g) (am := am) (M := M) (ρ := ρ) (f := b) (t := b + 6) (by omega) h2 h5 hM
  unfold s_Mo_safe
  simp (disch := omega) only [h, s_Mo_safe_26, m_is, m_g0, m_g1, m_g2, m_g3, m_g4, m_g5, m_g6, m_g7, m_g8, m_g9, m_g10, m_g11, m_g12, m_g13, m_g14, m_g15, m_g16, m_g17, m_g18, m_g19, m_g20, m_g21, m_g22, m_g23, m_g24, m_g25, m_g26, m_g27, m_g28, m_g29, m_g30, m_g31, m_g32, m_g33, m_g34, m_g35, m_g36, m_g37, m_g38, m_g39, m_p0, m_p34, m_p37, m_p38, m_p39, m_r1, m_w1, m_r2, m_w2, m_r3, m_w3, m_r4, m_w4, m_r5, m_w5, m_r6, m_w6, m_r7, m_w7, m_r8, m_w8, m_r9, m_w9, m_r10, m_w10, m_r11, m_w11, m_r12, m_w12, m_r13, m_w13, m_r14, m_w14, m_r15, m_w15, m_r16, m_w16, m_r17, m_w17, m_r18, m_w18, m_r19, m_w19, m_r20, m_w20, m_r21, m_w21, m_r22, m_w22, m_r23, m_w23, m_r24, m_w24, m_r25, m_w25, m_r26, m_w26, m_r27, m_w27, m_r28, m_w28, m_r29, m_w29, m_r30, m_w30, m_r31, m_w31, m_r32, m_w32, m_r33, m_w33, m_r34, m_w34, mSN_at, mSN_2, mSI_1, mSI_at, mSI_22, mSL_1, mSL_21, mSL_at, mSL_222, mSs_1, mSs_21, mSs_221, mSs_at, mSs_f, mSf_1, mSf_21, mSf_221, mSf_s, mSf_f, zi_l0, zi_l1, zi_l2, zi_l3, zi_l4, zi_l5, zi_l6, zi_l7, zi_l8, zi_l9, zi_l10, zi_l12, zi_l18, zi_l20, zi_l30, zi_l32, zi_l36, zi_l48, zi_l64, zi_l99, zi_l100, zi_l300, zi_l512, zi_l600, zi_l900, zi_l1800, zi_l9999, Option.bind_some, zi_lt0, zi_ge0, zi_01, zi_add, zi_mul, zi_sub, zi_lt, zi_le, zi_eq, zi_bool, zi_byte, zi_short, zi_t8, zi_t16, if_pos, if_neg, if_true, if_false, or_true, true_or, and_self, and_true, true_and, and_false, false_and]
theorem M_safeO {b : Nat} (hb : b = M.2.2.2.1 1) (hn : M.2.2.2.1 1 ≤ 6) (hM : mOK M) : s_Mo_safe g am (zi b) (mW am M ρ) = some (mW am (mCpO M 0 1) ρ) := by
  have h := M_copyOffice (g := g) (am := am) (M := M) (ρ := ρ) (f := 0) (t := 1) (by omega) hM
  unfold s_Mo_safe
  simp (disch := omega) only [h, s_Mo_safe_26, m_is, m_g0, m_g1, m_g2, m_g3, m_g4, m_g5, m_g6, m_g7, m_g8, m_g9, m_g10, m_g11, m_g12, m_g13, m_g14, m_g15, m_g16, m_g17, m_g18, m_g19, m_g20, m_g21, m_g22, m_g23, m_g24, m_g25, m_g26, m_g27, m_g28, m_g29, m_g30, m_g31, m_g32, m_g33, m_g34, m_g35, m_g36, m_g37, m_g38, m_g39, m_p0, m_p34, m_p37, m_p38, m_p39, m_r1, m_w1, m_r2, m_w2, m_r3, m_w3, m_r4, m_w4, m_r5, m_w5, m_r6, m_w6, m_r7, m_w7, m_r8, m_w8, m_r9, m_w9, m_r10, m_w10, m_r11, m_w11, m_r12, m_w12, m_r13, m_w13, m_r14, m_w14, m_r15, m_w15, m_r16, m_w16, m_r17, m_w17, m_r18, m_w18, m_r19, m_w19, m_r20, m_w20, m_r21, m_w21, m_r22, m_w22, m_r23, m_w23, m_r24, m_w24, m_r25, m_w25, m_r26, m_w26, m_r27, m_w27, m_r28, m_w28, m_r29, m_w29, m_r30, m_w30, m_r31, m_w31, m_r32, m_w32, m_r33, m_w33, m_r34, m_w34, mSN_at, mSN_2, mSI_1, mSI_at, mSI_22, mSL_1, mSL_21, mSL_at, mSL_222, mSs_1, mSs_21, mSs_221, mSs_at, mSs_f, mSf_1, mSf_21, mSf_221, mSf_s, mSf_f, zi_l0, zi_l1, zi_l2, zi_l3, zi_l4, zi_l5, zi_l6, zi_l7, zi_l8, zi_l9, zi_l10, zi_l12, zi_l18, zi_l20, zi_l30, zi_l32, zi_l36, zi_l48, zi_l64, zi_l99, zi_l100, zi_l300, zi_l512, zi_l600, zi_l900, zi_l1800, zi_l9999, Option.bind_some, zi_lt0, zi_ge0, zi_01, zi_add, zi_mul, zi_sub, zi_lt, zi_le, zi_eq, zi_bool, zi_byte, zi_short, zi_t8, zi_t16, if_pos, if_neg, if_true, if_false, or_true, true_or, and_self, and_true, true_and, and_false, false_and]
def mSendQ (M : mS) (a b c d e f : Nat) : mS := if M.2.2.2.1 34 < 64 then mSend M a b c d e f else M
theorem M_sendQ {a b c d e f : Nat} (hL : M.2.2.2.1 34 ≤ 64) : s_Mo_send g am (zi a) (zi b) (zi c) (zi d) (zi e) (zi f) (zi 0) (mW am M ρ) = some (mW am (mSendQ M a b c d e f) ρ) := by
  unfold mSendQ
  split
  · exact M_send (by assumption)
  · exact M_sendF (by omega)
theorem M_sendAnswer {b : Nat} (hb : b < 6) (hL : M.2.2.2.1 34 ≤ 64) : s_Mo_sendAnswer g am (zi b) (mW am M ρ) = some (mW am (mSendQ M 3 b (M.1 29 b) (M.1 30 b) (M.1 31 b) (M.1 32 b)) ρ) := by
  have h := M_sendQ (g := g) (am := am) (M := M) (ρ := ρ) (a := 3) (b := b) (c := M.1 29 b) (d := M.1 30 b) (e := M.1 31 b) (f := M.1 32 b) hL
  unfold s_Mo_sendAnswer
  simp (disch := omega) only [h, m_is, m_g0, m_g1, m_g2, m_g3, m_g4, m_g5, m_g6, m_g7, m_g8, m_g9, m_g10, m_g11, m_g12, m_g13, m_g14, m_g15, m_g16, m_g17, m_g18, m_g19, m_g20, m_g21, m_g22, m_g23, m_g24, m_g25, m_g26, m_g27, m_g28, m_g29, m_g30, m_g31, m_g32, m_g33, m_g34, m_g35, m_g36, m_g37, m_g38, m_g39, m_p0, m_p34, m_p37, m_p38, m_p39, m_r1, m_w1, m_r2, m_w2, m_r3, m_w3, m_r4, m_w4, m_r5, m_w5, m_r6, m_w6, m_r7, m_w7, m_r8, m_w8, m_r9, m_w9, m_r10, m_w10, m_r11, m_w11, m_r12, m_w12, m_r13, m_w13, m_r14, m_w14, m_r15, m_w15, m_r16, m_w16, m_r17, m_w17, m_r18, m_w18, m_r19, m_w19, m_r20, m_w20, m_r21, m_w21, m_r22, m_w22, m_r23, m_w23, m_r24, m_w24, m_r25, m_w25, m_r26, m_w26, m_r27, m_w27, m_r28, m_w28, m_r29, m_w29, m_r30, m_w30, m_r31, m_w31, m_r32, m_w32, m_r33, m_w33, m_r34, m_w34, mSN_at, mSN_2, mSI_1, mSI_at, mSI_22, mSL_1, mSL_21, mSL_at, mSL_222, mSs_1, mSs_21, mSs_221, mSs_at, mSs_f, mSf_1, mSf_21, mSf_221, mSf_s, mSf_f, zi_l0, zi_l1, zi_l2, zi_l3, zi_l4, zi_l5, zi_l6, zi_l7, zi_l8, zi_l9, zi_l10, zi_l12, zi_l18, zi_l20, zi_l30, zi_l32, zi_l36, zi_l48, zi_l64, zi_l99, zi_l100, zi_l300, zi_l512, zi_l600, zi_l900, zi_l1800, zi_l9999, Option.bind_some, zi_lt0, zi_ge0, zi_01, zi_add, zi_mul, zi_sub, zi_lt, zi_le, zi_eq, zi_bool, zi_byte, zi_short, zi_t8, zi_t16, if_pos, if_neg, if_true, if_false, or_true, true_or, and_self, and_true, true_and, and_false, false_and]
theorem M_answered0 {b n w f z : Nat} (hb : b < 6) (hM : mOK M) (h : M.1 18 b = 0 ∨ ¬ M.1 14 b = n) (hn : n < 2147483648) : s_Mo_answered g am (zi b) (zi n) (zi w) (zi f) (zi z) (mW am M ρ) = some (mW am M ρ) := by
  have e18 := hM.b2 (j := 18) (by omega) b
  have e14 := hM.b31 14 b
  unfold s_Mo_answered
  by_cases h1 : M.1 18 b = 0
  · simp (disch := omega) only [h1, s_Mo_answered_19, m_is, m_g0, m_g1, m_g2, m_g3, m_g4, m_g5, m_g6, m_g7, m_g8, m_g9, m_g10, m_g11, m_g12, m_g13, m_g14, m_g15, m_g16, m_g17, m_g18, m_g19, m_g20, m_g21, m_g22, m_g23, m_g24, m_g25, m_g26, m_g27, m_g28, m_g29, m_g30, m_g31, m_g32, m_g33, m_g34, m_g35, m_g36, m_g37, m_g38, m_g39, m_p0, m_p34, m_p37, m_p38, m_p39, m_r1, m_w1, m_r2, m_w2, m_r3, m_w3, m_r4, m_w4, m_r5, m_w5, m_r6, m_w6, m_r7, m_w7, m_r8, m_w8, m_r9, m_w9, m_r10, m_w10, m_r11, m_w11, m_r12, m_w12, m_r13, m_w13, m_r14, m_w14, m_r15, m_w15, m_r16, m_w16, m_r17, m_w17, m_r18, m_w18, m_r19, m_w19, m_r20, m_w20, m_r21, m_w21, m_r22, m_w22, m_r23, m_w23, m_r24, m_w24, m_r25, m_w25, m_r26, m_w26, m_r27, m_w27, m_r28, m_w28, m_r29, m_w29, m_r30, m_w30, m_r31, m_w31, m_r32, m_w32, m_r33, m_w33, m_r34, m_w34, mSN_at, mSN_2, mSI_1, mSI_at, mSI_22, mSL_1, mSL_21, mSL_at, mSL_222, mSs_1, mSs_21, mSs_221, mSs_at, mSs_f, mSf_1, mSf_21, mSf_221, mSf_s, mSf_f, zi_l0, zi_l1, zi_l2, zi_l3, zi_l4, zi_l5, zi_l6, zi_l7, zi_l8, zi_l9, zi_l10, zi_l12, zi_l18, zi_l20, zi_l30, zi_l32, zi_l36, zi_l48, zi_l64, zi_l99, zi_l100, zi_l300, zi_l512, zi_l600, zi_l900, zi_l1800, zi_l9999, Option.bind_some, zi_lt0, zi_ge0, zi_01, zi_add, zi_mul, zi_sub, zi_lt, zi_le, zi_eq, zi_bool, zi_byte, zi_short, zi_t8, zi_t16, if_pos, if_neg, if_true, if_false, or_true, true_or, and_self, and_true, true_and, and_false, false_and]
  · have h2 : ¬ M.1 14 b = n := by omega
    simp (disch := omega) only [s_Mo_answered_19, m_is, m_g0, m_g1, m_g2, m_g3, m_g4, m_g5, m_g6, m_g7, m_g8, m_g9, m_g10, m_g11, m_g12, m_g13, m_g14, m_g15, m_g16, m_g17, m_g18, m_g19, m_g20, m_g21, m_g22, m_g23, m_g24, m_g25, m_g26, m_g27, m_g28, m_g29, m_g30, m_g31, m_g32, m_g33, m_g34, m_g35, m_g36, m_g37, m_g38, m_g39, m_p0, m_p34, m_p37, m_p38, m_p39, m_r1, m_w1, m_r2, m_w2, m_r3, m_w3, m_r4, m_w4, m_r5, m_w5, m_r6, m_w6, m_r7, m_w7, m_r8, m_w8, m_r9, m_w9, m_r10, m_w10, m_r11, m_w11, m_r12, m_w12, m_r13, m_w13, m_r14, m_w14, m_r15, m_w15, m_r16, m_w16, m_r17, m_w17, m_r18, m_w18, m_r19, m_w19, m_r20, m_w20, m_r21, m_w21, m_r22, m_w22, m_r23, m_w23, m_r24, m_w24, m_r25, m_w25, m_r26, m_w26, m_r27, m_w27, m_r28, m_w28, m_r29, m_w29, m_r30, m_w30, m_r31, m_w31, m_r32, m_w32, m_r33, m_w33, m_r34, m_w34, mSN_at, mSN_2, mSI_1, mSI_at, mSI_22, mSL_1, mSL_21, mSL_at, mSL_222, mSs_1, mSs_21, mSs_221, mSs_at, mSs_f, mSf_1, mSf_21, mSf_221, mSf_s, mSf_f, zi_l0, zi_l1, zi_l2, zi_l3, zi_l4, zi_l5, zi_l6, zi_l7, zi_l8, zi_l9, zi_l10, zi_l12, zi_l18, zi_l20, zi_l30, zi_l32, zi_l36, zi_l48, zi_l64, zi_l99, zi_l100, zi_l300, zi_l512, zi_l600, zi_l900, zi_l1800, zi_l9999, Option.bind_some, zi_lt0, zi_ge0, zi_01, zi_add, zi_mul, zi_sub, zi_lt, zi_le, zi_eq, zi_bool, zi_byte, zi_short, zi_t8, zi_t16, if_pos, if_neg, if_true, if_false, or_true, true_or, and_self, and_true, true_and, and_false, false_and]
theorem M_answered1 {b n f z : Nat} (hb : b < 6) (hM : mOK M) (h1 : M.1 18 b = 1) (h2 : M.1 14 b = n) (h3 : M.1 16 b < 3) (hz : 0 < z) (hz2 : M.1 2 (3 * b + M.1 16 b) + z ≤ 300) (hf : f + z < 32768) (h4 : M.1 4 (3 * b + M.1 16 b) < 32768) : s_Mo_answered g am (zi b) (zi n) (zi 1) (zi f) (zi z) (mW am M ρ) = some (mW am (mSN (mAn (mSN M 18 b 0) (3 * b + M.1 16 b) f z) 4 (3 * b + M.1 16 b) (M.1 4 (3 * b + M.1 16 b) + 1)) ρ) := by
  have e14 := hM.b31 14 b
  subst h2
  have hz0 : mAn (mSN M 18 b 0) (3 * b + M.1 16 b) f 0 = mSN M 18 b 0 := by
    refine Prod.ext ?_ rfl
    funext a c
    simp only [mAn, mFl, mFl2, mSN]
    by_cases q1 : a = 2
    · subst q1
      by_cases q2 : c = 3 * b + M.1 16 b
      · subst q2
        simp (disch := omega) only [if_pos, if_neg, and_self, if_true, Nat.add_zero]
      · simp (disch := omega) only [if_pos, if_neg]
    · simp (disch := omega) only [if_pos, if_neg]
  have h := M_answered_52 (g := g) (am := am) (ρ := ρ) (M := mSN M 18 b 0) (j := 3 * b + M.1 16 b) (f := f) (N := z) (v1 := zi b) (v2 := zi (M.1 14 b)) (v3 := zi 1) (by omega) (by simp (disch := omega) only [mSN_at, if_neg]; omega) hf (by simp (disch := omega) only [mSN_at, if_neg]; omega) z 0 zfuel (by omega) (by unfold zfuel; omega)
  rw [hz0] at h
  simp (disch := omega) only [mSN_at, if_neg] at h
  unfold s_Mo_answered
  simp (disch := omega) only [h1, m_is, m_g0, m_g1, m_g2, m_g3, m_g4, m_g5, m_g6, m_g7, m_g8, m_g9, m_g10, m_g11, m_g12, m_g13, m_g14, m_g15, m_g16, m_g17, m_g18, m_g19, m_g20, m_g21, m_g22, m_g23, m_g24, m_g25, m_g26, m_g27, m_g28, m_g29, m_g30, m_g31, m_g32, m_g33, m_g34, m_g35, m_g36, m_g37, m_g38, m_g39, m_p0, m_p34, m_p37, m_p38, m_p39, m_r1, m_w1, m_r2, m_w2, m_r3, m_w3, m_r4, m_w4, m_r5, m_w5, m_r6, m_w6, m_r7, m_w7, m_r8, m_w8, m_r9, m_w9, m_r10, m_w10, m_r11, m_w11, m_r12, m_w12, m_r13, m_w13, m_r14, m_w14, m_r15, m_w15, m_r16, m_w16, m_r17, m_w17, m_r18, m_w18, m_r19, m_w19, m_r20, m_w20, m_r21, m_w21, m_r22, m_w22, m_r23, m_w23, m_r24, m_w24, m_r25, m_w25, m_r26, m_w26, m_r27, m_w27, m_r28, m_w28, m_r29, m_w29, m_r30, m_w30, m_r31, m_w31, m_r32, m_w32, m_r33, m_w33, m_r34, m_w34, mSN_at, mSN_2, mSI_1, mSI_at, mSI_22, mSL_1, mSL_21, mSL_at, mSL_222, mSs_1, mSs_21, mSs_221, mSs_at, mSs_f, mSf_1, mSf_21, mSf_221, mSf_s, mSf_f, zi_l0, zi_l1, zi_l2, zi_l3, zi_l4, zi_l5, zi_l6, zi_l7, zi_l8, zi_l9, zi_l10, zi_l12, zi_l18, zi_l20, zi_l30, zi_l32, zi_l36, zi_l48, zi_l64, zi_l99, zi_l100, zi_l300, zi_l512, zi_l600, zi_l900, zi_l1800, zi_l9999, Option.bind_some, zi_lt0, zi_ge0, zi_01, zi_add, zi_mul, zi_sub, zi_lt, zi_le, zi_eq, zi_bool, zi_byte, zi_short, zi_t8, zi_t16, if_pos, if_neg, if_true, if_false, or_true, true_or, and_self, and_true, true_and, and_false, false_and]
  exact h
theorem M_answered1z {b n f : Nat} (hb : b < 6) (hM : mOK M) (h1 : M.1 18 b = 1) (h2 : M.1 14 b = n) (h3 : M.1 16 b < 3) : s_Mo_answered g am (zi b) (zi n) (zi 1) (zi f) (zi 0) (mW am M ρ) = some (mW am (mSN M 18 b 0) ρ) := by
  have e14 := hM.b31 14 b
  subst h2
  unfold s_Mo_answered s_Mo_answered_142
  simp (disch := omega) only [h1, s_Mo_answered_178, m_is, m_g0, m_g1, m_g2, m_g3, m_g4, m_g5, m_g6, m_g7, m_g8, m_g9, m_g10, m_g11, m_g12, m_g13, m_g14, m_g15, m_g16, m_g17, m_g18, m_g19, m_g20, m_g21, m_g22, m_g23, m_g24, m_g25, m_g26, m_g27, m_g28, m_g29, m_g30, m_g31, m_g32, m_g33, m_g34, m_g35, m_g36, m_g37, m_g38, m_g39, m_p0, m_p34, m_p37, m_p38, m_p39, m_r1, m_w1, m_r2, m_w2, m_r3, m_w3, m_r4, m_w4, m_r5, m_w5, m_r6, m_w6, m_r7, m_w7, m_r8, m_w8, m_r9, m_w9, m_r10, m_w10, m_r11, m_w11, m_r12, m_w12, m_r13, m_w13, m_r14, m_w14, m_r15, m_w15, m_r16, m_w16, m_r17, m_w17, m_r18, m_w18, m_r19, m_w19, m_r20, m_w20, m_r21, m_w21, m_r22, m_w22, m_r23, m_w23, m_r24, m_w24, m_r25, m_w25, m_r26, m_w26, m_r27, m_w27, m_r28, m_w28, m_r29, m_w29, m_r30, m_w30, m_r31, m_w31, m_r32, m_w32, m_r33, m_w33, m_r34, m_w34, mSN_at, mSN_2, mSI_1, mSI_at, mSI_22, mSL_1, mSL_21, mSL_at, mSL_222, mSs_1, mSs_21, mSs_221, mSs_at, mSs_f, mSf_1, mSf_21, mSf_221, mSf_s, mSf_f, zi_l0, zi_l1, zi_l2, zi_l3, zi_l4, zi_l5, zi_l6, zi_l7, zi_l8, zi_l9, zi_l10, zi_l12, zi_l18, zi_l20, zi_l30, zi_l32, zi_l36, zi_l48, zi_l64, zi_l99, zi_l100, zi_l300, zi_l512, zi_l600, zi_l900, zi_l1800, zi_l9999, Option.bind_some, zi_lt0, zi_ge0, zi_01, zi_add, zi_mul, zi_sub, zi_lt, zi_le, zi_eq, zi_bool, zi_byte, zi_short, zi_t8, zi_t16, if_pos, if_neg, if_true, if_false, or_true, true_or, and_self, and_true, true_and, and_false, false_and]
theorem M_answered2 {b n f z : Nat} (hb : b < 6) (hM : mOK M) (h1 : M.1 18 b = 1) (h2 : M.1 14 b = n) (h3 : M.1 16 b < 3) : s_Mo_answered g am (zi b) (zi n) (zi 2) (zi f) (zi z) (mW am M ρ) = some (mW am (mSN (mSN M 18 b 0) 6 (3 * b + M.1 16 b) (M.1 6 (3 * b + M.1 16 b) + M.1 17 b)) ρ) := by
  have e14 := hM.b31 14 b
  subst h2
  unfold s_Mo_answered s_Mo_answered_142
  simp (disch := omega) only [h1, s_Mo_answered_178, m_is, m_g0, m_g1, m_g2, m_g3, m_g4, m_g5, m_g6, m_g7, m_g8, m_g9, m_g10, m_g11, m_g12, m_g13, m_g14, m_g15, m_g16, m_g17, m_g18, m_g19, m_g20, m_g21, m_g22, m_g23, m_g24, m_g25, m_g26, m_g27, m_g28, m_g29, m_g30, m_g31, m_g32, m_g33, m_g34, m_g35, m_g36, m_g37, m_g38, m_g39, m_p0, m_p34, m_p37, m_p38, m_p39, m_r1, m_w1, m_r2, m_w2, m_r3, m_w3, m_r4, m_w4, m_r5, m_w5, m_r6, m_w6, m_r7, m_w7, m_r8, m_w8, m_r9, m_w9, m_r10, m_w10, m_r11, m_w11, m_r12, m_w12, m_r13, m_w13, m_r14, m_w14, m_r15, m_w15, m_r16, m_w16, m_r17, m_w17, m_r18, m_w18, m_r19, m_w19, m_r20, m_w20, m_r21, m_w21, m_r22, m_w22, m_r23, m_w23, m_r24, m_w24, m_r25, m_w25, m_r26, m_w26, m_r27, m_w27, m_r28, m_w28, m_r29, m_w29, m_r30, m_w30, m_r31, m_w31, m_r32, m_w32, m_r33, m_w33, m_r34, m_w34, mSN_at, mSN_2, mSI_1, mSI_at, mSI_22, mSL_1, mSL_21, mSL_at, mSL_222, mSs_1, mSs_21, mSs_221, mSs_at, mSs_f, mSf_1, mSf_21, mSf_221, mSf_s, mSf_f, zi_l0, zi_l1, zi_l2, zi_l3, zi_l4, zi_l5, zi_l6, zi_l7, zi_l8, zi_l9, zi_l10, zi_l12, zi_l18, zi_l20, zi_l30, zi_l32, zi_l36, zi_l48, zi_l64, zi_l99, zi_l100, zi_l300, zi_l512, zi_l600, zi_l900, zi_l1800, zi_l9999, Option.bind_some, zi_lt0, zi_ge0, zi_01, zi_add, zi_mul, zi_sub, zi_lt, zi_le, zi_eq, zi_bool, zi_byte, zi_short, zi_t8, zi_t16, if_pos, if_neg, if_true, if_false, or_true, true_or, and_self, and_true, true_and, and_false, false_and]
theorem M_answered3 {b n f z : Nat} (hb : b < 6) (hM : mOK M) (h1 : M.1 18 b = 1) (h2 : M.1 14 b = n) (h3 : M.1 16 b < 3) : s_Mo_answered g am (zi b) (zi n) (zi 3) (zi f) (zi z) (mW am M ρ) = some (mW am (mSN (mSN M 18 b 0) 19 b 1) ρ) := by
  have e14 := hM.b31 14 b
  subst h2
  unfold s_Mo_answered s_Mo_answered_142
  simp (disch := omega) only [h1, s_Mo_answered_178, m_is, m_g0, m_g1, m_g2, m_g3, m_g4, m_g5, m_g6, m_g7, m_g8, m_g9, m_g10, m_g11, m_g12, m_g13, m_g14, m_g15, m_g16, m_g17, m_g18, m_g19, m_g20, m_g21, m_g22, m_g23, m_g24, m_g25, m_g26, m_g27, m_g28, m_g29, m_g30, m_g31, m_g32, m_g33, m_g34, m_g35, m_g36, m_g37, m_g38, m_g39, m_p0, m_p34, m_p37, m_p38, m_p39, m_r1, m_w1, m_r2, m_w2, m_r3, m_w3, m_r4, m_w4, m_r5, m_w5, m_r6, m_w6, m_r7, m_w7, m_r8, m_w8, m_r9, m_w9, m_r10, m_w10, m_r11, m_w11, m_r12, m_w12, m_r13, m_w13, m_r14, m_w14, m_r15, m_w15, m_r16, m_w16, m_r17, m_w17, m_r18, m_w18, m_r19, m_w19, m_r20, m_w20, m_r21, m_w21, m_r22, m_w22, m_r23, m_w23, m_r24, m_w24, m_r25, m_w25, m_r26, m_w26, m_r27, m_w27, m_r28, m_w28, m_r29, m_w29, m_r30, m_w30, m_r31, m_w31, m_r32, m_w32, m_r33, m_w33, m_r34, m_w34, mSN_at, mSN_2, mSI_1, mSI_at, mSI_22, mSL_1, mSL_21, mSL_at, mSL_222, mSs_1, mSs_21, mSs_221, mSs_at, mSs_f, mSf_1, mSf_21, mSf_221, mSf_s, mSf_f, zi_l0, zi_l1, zi_l2, zi_l3, zi_l4, zi_l5, zi_l6, zi_l7, zi_l8, zi_l9, zi_l10, zi_l12, zi_l18, zi_l20, zi_l30, zi_l32, zi_l36, zi_l48, zi_l64, zi_l99, zi_l100, zi_l300, zi_l512, zi_l600, zi_l900, zi_l1800, zi_l9999, Option.bind_some, zi_lt0, zi_ge0, zi_01, zi_add, zi_mul, zi_sub, zi_lt, zi_le, zi_eq, zi_bool, zi_byte, zi_short, zi_t8, zi_t16, if_pos, if_neg, if_true, if_false, or_true, true_or, and_self, and_true, true_and, and_false, false_and]
end MRUN5
