theorem zi_dec {y : Nat} : zi (y + 1) + -(zi 1) = zi y := by
  rw [← Int32.sub_eq_add_neg, zi_sub (by omega)]
  rfl
theorem zi_m1 : (zi 0 - zi 1 < 0) = True := by
  have h : zi 0 - zi 1 < 0 := by decide
  exact propext ⟨fun _ => trivial, fun _ => h⟩
section MRUN3
variable {g : zG} {am : Nat} {M : mS} {ρ : zS}
/-! the post -/
def mSend (M : mS) (a b c d e f : Nat) : mS := mSs (mSN (mSN (mSN (mSN (mSN (mSN (mSN M 33 (8 * M.2.2.2.1 34) a) 33 (8 * M.2.2.2.1 34 + 1) b) 33 (8 * M.2.2.2.1 34 + 2) c) 33 (8 * M.2.2.2.1 34 + 3) d) 33 (8 * M.2.2.2.1 34 + 4) e) 33 (8 * M.2.2.2.1 34 + 5) f) 33 (8 * M.2.2.2.1 34 + 6) 0) 34 (M.2.2.2.1 34 + 1)
theorem M_send {a b c d e f : Nat} (hL : M.2.2.2.1 34 < 64) : s_Mo_send g am (zi a) (zi b) (zi c) (zi d) (zi e) (zi f) (zi 0) (mW am M ρ) = some (mW am (mSend M a b c d e f) ρ) := by
  simp (disch := omega) only [s_Mo_send, s_Mo_send_127, mSend, m_is, m_g0, m_g1, m_g2, m_g3, m_g4, m_g5, m_g6, m_g7, m_g8, m_g9, m_g10, m_g11, m_g12, m_g13, m_g14, m_g15, m_g16, m_g17, m_g18, m_g19, m_g20, m_g21, m_g22, m_g23, m_g24, m_g25, m_g26, m_g27, m_g28, m_g29, m_g30, m_g31, m_g32, m_g33, m_g34, m_g35, m_g36, m_g37, m_g38, m_g39, m_p0, m_p34, m_p37, m_p38, m_p39, m_r1, m_w1, m_r2, m_w2, m_r3, m_w3, m_r4, m_w4, m_r5, m_w5, m_r6, m_w6, m_r7, m_w7, m_r8, m_w8, m_r9, m_w9, m_r10, m_w10, m_r11, m_w11, m_r12, m_w12, m_r13, m_w13, m_r14, m_w14, m_r15, m_w15, m_r16, m_w16, m_r17, m_w17, m_r18, m_w18, m_r19, m_w19, m_r20, m_w20, m_r21, m_w21, m_r22, m_w22, m_r23, m_w23, m_r24, m_w24, m_r25, m_w25, m_r26, m_w26, m_r27, m_w27, m_r28, m_w28, m_r29, m_w29, m_r30, m_w30, m_r31, m_w31, m_r32, m_w32, m_r33, m_w33, m_r34, m_w34, mSN_at, mSN_2, mSI_1, mSI_at, mSI_22, mSL_1, mSL_21, mSL_at, mSL_222, mSs_1, mSs_21, mSs_221, mSs_at, mSs_f, mSf_1, mSf_21, mSf_221, mSf_s, mSf_f, zi_l0, zi_l1, zi_l2, zi_l3, zi_l4, zi_l5, zi_l6, zi_l7, zi_l8, zi_l9, zi_l10, zi_l12, zi_l18, zi_l20, zi_l30, zi_l32, zi_l36, zi_l48, zi_l64, zi_l99, zi_l100, zi_l300, zi_l512, zi_l600, zi_l900, zi_l1800, zi_l9999, Option.bind_some, zi_lt0, zi_ge0, zi_01, zi_add, zi_mul, zi_sub, zi_lt, zi_le, zi_eq, zi_bool, zi_byte, zi_short, zi_t8, zi_t16, if_pos, if_neg, if_true, if_false, or_true, true_or, and_self, and_true, true_and, and_false, false_and]
theorem M_sendF {a b c d e f : Nat} (hL : M.2.2.2.1 34 = 64) : s_Mo_send g am (zi a) (zi b) (zi c) (zi d) (zi e) (zi f) (zi 0) (mW am M ρ) = some (mW am M ρ) := by
  simp (disch := omega) only [s_Mo_send, s_Mo_send_127, hL, m_is, m_g0, m_g1, m_g2, m_g3, m_g4, m_g5, m_g6, m_g7, m_g8, m_g9, m_g10, m_g11, m_g12, m_g13, m_g14, m_g15, m_g16, m_g17, m_g18, m_g19, m_g20, m_g21, m_g22, m_g23, m_g24, m_g25, m_g26, m_g27, m_g28, m_g29, m_g30, m_g31, m_g32, m_g33, m_g34, m_g35, m_g36, m_g37, m_g38, m_g39, m_p0, m_p34, m_p37, m_p38, m_p39, m_r1, m_w1, m_r2, m_w2, m_r3, m_w3, m_r4, m_w4, m_r5, m_w5, m_r6, m_w6, m_r7, m_w7, m_r8, m_w8, m_r9, m_w9, m_r10, m_w10, m_r11, m_w11, m_r12, m_w12, m_r13, m_w13, m_r14, m_w14, m_r15, m_w15, m_r16, m_w16, m_r17, m_w17, m_r18, m_w18, m_r19, m_w19, m_r20, m_w20, m_r21, m_w21, m_r22, m_w22, m_r23, m_w23, m_r24, m_w24, m_r25, m_w25, m_r26, m_w26, m_r27, m_w27, m_r28, m_w28, m_r29, m_w29, m_r30, m_w30, m_r31, m_w31, m_r32, m_w32, m_r33, m_w33, m_r34, m_w34, mSN_at, mSN_2, mSI_1, mSI_at, mSI_22, mSL_1, mSL_21, mSL_at, mSL_222, mSs_1, mSs_21, mSs_221, mSs_at, mSs_f, mSf_1, mSf_21, mSf_221, mSf_s, mSf_f, zi_l0, zi_l1, zi_l2, zi_l3, zi_l4, zi_l5, zi_l6, zi_l7, zi_l8, zi_l9, zi_l10, zi_l12, zi_l18, zi_l20, zi_l30, zi_l32, zi_l36, zi_l48, zi_l64, zi_l99, zi_l100, zi_l300, zi_l512, zi_l600, zi_l900, zi_l1800, zi_l9999, Option.bind_some, zi_lt0, zi_ge0, zi_01, zi_add, zi_mul, zi_sub, zi_lt, zi_le, zi_eq, zi_bool, zi_byte, zi_short, zi_t8, zi_t16, if_pos, if_neg, if_true, if_false, or_true, true_or, and_self, and_true, true_and, and_false, false_and]
def mShift (M : mS) (d e : Nat) : mS := (fun a b => if a = 33 ∧ d ≤ b ∧ b < e then M.1 33 (b + 8) else M.1 a b, M.2)
theorem M_remove_15 {L : Nat} (hL : L < 64) {i : Int32} : ∀ (m k fuel : Nat) (X : mS), k + m = 8 * L → m < fuel → X.2.2.2.1 34 = L → s_Mo_remove_15 g fuel am i (zi k) (mW am X ρ) = some (mW am (mShift X k (8 * L)) ρ) := by
  intro m
  induction m with
  | zero =>
    intro k fuel X hk hf h34
    obtain ⟨fu, rfl⟩ : ∃ fu, fuel = fu + 1 := ⟨fuel - 1, by omega⟩
    rw [s_Mo_remove_15]
    simp (disch := omega) only [h34, m_is, m_g0, m_g1, m_g2, m_g3, m_g4, m_g5, m_g6, m_g7, m_g8, m_g9, m_g10, m_g11, m_g12, m_g13, m_g14, m_g15, m_g16, m_g17, m_g18, m_g19, m_g20, m_g21, m_g22, m_g23, m_g24, m_g25, m_g26, m_g27, m_g28, m_g29, m_g30, m_g31, m_g32, m_g33, m_g34, m_g35, m_g36, m_g37, m_g38, m_g39, m_p0, m_p34, m_p37, m_p38, m_p39, m_r1, m_w1, m_r2, m_w2, m_r3, m_w3, m_r4, m_w4, m_r5, m_w5, m_r6, m_w6, m_r7, m_w7, m_r8, m_w8, m_r9, m_w9, m_r10, m_w10, m_r11, m_w11, m_r12, m_w12, m_r13, m_w13, m_r14, m_w14, m_r15, m_w15, m_r16, m_w16, m_r17, m_w17, m_r18, m_w18, m_r19, m_w19, m_r20, m_w20, m_r21, m_w21, m_r22, m_w22, m_r23, m_w23, m_r24, m_w24, m_r25, m_w25, m_r26, m_w26, m_r27, m_w27, m_r28, m_w28, m_r29, m_w29, m_r30, m_w30, m_r31, m_w31, m_r32, m_w32, m_r33, m_w33, m_r34, m_w34, mSN_at, mSN_2, mSI_1, mSI_at, mSI_22, mSL_1, mSL_21, mSL_at, mSL_222, mSs_1, mSs_21, mSs_221, mSs_at, mSs_f, mSf_1, mSf_21, mSf_221, mSf_s, mSf_f, zi_l0, zi_l1, zi_l2, zi_l3, zi_l4, zi_l5, zi_l6, zi_l7, zi_l8, zi_l9, zi_l10, zi_l12, zi_l18, zi_l20, zi_l30, zi_l32, zi_l36, zi_l48, zi_l64, zi_l99, zi_l100, zi_l300, zi_l512, zi_l600, zi_l900, zi_l1800, zi_l9999, Option.bind_some, zi_lt0, zi_ge0, zi_01, zi_add, zi_mul, zi_sub, zi_lt, zi_le, zi_eq, zi_bool, zi_byte, zi_short, zi_t8, zi_t16, if_pos, if_neg, if_true, if_false, or_true, true_or, and_self, and_true, true_and, and_false, false_and]
    have hE : mShift X k (8 * L) = X := by
      unfold mShift
      refine Prod.ext ?_ rfl
      funext a b
      show (if a = 33 ∧ k ≤ b ∧ b < 8 * L then _ else _) = _
      rw [if_neg (fun q => by omega)]
    rw [hE]
  | succ m ih =>
    intro k fuel X hk hf h34
    obtain ⟨fu, rfl⟩ : ∃ fu, fuel = fu + 1 := ⟨fuel - 1, by omega⟩
    rw [s_Mo_remove_15]
    simp (disch := omega) only [h34, m_is, m_g0, m_g1, m_g2, m_g3, m_g4, m_g5, m_g6, m_g7, m_g8, m_g9, m_g10, m_g11, m_g12, m_g13, m_g14, m_g15, m_g16, m_g17, m_g18, m_g19, m_g20, m_g21, m_g22, m_g23, m_g24, m_g25, m_g26, m_g27, m_g28, m_g29, m_g30, m_g31, m_g32, m_g33, m_g34, m_g35, m_g36, m_g37, m_g38, m_g39, m_p0, m_p34, m_p37, m_p38, m_p39, m_r1, m_w1, m_r2, m_w2, m_r3, m_w3, m_r4, m_w4, m_r5, m_w5, m_r6, m_w6, m_r7, m_w7, m_r8, m_w8, m_r9, m_w9, m_r10, m_w10, m_r11, m_w11, m_r12, m_w12, m_r13, m_w13, m_r14, m_w14, m_r15, m_w15, m_r16, m_w16, m_r17, m_w17, m_r18, m_w18, m_r19, m_w19, m_r20, m_w20, m_r21, m_w21, m_r22, m_w22, m_r23, m_w23, m_r24, m_w24, m_r25, m_w25, m_r26, m_w26, m_r27, m_w27, m_r28, m_w28, m_r29, m_w29, m_r30, m_w30, m_r31, m_w31, m_r32, m_w32, m_r33, m_w33, m_r34, m_w34, mSN_at, mSN_2, mSI_1, mSI_at, mSI_22, mSL_1, mSL_21, mSL_at, mSL_222, mSs_1, mSs_21, mSs_221, mSs_at, mSs_f, mSf_1, mSf_21, mSf_221, mSf_s, mSf_f, zi_l0, zi_l1, zi_l2, zi_l3, zi_l4, zi_l5, zi_l6, zi_l7, zi_l8, zi_l9, zi_l10, zi_l12, zi_l18, zi_l20, zi_l30, zi_l32, zi_l36, zi_l48, zi_l64, zi_l99, zi_l100, zi_l300, zi_l512, zi_l600, zi_l900, zi_l1800, zi_l9999, Option.bind_some, zi_lt0, zi_ge0, zi_01, zi_add, zi_mul, zi_sub, zi_lt, zi_le, zi_eq, zi_bool, zi_byte, zi_short, zi_t8, zi_t16, if_pos, if_neg, if_true, if_false, or_true, true_or, and_self, and_true, true_and, and_false, false_and]
    rw [ih (k + 1) fu (mSN X 33 k (X.1 33 (k + 8))) (by omega) (by omega) h34]
    have hE : mShift (mSN X 33 k (X.1 33 (k + 8))) (k + 1) (8 * L) = mShift X k (8 * L) := by
      unfold mShift
      refine Prod.ext ?_ rfl
      funext a b
      show (if a = 33 ∧ k + 1 ≤ b ∧ b < 8 * L then (if 33 = 33 ∧ b + 8 = k then X.1 33 (k + 8) else X.1 33 (b + 8)) else (if a = 33 ∧ b = k then X.1 33 (k + 8) else X.1 a b)) = if a = 33 ∧ k ≤ b ∧ b < 8 * L then X.1 33 (b + 8) else X.1 a b
      by_cases ha : a = 33
      · by_cases hb : b = k
        · rw [if_neg (fun q => by omega), if_pos ⟨ha, hb⟩, if_pos ⟨ha, by omega, by omega⟩, hb]
        · by_cases hc : k + 1 ≤ b ∧ b < 8 * L
          · rw [if_pos ⟨ha, hc⟩, if_neg (fun q => by omega), if_pos ⟨ha, by omega, hc.2⟩]
          · rw [if_neg (fun q => hc q.2), if_neg (fun q => hb q.2), if_neg (fun q => by omega)]
      · rw [if_neg (fun q => ha q.1), if_neg (fun q => ha q.1), if_neg (fun q => ha q.1)]
    rw [hE]
/-- row i taken out -/
def mRem (M : mS) (i : Nat) : mS := mShift (mSs M 34 (M.2.2.2.1 34 - 1)) (8 * i) (8 * (M.2.2.2.1 34 - 1))
theorem M_remove {i : Nat} (hi : i < M.2.2.2.1 34) (hL : M.2.2.2.1 34 ≤ 64) : s_Mo_remove g am (zi i) (mW am M ρ) = some (mW am (mRem M i) ρ) := by
  unfold s_Mo_remove
  simp (disch := omega) only [m_is, m_g0, m_g1, m_g2, m_g3, m_g4, m_g5, m_g6, m_g7, m_g8, m_g9, m_g10, m_g11, m_g12, m_g13, m_g14, m_g15, m_g16, m_g17, m_g18, m_g19, m_g20, m_g21, m_g22, m_g23, m_g24, m_g25, m_g26, m_g27, m_g28, m_g29, m_g30, m_g31, m_g32, m_g33, m_g34, m_g35, m_g36, m_g37, m_g38, m_g39, m_p0, m_p34, m_p37, m_p38, m_p39, m_r1, m_w1, m_r2, m_w2, m_r3, m_w3, m_r4, m_w4, m_r5, m_w5, m_r6, m_w6, m_r7, m_w7, m_r8, m_w8, m_r9, m_w9, m_r10, m_w10, m_r11, m_w11, m_r12, m_w12, m_r13, m_w13, m_r14, m_w14, m_r15, m_w15, m_r16, m_w16, m_r17, m_w17, m_r18, m_w18, m_r19, m_w19, m_r20, m_w20, m_r21, m_w21, m_r22, m_w22, m_r23, m_w23, m_r24, m_w24, m_r25, m_w25, m_r26, m_w26, m_r27, m_w27, m_r28, m_w28, m_r29, m_w29, m_r30, m_w30, m_r31, m_w31, m_r32, m_w32, m_r33, m_w33, m_r34, m_w34, mSN_at, mSN_2, mSI_1, mSI_at, mSI_22, mSL_1, mSL_21, mSL_at, mSL_222, mSs_1, mSs_21, mSs_221, mSs_at, mSs_f, mSf_1, mSf_21, mSf_221, mSf_s, mSf_f, zi_l0, zi_l1, zi_l2, zi_l3, zi_l4, zi_l5, zi_l6, zi_l7, zi_l8, zi_l9, zi_l10, zi_l12, zi_l18, zi_l20, zi_l30, zi_l32, zi_l36, zi_l48, zi_l64, zi_l99, zi_l100, zi_l300, zi_l512, zi_l600, zi_l900, zi_l1800, zi_l9999, Option.bind_some, zi_lt0, zi_ge0, zi_01, zi_add, zi_mul, zi_sub, zi_lt, zi_le, zi_eq, zi_bool, zi_byte, zi_short, zi_t8, zi_t16, if_pos, if_neg, if_true, if_false, or_true, true_or, and_self, and_true, true_and, and_false, false_and]
  exact M_remove_15 (L := M.2.2.2.1 34 - 1) (by omega) (8 * (M.2.2.2.1 34 - 1) - 8 * i) (8 * i) zfuel _ (by omega) (by unfold zfuel; omega) rfl
/-! is a branch there -/
theorem M_there {b : Nat} (hb : b < M.2.2.2.1 1) (hn : M.2.2.2.1 1 ≤ 6) (hM : mOK M) : s_Mo_there g am (zi b) (mW am M ρ) = some (zi (1 - M.1 1 b), mW am (mSs M 0 (M.1 1 b)) ρ) := by
  have e1 := hM.b2 (j := 1) (by omega) b
  have e2 : M.1 1 b = 0 ∨ M.1 1 b = 1 := by omega
  have q := M_isBranch (g := g) (am := am) (ρ := ρ) hb hn
  rcases e2 with e2 | e2
  · have q2 := M_isBranch (g := g) (am := am) (ρ := ρ) (M := mSs M 0 0) hb hn
    simp (disch := omega) only [s_Mo_there, s_Mo_there_22, s_Mo_there_23, s_Mo_there_45, s_Mo_there_46, q, q2, e2, m_is, m_g0, m_g1, m_g2, m_g3, m_g4, m_g5, m_g6, m_g7, m_g8, m_g9, m_g10, m_g11, m_g12, m_g13, m_g14, m_g15, m_g16, m_g17, m_g18, m_g19, m_g20, m_g21, m_g22, m_g23, m_g24, m_g25, m_g26, m_g27, m_g28, m_g29, m_g30, m_g31, m_g32, m_g33, m_g34, m_g35, m_g36, m_g37, m_g38, m_g39, m_p0, m_p34, m_p37, m_p38, m_p39, m_r1, m_w1, m_r2, m_w2, m_r3, m_w3, m_r4, m_w4, m_r5, m_w5, m_r6, m_w6, m_r7, m_w7, m_r8, m_w8, m_r9, m_w9, m_r10, m_w10, m_r11, m_w11, m_r12, m_w12, m_r13, m_w13, m_r14, m_w14, m_r15, m_w15, m_r16, m_w16, m_r17, m_w17, m_r18, m_w18, m_r19, m_w19, m_r20, m_w20, m_r21, m_w21, m_r22, m_w22, m_r23, m_w23, m_r24, m_w24, m_r25, m_w25, m_r26, m_w26, m_r27, m_w27, m_r28, m_w28, m_r29, m_w29, m_r30, m_w30, m_r31, m_w31, m_r32, m_w32, m_r33, m_w33, m_r34, m_w34, mSN_at, mSN_2, mSI_1, mSI_at, mSI_22, mSL_1, mSL_21, mSL_at, mSL_222, mSs_1, mSs_21, mSs_221, mSs_at, mSs_f, mSf_1, mSf_21, mSf_221, mSf_s, mSf_f, zi_l0, zi_l1, zi_l2, zi_l3, zi_l4, zi_l5, zi_l6, zi_l7, zi_l8, zi_l9, zi_l10, zi_l12, zi_l18, zi_l20, zi_l30, zi_l32, zi_l36, zi_l48, zi_l64, zi_l99, zi_l100, zi_l300, zi_l512, zi_l600, zi_l900, zi_l1800, zi_l9999, Option.bind_some, zi_lt0, zi_ge0, zi_01, zi_add, zi_mul, zi_sub, zi_lt, zi_le, zi_eq, zi_bool, zi_byte, zi_short, zi_t8, zi_t16, if_pos, if_neg, if_true, if_false, or_true, true_or, and_self, and_true, true_and, and_false, false_and]
  · have q2 := M_isBranch (g := g) (am := am) (ρ := ρ) (M := mSs M 0 1) hb hn
    simp (disch := omega) only [s_Mo_there, s_Mo_there_22, s_Mo_there_23, s_Mo_there_45, s_Mo_there_46, q, q2, e2, m_is, m_g0, m_g1, m_g2, m_g3, m_g4, m_g5, m_g6, m_g7, m_g8, m_g9, m_g10, m_g11, m_g12, m_g13, m_g14, m_g15, m_g16, m_g17, m_g18, m_g19, m_g20, m_g21, m_g22, m_g23, m_g24, m_g25, m_g26, m_g27, m_g28, m_g29, m_g30, m_g31, m_g32, m_g33, m_g34, m_g35, m_g36, m_g37, m_g38, m_g39, m_p0, m_p34, m_p37, m_p38, m_p39, m_r1, m_w1, m_r2, m_w2, m_r3, m_w3, m_r4, m_w4, m_r5, m_w5, m_r6, m_w6, m_r7, m_w7, m_r8, m_w8, m_r9, m_w9, m_r10, m_w10, m_r11, m_w11, m_r12, m_w12, m_r13, m_w13, m_r14, m_w14, m_r15, m_w15, m_r16, m_w16, m_r17, m_w17, m_r18, m_w18, m_r19, m_w19, m_r20, m_w20, m_r21, m_w21, m_r22, m_w22, m_r23, m_w23, m_r24, m_w24, m_r25, m_w25, m_r26, m_w26, m_r27, m_w27, m_r28, m_w28, m_r29, m_w29, m_r30, m_w30, m_r31, m_w31, m_r32, m_w32, m_r33, m_w33, m_r34, m_w34, mSN_at, mSN_2, mSI_1, mSI_at, mSI_22, mSL_1, mSL_21, mSL_at, mSL_222, mSs_1, mSs_21, mSs_221, mSs_at, mSs_f, mSf_1, mSf_21, mSf_221, mSf_s, mSf_f, zi_l0, zi_l1, zi_l2, zi_l3, zi_l4, zi_l5, zi_l6, zi_l7, zi_l8, zi_l9, zi_l10, zi_l12, zi_l18, zi_l20, zi_l30, zi_l32, zi_l36, zi_l48, zi_l64, zi_l99, zi_l100, zi_l300, zi_l512, zi_l600, zi_l900, zi_l1800, zi_l9999, Option.bind_some, zi_lt0, zi_ge0, zi_01, zi_add, zi_mul, zi_sub, zi_lt, zi_le, zi_eq, zi_bool, zi_byte, zi_short, zi_t8, zi_t16, if_pos, if_neg, if_true, if_false, or_true, true_or, and_self, and_true, true_and, and_false, false_and]
theorem M_thereN {x : Int32} (hn : M.2.2.2.1 1 ≤ 6) (h : x < 0 ∨ ∃ k, k < 2147483648 ∧ M.2.2.2.1 1 ≤ k ∧ x = zi k) : s_Mo_there g am x (mW am M ρ) = some (zi 0, mW am (mSs M 0 0) ρ) := by
  have q := M_isBranchN (g := g) (am := am) (ρ := ρ) hn h
  have q2 := M_isBranchN (g := g) (am := am) (ρ := ρ) (M := mSs M 0 0) hn h
  simp (disch := omega) only [s_Mo_there, s_Mo_there_22, s_Mo_there_23, s_Mo_there_45, s_Mo_there_46, q, q2, m_is, m_g0, m_g1, m_g2, m_g3, m_g4, m_g5, m_g6, m_g7, m_g8, m_g9, m_g10, m_g11, m_g12, m_g13, m_g14, m_g15, m_g16, m_g17, m_g18, m_g19, m_g20, m_g21, m_g22, m_g23, m_g24, m_g25, m_g26, m_g27, m_g28, m_g29, m_g30, m_g31, m_g32, m_g33, m_g34, m_g35, m_g36, m_g37, m_g38, m_g39, m_p0, m_p34, m_p37, m_p38, m_p39, m_r1, m_w1, m_r2, m_w2, m_r3, m_w3, m_r4, m_w4, m_r5, m_w5, m_r6, m_w6, m_r7, m_w7, m_r8, m_w8, m_r9, m_w9, m_r10, m_w10, m_r11, m_w11, m_r12, m_w12, m_r13, m_w13, m_r14, m_w14, m_r15, m_w15, m_r16, m_w16, m_r17, m_w17, m_r18, m_w18, m_r19, m_w19, m_r20, m_w20, m_r21, m_w21, m_r22, m_w22, m_r23, m_w23, m_r24, m_w24, m_r25, m_w25, m_r26, m_w26, m_r27, m_w27, m_r28, m_w28, m_r29, m_w29, m_r30, m_w30, m_r31, m_w31, m_r32, m_w32, m_r33, m_w33, m_r34, m_w34, mSN_at, mSN_2, mSI_1, mSI_at, mSI_22, mSL_1, mSL_21, mSL_at, mSL_222, mSs_1, mSs_21, mSs_221, mSs_at, mSs_f, mSf_1, mSf_21, mSf_221, mSf_s, mSf_f, zi_l0, zi_l1, zi_l2, zi_l3, zi_l4, zi_l5, zi_l6, zi_l7, zi_l8, zi_l9, zi_l10, zi_l12, zi_l18, zi_l20, zi_l30, zi_l32, zi_l36, zi_l48, zi_l64, zi_l99, zi_l100, zi_l300, zi_l512, zi_l600, zi_l900, zi_l1800, zi_l9999, Option.bind_some, zi_lt0, zi_ge0, zi_01, zi_add, zi_mul, zi_sub, zi_lt, zi_le, zi_eq, zi_bool, zi_byte, zi_short, zi_t8, zi_t16, if_pos, if_neg, if_true, if_false, or_true, true_or, and_self, and_true, true_and, and_false, false_and]
/-! books -/
theorem M_openBlocks {j : Nat} (hj : j < 36) (h3 : M.1 3 j ≤ M.1 2 j) (h2 : M.1 2 j ≤ 300) (h8 : ¬ M.1 3 j = M.1 2 j → M.1 8 (300 * j + M.1 3 j) ≤ M.1 4 j) : s_Mo_openBlocks g am (zi j) (mW am M ρ) = some (zi (if M.1 3 j = M.1 2 j then 0 else M.1 4 j - M.1 8 (300 * j + M.1 3 j)), mW am M ρ) := by
  by_cases h : M.1 3 j = M.1 2 j
  · rw [if_pos h]
    simp (disch := omega) only [s_Mo_openBlocks, s_Mo_openBlocks_43, h, m_is, m_g0, m_g1, m_g2, m_g3, m_g4, m_g5, m_g6, m_g7, m_g8, m_g9, m_g10, m_g11, m_g12, m_g13, m_g14, m_g15, m_g16, m_g17, m_g18, m_g19, m_g20, m_g21, m_g22, m_g23, m_g24, m_g25, m_g26, m_g27, m_g28, m_g29, m_g30, m_g31, m_g32, m_g33, m_g34, m_g35, m_g36, m_g37, m_g38, m_g39, m_p0, m_p34, m_p37, m_p38, m_p39, m_r1, m_w1, m_r2, m_w2, m_r3, m_w3, m_r4, m_w4, m_r5, m_w5, m_r6, m_w6, m_r7, m_w7, m_r8, m_w8, m_r9, m_w9, m_r10, m_w10, m_r11, m_w11, m_r12, m_w12, m_r13, m_w13, m_r14, m_w14, m_r15, m_w15, m_r16, m_w16, m_r17, m_w17, m_r18, m_w18, m_r19, m_w19, m_r20, m_w20, m_r21, m_w21, m_r22, m_w22, m_r23, m_w23, m_r24, m_w24, m_r25, m_w25, m_r26, m_w26, m_r27, m_w27, m_r28, m_w28, m_r29, m_w29, m_r30, m_w30, m_r31, m_w31, m_r32, m_w32, m_r33, m_w33, m_r34, m_w34, mSN_at, mSN_2, mSI_1, mSI_at, mSI_22, mSL_1, mSL_21, mSL_at, mSL_222, mSs_1, mSs_21, mSs_221, mSs_at, mSs_f, mSf_1, mSf_21, mSf_221, mSf_s, mSf_f, zi_l0, zi_l1, zi_l2, zi_l3, zi_l4, zi_l5, zi_l6, zi_l7, zi_l8, zi_l9, zi_l10, zi_l12, zi_l18, zi_l20, zi_l30, zi_l32, zi_l36, zi_l48, zi_l64, zi_l99, zi_l100, zi_l300, zi_l512, zi_l600, zi_l900, zi_l1800, zi_l9999, Option.bind_some, zi_lt0, zi_ge0, zi_01, zi_add, zi_mul, zi_sub, zi_lt, zi_le, zi_eq, zi_bool, zi_byte, zi_short, zi_t8, zi_t16, if_pos, if_neg, if_true, if_false, or_true, true_or, and_self, and_true, true_and, and_false, false_and]
  · rw [if_neg h]
    have h8 := h8 h
    simp (disch := omega) only [s_Mo_openBlocks, s_Mo_openBlocks_43, m_is, m_g0, m_g1, m_g2, m_g3, m_g4, m_g5, m_g6, m_g7, m_g8, m_g9, m_g10, m_g11, m_g12, m_g13, m_g14, m_g15, m_g16, m_g17, m_g18, m_g19, m_g20, m_g21, m_g22, m_g23, m_g24, m_g25, m_g26, m_g27, m_g28, m_g29, m_g30, m_g31, m_g32, m_g33, m_g34, m_g35, m_g36, m_g37, m_g38, m_g39, m_p0, m_p34, m_p37, m_p38, m_p39, m_r1, m_w1, m_r2, m_w2, m_r3, m_w3, m_r4, m_w4, m_r5, m_w5, m_r6, m_w6, m_r7, m_w7, m_r8, m_w8, m_r9, m_w9, m_r10, m_w10, m_r11, m_w11, m_r12, m_w12, m_r13, m_w13, m_r14, m_w14, m_r15, m_w15, m_r16, m_w16, m_r17, m_w17, m_r18, m_w18, m_r19, m_w19, m_r20, m_w20, m_r21, m_w21, m_r22, m_w22, m_r23, m_w23, m_r24, m_w24, m_r25, m_w25, m_r26, m_w26, m_r27, m_w27, m_r28, m_w28, m_r29, m_w29, m_r30, m_w30, m_r31, m_w31, m_r32, m_w32, m_r33, m_w33, m_r34, m_w34, mSN_at, mSN_2, mSI_1, mSI_at, mSI_22, mSL_1, mSL_21, mSL_at, mSL_222, mSs_1, mSs_21, mSs_221, mSs_at, mSs_f, mSf_1, mSf_21, mSf_221, mSf_s, mSf_f, zi_l0, zi_l1, zi_l2, zi_l3, zi_l4, zi_l5, zi_l6, zi_l7, zi_l8, zi_l9, zi_l10, zi_l12, zi_l18, zi_l20, zi_l30, zi_l32, zi_l36, zi_l48, zi_l64, zi_l99, zi_l100, zi_l300, zi_l512, zi_l600, zi_l900, zi_l1800, zi_l9999, Option.bind_some, zi_lt0, zi_ge0, zi_01, zi_add, zi_mul, zi_sub, zi_lt, zi_le, zi_eq, zi_bool, zi_byte, zi_short, zi_t8, zi_t16, if_pos, if_neg, if_true, if_false, or_true, true_or, and_self, and_true, true_and, and_false, false_and]
def mHap (M : mS) (j k v : Nat) : mS := mSN (mSN (mSN M 13 (600 * j + M.1 5 j) (2 * k + v)) 5 j (M.1 5 j + 1)) 9 (300 * j + k) (2 + v)
theorem M_happens {j k v : Nat} (hj : j < 36) (hk : k < 300) (h5 : M.1 5 j < 600) (hv : v = 0 ∨ v = 1) : s_Mo_happens g am (zi j) (zi k) (zi v) (mW am M ρ) = some (mW am (mHap M j k v) ρ) := by
  rcases hv with rfl | rfl
  · simp (disch := omega) only [s_Mo_happens, s_Mo_happens_28, s_Mo_happens_61, mHap, m_is, m_g0, m_g1, m_g2, m_g3, m_g4, m_g5, m_g6, m_g7, m_g8, m_g9, m_g10, m_g11, m_g12, m_g13, m_g14, m_g15, m_g16, m_g17, m_g18, m_g19, m_g20, m_g21, m_g22, m_g23, m_g24, m_g25, m_g26, m_g27, m_g28, m_g29, m_g30, m_g31, m_g32, m_g33, m_g34, m_g35, m_g36, m_g37, m_g38, m_g39, m_p0, m_p34, m_p37, m_p38, m_p39, m_r1, m_w1, m_r2, m_w2, m_r3, m_w3, m_r4, m_w4, m_r5, m_w5, m_r6, m_w6, m_r7, m_w7, m_r8, m_w8, m_r9, m_w9, m_r10, m_w10, m_r11, m_w11, m_r12, m_w12, m_r13, m_w13, m_r14, m_w14, m_r15, m_w15, m_r16, m_w16, m_r17, m_w17, m_r18, m_w18, m_r19, m_w19, m_r20, m_w20, m_r21, m_w21, m_r22, m_w22, m_r23, m_w23, m_r24, m_w24, m_r25, m_w25, m_r26, m_w26, m_r27, m_w27, m_r28, m_w28, m_r29, m_w29, m_r30, m_w30, m_r31, m_w31, m_r32, m_w32, m_r33, m_w33, m_r34, m_w34, mSN_at, mSN_2, mSI_1, mSI_at, mSI_22, mSL_1, mSL_21, mSL_at, mSL_222, mSs_1, mSs_21, mSs_221, mSs_at, mSs_f, mSf_1, mSf_21, mSf_221, mSf_s, mSf_f, zi_l0, zi_l1, zi_l2, zi_l3, zi_l4, zi_l5, zi_l6, zi_l7, zi_l8, zi_l9, zi_l10, zi_l12, zi_l18, zi_l20, zi_l30, zi_l32, zi_l36, zi_l48, zi_l64, zi_l99, zi_l100, zi_l300, zi_l512, zi_l600, zi_l900, zi_l1800, zi_l9999, Option.bind_some, zi_lt0, zi_ge0, zi_01, zi_add, zi_mul, zi_sub, zi_lt, zi_le, zi_eq, zi_bool, zi_byte, zi_short, zi_t8, zi_t16, if_pos, if_neg, if_true, if_false, or_true, true_or, and_self, and_true, true_and, and_false, false_and]
  · simp (disch := omega) only [s_Mo_happens, s_Mo_happens_28, s_Mo_happens_61, mHap, m_is, m_g0, m_g1, m_g2, m_g3, m_g4, m_g5, m_g6, m_g7, m_g8, m_g9, m_g10, m_g11, m_g12, m_g13, m_g14, m_g15, m_g16, m_g17, m_g18, m_g19, m_g20, m_g21, m_g22, m_g23, m_g24, m_g25, m_g26, m_g27, m_g28, m_g29, m_g30, m_g31, m_g32, m_g33, m_g34, m_g35, m_g36, m_g37, m_g38, m_g39, m_p0, m_p34, m_p37, m_p38, m_p39, m_r1, m_w1, m_r2, m_w2, m_r3, m_w3, m_r4, m_w4, m_r5, m_w5, m_r6, m_w6, m_r7, m_w7, m_r8, m_w8, m_r9, m_w9, m_r10, m_w10, m_r11, m_w11, m_r12, m_w12, m_r13, m_w13, m_r14, m_w14, m_r15, m_w15, m_r16, m_w16, m_r17, m_w17, m_r18, m_w18, m_r19, m_w19, m_r20, m_w20, m_r21, m_w21, m_r22, m_w22, m_r23, m_w23, m_r24, m_w24, m_r25, m_w25, m_r26, m_w26, m_r27, m_w27, m_r28, m_w28, m_r29, m_w29, m_r30, m_w30, m_r31, m_w31, m_r32, m_w32, m_r33, m_w33, m_r34, m_w34, mSN_at, mSN_2, mSI_1, mSI_at, mSI_22, mSL_1, mSL_21, mSL_at, mSL_222, mSs_1, mSs_21, mSs_221, mSs_at, mSs_f, mSf_1, mSf_21, mSf_221, mSf_s, mSf_f, zi_l0, zi_l1, zi_l2, zi_l3, zi_l4, zi_l5, zi_l6, zi_l7, zi_l8, zi_l9, zi_l10, zi_l12, zi_l18, zi_l20, zi_l30, zi_l32, zi_l36, zi_l48, zi_l64, zi_l99, zi_l100, zi_l300, zi_l512, zi_l600, zi_l900, zi_l1800, zi_l9999, Option.bind_some, zi_lt0, zi_ge0, zi_01, zi_add, zi_mul, zi_sub, zi_lt, zi_le, zi_eq, zi_bool, zi_byte, zi_short, zi_t8, zi_t16, if_pos, if_neg, if_true, if_false, or_true, true_or, and_self, and_true, true_and, and_false, false_and]
theorem M_find_2 {j N : Nat} {x : Int32} (hj : j < 36) (hN : M.1 2 j = N ∧ N ≤ 300) (hM : mOK M) (k : Nat) (hk : k < N) (hx : zi (M.1 7 (300 * j + k)) = x) : ∀ (m n fuel : Nat), n + m = k → m < fuel → (∀ i, n ≤ i → i < k → ¬ zi (M.1 7 (300 * j + i)) = x) → s_Mo_find_2 g fuel am (zi j) x (zi n) (mW am M ρ) = some (zi k, mW am M ρ) := by
  intro m
  induction m with
  | zero =>
    intro n fuel hn hf hno
    obtain ⟨fu, rfl⟩ : ∃ fu, fuel = fu + 1 := ⟨fuel - 1, by omega⟩
    have hnk : n = k := by omega
    subst hnk
    rw [s_Mo_find_2]
    simp (disch := omega) only [hN.1, hx, m_is, m_g0, m_g1, m_g2, m_g3, m_g4, m_g5, m_g6, m_g7, m_g8, m_g9, m_g10, m_g11, m_g12, m_g13, m_g14, m_g15, m_g16, m_g17, m_g18, m_g19, m_g20, m_g21, m_g22, m_g23, m_g24, m_g25, m_g26, m_g27, m_g28, m_g29, m_g30, m_g31, m_g32, m_g33, m_g34, m_g35, m_g36, m_g37, m_g38, m_g39, m_p0, m_p34, m_p37, m_p38, m_p39, m_r1, m_w1, m_r2, m_w2, m_r3, m_w3, m_r4, m_w4, m_r5, m_w5, m_r6, m_w6, m_r7, m_w7, m_r8, m_w8, m_r9, m_w9, m_r10, m_w10, m_r11, m_w11, m_r12, m_w12, m_r13, m_w13, m_r14, m_w14, m_r15, m_w15, m_r16, m_w16, m_r17, m_w17, m_r18, m_w18, m_r19, m_w19, m_r20, m_w20, m_r21, m_w21, m_r22, m_w22, m_r23, m_w23, m_r24, m_w24, m_r25, m_w25, m_r26, m_w26, m_r27, m_w27, m_r28, m_w28, m_r29, m_w29, m_r30, m_w30, m_r31, m_w31, m_r32, m_w32, m_r33, m_w33, m_r34, m_w34, mSN_at, mSN_2, mSI_1, mSI_at, mSI_22, mSL_1, mSL_21, mSL_at, mSL_222, mSs_1, mSs_21, mSs_221, mSs_at, mSs_f, mSf_1, mSf_21, mSf_221, mSf_s, mSf_f, zi_l0, zi_l1, zi_l2, zi_l3, zi_l4, zi_l5, zi_l6, zi_l7, zi_l8, zi_l9, zi_l10, zi_l12, zi_l18, zi_l20, zi_l30, zi_l32, zi_l36, zi_l48, zi_l64, zi_l99, zi_l100, zi_l300, zi_l512, zi_l600, zi_l900, zi_l1800, zi_l9999, Option.bind_some, zi_lt0, zi_ge0, zi_01, zi_add, zi_mul, zi_sub, zi_lt, zi_le, zi_eq, zi_bool, zi_byte, zi_short, zi_t8, zi_t16, if_pos, if_neg, if_true, if_false, or_true, true_or, and_self, and_true, true_and, and_false, false_and]
  | succ m ih =>
    intro n fuel hn hf hno
    obtain ⟨fu, rfl⟩ : ∃ fu, fuel = fu + 1 := ⟨fuel - 1, by omega⟩
    rw [s_Mo_find_2]
    simp (disch := omega) only [hN.1, m_is, m_g0, m_g1, m_g2, m_g3, m_g4, m_g5, m_g6, m_g7, m_g8, m_g9, m_g10, m_g11, m_g12, m_g13, m_g14, m_g15, m_g16, m_g17, m_g18, m_g19, m_g20, m_g21, m_g22, m_g23, m_g24, m_g25, m_g26, m_g27, m_g28, m_g29, m_g30, m_g31, m_g32, m_g33, m_g34, m_g35, m_g36, m_g37, m_g38, m_g39, m_p0, m_p34, m_p37, m_p38, m_p39, m_r1, m_w1, m_r2, m_w2, m_r3, m_w3, m_r4, m_w4, m_r5, m_w5, m_r6, m_w6, m_r7, m_w7, m_r8, m_w8, m_r9, m_w9, m_r10, m_w10, m_r11, m_w11, m_r12, m_w12, m_r13, m_w13, m_r14, m_w14, m_r15, m_w15, m_r16, m_w16, m_r17, m_w17, m_r18, m_w18, m_r19, m_w19, m_r20, m_w20, m_r21, m_w21, m_r22, m_w22, m_r23, m_w23, m_r24, m_w24, m_r25, m_w25, m_r26, m_w26, m_r27, m_w27, m_r28, m_w28, m_r29, m_w29, m_r30, m_w30, m_r31, m_w31, m_r32, m_w32, m_r33, m_w33, m_r34, m_w34, mSN_at, mSN_2, mSI_1, mSI_at, mSI_22, mSL_1, mSL_21, mSL_at, mSL_222, mSs_1, mSs_21, mSs_221, mSs_at, mSs_f, mSf_1, mSf_21, mSf_221, mSf_s, mSf_f, zi_l0, zi_l1, zi_l2, zi_l3, zi_l4, zi_l5, zi_l6, zi_l7, zi_l8, zi_l9, zi_l10, zi_l12, zi_l18, zi_l20, zi_l30, zi_l32, zi_l36, zi_l48, zi_l64, zi_l99, zi_l100, zi_l300, zi_l512, zi_l600, zi_l900, zi_l1800, zi_l9999, Option.bind_some, zi_lt0, zi_ge0, zi_01, zi_add, zi_mul, zi_sub, zi_lt, zi_le, zi_eq, zi_bool, zi_byte, zi_short, zi_t8, zi_t16, if_pos, if_neg, if_true, if_false, or_true, true_or, and_self, and_true, true_and, and_false, false_and]
    rw [if_neg (hno n (by omega) (by omega))]
    exact ih (n + 1) fu (by omega) (by omega) (fun i h1 h2 => hno i (by omega) h2)
theorem M_find {j k : Nat} {x : Int32} (hj : j < 36) (hN : M.1 2 j ≤ 300) (hM : mOK M) (hk : k < M.1 2 j) (hx : zi (M.1 7 (300 * j + k)) = x) (hno : ∀ i, i < k → ¬ zi (M.1 7 (300 * j + i)) = x) : s_Mo_find g am (zi j) x (mW am M ρ) = some (zi k, mW am M ρ) := by
  unfold s_Mo_find
  exact M_find_2 hj ⟨rfl, hN⟩ hM k hk hx k 0 zfuel (by omega) (by unfold zfuel; omega) (fun i _ h => hno i h)
theorem M_findN_2 {j N : Nat} {x : Int32} (hj : j < 36) (hN : M.1 2 j = N ∧ N ≤ 300) (hM : mOK M) (hno : ∀ i, i < N → ¬ zi (M.1 7 (300 * j + i)) = x) : ∀ (m n fuel : Nat), n + m = N → m < fuel → s_Mo_find_2 g fuel am (zi j) x (zi n) (mW am M ρ) = some (-1, mW am M ρ) := by
  intro m
  induction m with
  | zero =>
    intro n fuel hn hf
    obtain ⟨fu, rfl⟩ : ∃ fu, fuel = fu + 1 := ⟨fuel - 1, by omega⟩
    rw [s_Mo_find_2]
    simp (disch := omega) only [hN.1, m_is, m_g0, m_g1, m_g2, m_g3, m_g4, m_g5, m_g6, m_g7, m_g8, m_g9, m_g10, m_g11, m_g12, m_g13, m_g14, m_g15, m_g16, m_g17, m_g18, m_g19, m_g20, m_g21, m_g22, m_g23, m_g24, m_g25, m_g26, m_g27, m_g28, m_g29, m_g30, m_g31, m_g32, m_g33, m_g34, m_g35, m_g36, m_g37, m_g38, m_g39, m_p0, m_p34, m_p37, m_p38, m_p39, m_r1, m_w1, m_r2, m_w2, m_r3, m_w3, m_r4, m_w4, m_r5, m_w5, m_r6, m_w6, m_r7, m_w7, m_r8, m_w8, m_r9, m_w9, m_r10, m_w10, m_r11, m_w11, m_r12, m_w12, m_r13, m_w13, m_r14, m_w14, m_r15, m_w15, m_r16, m_w16, m_r17, m_w17, m_r18, m_w18, m_r19, m_w19, m_r20, m_w20, m_r21, m_w21, m_r22, m_w22, m_r23, m_w23, m_r24, m_w24, m_r25, m_w25, m_r26, m_w26, m_r27, m_w27, m_r28, m_w28, m_r29, m_w29, m_r30, m_w30, m_r31, m_w31, m_r32, m_w32, m_r33, m_w33, m_r34, m_w34, mSN_at, mSN_2, mSI_1, mSI_at, mSI_22, mSL_1, mSL_21, mSL_at, mSL_222, mSs_1, mSs_21, mSs_221, mSs_at, mSs_f, mSf_1, mSf_21, mSf_221, mSf_s, mSf_f, zi_l0, zi_l1, zi_l2, zi_l3, zi_l4, zi_l5, zi_l6, zi_l7, zi_l8, zi_l9, zi_l10, zi_l12, zi_l18, zi_l20, zi_l30, zi_l32, zi_l36, zi_l48, zi_l64, zi_l99, zi_l100, zi_l300, zi_l512, zi_l600, zi_l900, zi_l1800, zi_l9999, Option.bind_some, zi_lt0, zi_ge0, zi_01, zi_add, zi_mul, zi_sub, zi_lt, zi_le, zi_eq, zi_bool, zi_byte, zi_short, zi_t8, zi_t16, if_pos, if_neg, if_true, if_false, or_true, true_or, and_self, and_true, true_and, and_false, false_and]
  | succ m ih =>
    intro n fuel hn hf
    obtain ⟨fu, rfl⟩ : ∃ fu, fuel = fu + 1 := ⟨fuel - 1, by omega⟩
    rw [s_Mo_find_2]
    simp (disch := omega) only [hN.1, m_is, m_g0, m_g1, m_g2, m_g3, m_g4, m_g5, m_g6, m_g7, m_g8, m_g9, m_g10, m_g11, m_g12, m_g13, m_g14, m_g15, m_g16, m_g17, m_g18, m_g19, m_g20, m_g21, m_g22, m_g23, m_g24, m_g25, m_g26, m_g27, m_g28, m_g29, m_g30, m_g31, m_g32, m_g33, m_g34, m_g35, m_g36, m_g37, m_g38, m_g39, m_p0, m_p34, m_p37, m_p38, m_p39, m_r1, m_w1, m_r2, m_w2, m_r3, m_w3, m_r4, m_w4, m_r5, m_w5, m_r6, m_w6, m_r7, m_w7, m_r8, m_w8, m_r9, m_w9, m_r10, m_w10, m_r11, m_w11, m_r12, m_w12, m_r13, m_w13, m_r14, m_w14, m_r15, m_w15, m_r16, m_w16, m_r17, m_w17, m_r18, m_w18, m_r19, m_w19, m_r20, m_w20, m_r21, m_w21, m_r22, m_w22, m_r23, m_w23, m_r24, m_w24, m_r25, m_w25, m_r26, m_w26, m_r27, m_w27, m_r28, m_w28, m_r29, m_w29, m_r30, m_w30, m_r31, m_w31, m_r32, m_w32, m_r33, m_w33, m_r34, m_w34, mSN_at, mSN_2, mSI_1, mSI_at, mSI_22, mSL_1, mSL_21, mSL_at, mSL_222, mSs_1, mSs_21, mSs_221, mSs_at, mSs_f, mSf_1, mSf_21, mSf_221, mSf_s, mSf_f, zi_l0, zi_l1, zi_l2, zi_l3, zi_l4, zi_l5, zi_l6, zi_l7, zi_l8, zi_l9, zi_l10, zi_l12, zi_l18, zi_l20, zi_l30, zi_l32, zi_l36, zi_l48, zi_l64, zi_l99, zi_l100, zi_l300, zi_l512, zi_l600, zi_l900, zi_l1800, zi_l9999, Option.bind_some, zi_lt0, zi_ge0, zi_01, zi_add, zi_mul, zi_sub, zi_lt, zi_le, zi_eq, zi_bool, zi_byte, zi_short, zi_t8, zi_t16, if_pos, if_neg, if_true, if_false, or_true, true_or, and_self, and_true, true_and, and_false, false_and]
    rw [if_neg (hno n (by omega))]
    exact ih (n + 1) fu (by omega) (by omega)
theorem M_findN {j : Nat} {x : Int32} (hj : j < 36) (hN : M.1 2 j ≤ 300) (hM : mOK M) (hno : ∀ i, i < M.1 2 j → ¬ zi (M.1 7 (300 * j + i)) = x) : s_Mo_find g am (zi j) x (mW am M ρ) = some (-1, mW am M ρ) := by
  unfold s_Mo_find
  exact M_findN_2 hj ⟨rfl, hN⟩ hM hno (M.1 2 j) 0 zfuel (by omega) (by unfold zfuel; omega)
/-- the latest number of the same block that was ever used, seen from place y down: is its date after d -/
def mTE (M : mS) (j K : Nat) (d : Int32) : Nat → Nat
  | 0 => 0
  | y + 1 => if M.1 8 (300 * j + y) = M.1 8 (300 * j + K) then (if M.2.2.1 10 (300 * j + y) = 0 then mTE M j K d y else if d < M.2.1 11 (300 * j + y) then 1 else 0) else 0
theorem lg_cmp0 (x : Int64) : (lg_cmp x 0 = 0) = (x = 0) := by
  exact propext (lg_cmp_eq x 0)
theorem M_tooEarly_12 {j K : Nat} {d : Int32} (hj : j < 36) (hK : K < 300) (hM : mOK M) : ∀ (y fuel : Nat), y ≤ K → y < fuel → s_Mo_tooEarly_12 g fuel am (zi j) d (zi K) (zi y - zi 1) (mW am M ρ) = some (zi (mTE M j K d y), mW am M ρ) := by
  intro y
  induction y with
  | zero =>
    intro fuel hy hf
    obtain ⟨fu, rfl⟩ : ∃ fu, fuel = fu + 1 := ⟨fuel - 1, by omega⟩
    rw [s_Mo_tooEarly_12]
    simp only [zi_m1, if_true, s_Mo_tooEarly_69, s_Mo_tooEarly_123, s_Mo_tooEarly_124, mTE]
    simp (disch := omega) only [m_is, m_g0, m_g1, m_g2, m_g3, m_g4, m_g5, m_g6, m_g7, m_g8, m_g9, m_g10, m_g11, m_g12, m_g13, m_g14, m_g15, m_g16, m_g17, m_g18, m_g19, m_g20, m_g21, m_g22, m_g23, m_g24, m_g25, m_g26, m_g27, m_g28, m_g29, m_g30, m_g31, m_g32, m_g33, m_g34, m_g35, m_g36, m_g37, m_g38, m_g39, m_p0, m_p34, m_p37, m_p38, m_p39, m_r1, m_w1, m_r2, m_w2, m_r3, m_w3, m_r4, m_w4, m_r5, m_w5, m_r6, m_w6, m_r7, m_w7, m_r8, m_w8, m_r9, m_w9, m_r10, m_w10, m_r11, m_w11, m_r12, m_w12, m_r13, m_w13, m_r14, m_w14, m_r15, m_w15, m_r16, m_w16, m_r17, m_w17, m_r18, m_w18, m_r19, m_w19, m_r20, m_w20, m_r21, m_w21, m_r22, m_w22, m_r23, m_w23, m_r24, m_w24, m_r25, m_w25, m_r26, m_w26, m_r27, m_w27, m_r28, m_w28, m_r29, m_w29, m_r30, m_w30, m_r31, m_w31, m_r32, m_w32, m_r33, m_w33, m_r34, m_w34, mSN_at, mSN_2, mSI_1, mSI_at, mSI_22, mSL_1, mSL_21, mSL_at, mSL_222, mSs_1, mSs_21, mSs_221, mSs_at, mSs_f, mSf_1, mSf_21, mSf_221, mSf_s, mSf_f, zi_l0, zi_l1, zi_l2, zi_l3, zi_l4, zi_l5, zi_l6, zi_l7, zi_l8, zi_l9, zi_l10, zi_l12, zi_l18, zi_l20, zi_l30, zi_l32, zi_l36, zi_l48, zi_l64, zi_l99, zi_l100, zi_l300, zi_l512, zi_l600, zi_l900, zi_l1800, zi_l9999, Option.bind_some, zi_lt0, zi_ge0, zi_01, zi_add, zi_mul, zi_sub, zi_lt, zi_le, zi_eq, zi_bool, zi_byte, zi_short, zi_t8, zi_t16, if_pos, if_neg, if_true, if_false, or_true, true_or, and_self, and_true, true_and, and_false, false_and]
  | succ y ih =>
    intro fuel hy hf
    obtain ⟨fu, rfl⟩ : ∃ fu, fuel = fu + 1 := ⟨fuel - 1, by omega⟩
    have e1 := hM.b31 8 (300 * j + y)
    have e2 := hM.b31 8 (300 * j + K)
    rw [s_Mo_tooEarly_12, mTE]
    by_cases h1 : M.1 8 (300 * j + y) = M.1 8 (300 * j + K)
    · rw [if_pos h1]
      by_cases h2 : M.2.2.1 10 (300 * j + y) = 0
      · rw [if_pos h2]
        simp (disch := omega) only [h1, lg_cmp0, h2, zi_dec, Nat.add_sub_cancel, m_is, m_g0, m_g1, m_g2, m_g3, m_g4, m_g5, m_g6, m_g7, m_g8, m_g9, m_g10, m_g11, m_g12, m_g13, m_g14, m_g15, m_g16, m_g17, m_g18, m_g19, m_g20, m_g21, m_g22, m_g23, m_g24, m_g25, m_g26, m_g27, m_g28, m_g29, m_g30, m_g31, m_g32, m_g33, m_g34, m_g35, m_g36, m_g37, m_g38, m_g39, m_p0, m_p34, m_p37, m_p38, m_p39, m_r1, m_w1, m_r2, m_w2, m_r3, m_w3, m_r4, m_w4, m_r5, m_w5, m_r6, m_w6, m_r7, m_w7, m_r8, m_w8, m_r9, m_w9, m_r10, m_w10, m_r11, m_w11, m_r12, m_w12, m_r13, m_w13, m_r14, m_w14, m_r15, m_w15, m_r16, m_w16, m_r17, m_w17, m_r18, m_w18, m_r19, m_w19, m_r20, m_w20, m_r21, m_w21, m_r22, m_w22, m_r23, m_w23, m_r24, m_w24, m_r25, m_w25, m_r26, m_w26, m_r27, m_w27, m_r28, m_w28, m_r29, m_w29, m_r30, m_w30, m_r31, m_w31, m_r32, m_w32, m_r33, m_w33, m_r34, m_w34, mSN_at, mSN_2, mSI_1, mSI_at, mSI_22, mSL_1, mSL_21, mSL_at, mSL_222, mSs_1, mSs_21, mSs_221, mSs_at, mSs_f, mSf_1, mSf_21, mSf_221, mSf_s, mSf_f, zi_l0, zi_l1, zi_l2, zi_l3, zi_l4, zi_l5, zi_l6, zi_l7, zi_l8, zi_l9, zi_l10, zi_l12, zi_l18, zi_l20, zi_l30, zi_l32, zi_l36, zi_l48, zi_l64, zi_l99, zi_l100, zi_l300, zi_l512, zi_l600, zi_l900, zi_l1800, zi_l9999, Option.bind_some, zi_lt0, zi_ge0, zi_01, zi_add, zi_mul, zi_sub, zi_lt, zi_le, zi_eq, zi_bool, zi_byte, zi_short, zi_t8, zi_t16, if_pos, if_neg, if_true, if_false, or_true, true_or, and_self, and_true, true_and, and_false, false_and]
        rw [if_pos (by decide), ← Int32.sub_eq_add_neg]
        exact ih fu (by omega) (by omega)
      · rw [if_neg h2]
        simp (disch := omega) only [h1, lg_cmp0, h2, s_Mo_tooEarly_69, Nat.add_sub_cancel, m_is, m_g0, m_g1, m_g2, m_g3, m_g4, m_g5, m_g6, m_g7, m_g8, m_g9, m_g10, m_g11, m_g12, m_g13, m_g14, m_g15, m_g16, m_g17, m_g18, m_g19, m_g20, m_g21, m_g22, m_g23, m_g24, m_g25, m_g26, m_g27, m_g28, m_g29, m_g30, m_g31, m_g32, m_g33, m_g34, m_g35, m_g36, m_g37, m_g38, m_g39, m_p0, m_p34, m_p37, m_p38, m_p39, m_r1, m_w1, m_r2, m_w2, m_r3, m_w3, m_r4, m_w4, m_r5, m_w5, m_r6, m_w6, m_r7, m_w7, m_r8, m_w8, m_r9, m_w9, m_r10, m_w10, m_r11, m_w11, m_r12, m_w12, m_r13, m_w13, m_r14, m_w14, m_r15, m_w15, m_r16, m_w16, m_r17, m_w17, m_r18, m_w18, m_r19, m_w19, m_r20, m_w20, m_r21, m_w21, m_r22, m_w22, m_r23, m_w23, m_r24, m_w24, m_r25, m_w25, m_r26, m_w26, m_r27, m_w27, m_r28, m_w28, m_r29, m_w29, m_r30, m_w30, m_r31, m_w31, m_r32, m_w32, m_r33, m_w33, m_r34, m_w34, mSN_at, mSN_2, mSI_1, mSI_at, mSI_22, mSL_1, mSL_21, mSL_at, mSL_222, mSs_1, mSs_21, mSs_221, mSs_at, mSs_f, mSf_1, mSf_21, mSf_221, mSf_s, mSf_f, zi_l0, zi_l1, zi_l2, zi_l3, zi_l4, zi_l5, zi_l6, zi_l7, zi_l8, zi_l9, zi_l10, zi_l12, zi_l18, zi_l20, zi_l30, zi_l32, zi_l36, zi_l48, zi_l64, zi_l99, zi_l100, zi_l300, zi_l512, zi_l600, zi_l900, zi_l1800, zi_l9999, Option.bind_some, zi_lt0, zi_ge0, zi_01, zi_add, zi_mul, zi_sub, zi_lt, zi_le, zi_eq, zi_bool, zi_byte, zi_short, zi_t8, zi_t16, if_pos, if_neg, if_true, if_false, or_true, true_or, and_self, and_true, true_and, and_false, false_and]
        rw [if_neg (show ¬ (lg_cmp (M.2.2.1 10 (300 * j + y)) 0 = zi 0) from fun q => h2 ((lg_cmp_eq _ 0).mp q))]
        by_cases hd : d < M.2.1 11 (300 * j + y)
        · rw [if_neg (Int32.not_le.mpr hd), if_pos hd]
          simp (disch := omega) only [s_Mo_tooEarly_124, m_is, m_g0, m_g1, m_g2, m_g3, m_g4, m_g5, m_g6, m_g7, m_g8, m_g9, m_g10, m_g11, m_g12, m_g13, m_g14, m_g15, m_g16, m_g17, m_g18, m_g19, m_g20, m_g21, m_g22, m_g23, m_g24, m_g25, m_g26, m_g27, m_g28, m_g29, m_g30, m_g31, m_g32, m_g33, m_g34, m_g35, m_g36, m_g37, m_g38, m_g39, m_p0, m_p34, m_p37, m_p38, m_p39, m_r1, m_w1, m_r2, m_w2, m_r3, m_w3, m_r4, m_w4, m_r5, m_w5, m_r6, m_w6, m_r7, m_w7, m_r8, m_w8, m_r9, m_w9, m_r10, m_w10, m_r11, m_w11, m_r12, m_w12, m_r13, m_w13, m_r14, m_w14, m_r15, m_w15, m_r16, m_w16, m_r17, m_w17, m_r18, m_w18, m_r19, m_w19, m_r20, m_w20, m_r21, m_w21, m_r22, m_w22, m_r23, m_w23, m_r24, m_w24, m_r25, m_w25, m_r26, m_w26, m_r27, m_w27, m_r28, m_w28, m_r29, m_w29, m_r30, m_w30, m_r31, m_w31, m_r32, m_w32, m_r33, m_w33, m_r34, m_w34, mSN_at, mSN_2, mSI_1, mSI_at, mSI_22, mSL_1, mSL_21, mSL_at, mSL_222, mSs_1, mSs_21, mSs_221, mSs_at, mSs_f, mSf_1, mSf_21, mSf_221, mSf_s, mSf_f, zi_l0, zi_l1, zi_l2, zi_l3, zi_l4, zi_l5, zi_l6, zi_l7, zi_l8, zi_l9, zi_l10, zi_l12, zi_l18, zi_l20, zi_l30, zi_l32, zi_l36, zi_l48, zi_l64, zi_l99, zi_l100, zi_l300, zi_l512, zi_l600, zi_l900, zi_l1800, zi_l9999, Option.bind_some, zi_lt0, zi_ge0, zi_01, zi_add, zi_mul, zi_sub, zi_lt, zi_le, zi_eq, zi_bool, zi_byte, zi_short, zi_t8, zi_t16, if_pos, if_neg, if_true, if_false, or_true, true_or, and_self, and_true, true_and, and_false, false_and]
        · rw [if_pos (Int32.not_lt.mp hd), if_neg hd]
          simp (disch := omega) only [s_Mo_tooEarly_123, s_Mo_tooEarly_124, m_is, m_g0, m_g1, m_g2, m_g3, m_g4, m_g5, m_g6, m_g7, m_g8, m_g9, m_g10, m_g11, m_g12, m_g13, m_g14, m_g15, m_g16, m_g17, m_g18, m_g19, m_g20, m_g21, m_g22, m_g23, m_g24, m_g25, m_g26, m_g27, m_g28, m_g29, m_g30, m_g31, m_g32, m_g33, m_g34, m_g35, m_g36, m_g37, m_g38, m_g39, m_p0, m_p34, m_p37, m_p38, m_p39, m_r1, m_w1, m_r2, m_w2, m_r3, m_w3, m_r4, m_w4, m_r5, m_w5, m_r6, m_w6, m_r7, m_w7, m_r8, m_w8, m_r9, m_w9, m_r10, m_w10, m_r11, m_w11, m_r12, m_w12, m_r13, m_w13, m_r14, m_w14, m_r15, m_w15, m_r16, m_w16, m_r17, m_w17, m_r18, m_w18, m_r19, m_w19, m_r20, m_w20, m_r21, m_w21, m_r22, m_w22, m_r23, m_w23, m_r24, m_w24, m_r25, m_w25, m_r26, m_w26, m_r27, m_w27, m_r28, m_w28, m_r29, m_w29, m_r30, m_w30, m_r31, m_w31, m_r32, m_w32, m_r33, m_w33, m_r34, m_w34, mSN_at, mSN_2, mSI_1, mSI_at, mSI_22, mSL_1, mSL_21, mSL_at, mSL_222, mSs_1, mSs_21, mSs_221, mSs_at, mSs_f, mSf_1, mSf_21, mSf_221, mSf_s, mSf_f, zi_l0, zi_l1, zi_l2, zi_l3, zi_l4, zi_l5, zi_l6, zi_l7, zi_l8, zi_l9, zi_l10, zi_l12, zi_l18, zi_l20, zi_l30, zi_l32, zi_l36, zi_l48, zi_l64, zi_l99, zi_l100, zi_l300, zi_l512, zi_l600, zi_l900, zi_l1800, zi_l9999, Option.bind_some, zi_lt0, zi_ge0, zi_01, zi_add, zi_mul, zi_sub, zi_lt, zi_le, zi_eq, zi_bool, zi_byte, zi_short, zi_t8, zi_t16, if_pos, if_neg, if_true, if_false, or_true, true_or, and_self, and_true, true_and, and_false, false_and]
    · rw [if_neg h1]
      simp (disch := omega) only [h1, Nat.add_sub_cancel, s_Mo_tooEarly_69, s_Mo_tooEarly_123, s_Mo_tooEarly_124, m_is, m_g0, m_g1, m_g2, m_g3, m_g4, m_g5, m_g6, m_g7, m_g8, m_g9, m_g10, m_g11, m_g12, m_g13, m_g14, m_g15, m_g16, m_g17, m_g18, m_g19, m_g20, m_g21, m_g22, m_g23, m_g24, m_g25, m_g26, m_g27, m_g28, m_g29, m_g30, m_g31, m_g32, m_g33, m_g34, m_g35, m_g36, m_g37, m_g38, m_g39, m_p0, m_p34, m_p37, m_p38, m_p39, m_r1, m_w1, m_r2, m_w2, m_r3, m_w3, m_r4, m_w4, m_r5, m_w5, m_r6, m_w6, m_r7, m_w7, m_r8, m_w8, m_r9, m_w9, m_r10, m_w10, m_r11, m_w11, m_r12, m_w12, m_r13, m_w13, m_r14, m_w14, m_r15, m_w15, m_r16, m_w16, m_r17, m_w17, m_r18, m_w18, m_r19, m_w19, m_r20, m_w20, m_r21, m_w21, m_r22, m_w22, m_r23, m_w23, m_r24, m_w24, m_r25, m_w25, m_r26, m_w26, m_r27, m_w27, m_r28, m_w28, m_r29, m_w29, m_r30, m_w30, m_r31, m_w31, m_r32, m_w32, m_r33, m_w33, m_r34, m_w34, mSN_at, mSN_2, mSI_1, mSI_at, mSI_22, mSL_1, mSL_21, mSL_at, mSL_222, mSs_1, mSs_21, mSs_221, mSs_at, mSs_f, mSf_1, mSf_21, mSf_221, mSf_s, mSf_f, zi_l0, zi_l1, zi_l2, zi_l3, zi_l4, zi_l5, zi_l6, zi_l7, zi_l8, zi_l9, zi_l10, zi_l12, zi_l18, zi_l20, zi_l30, zi_l32, zi_l36, zi_l48, zi_l64, zi_l99, zi_l100, zi_l300, zi_l512, zi_l600, zi_l900, zi_l1800, zi_l9999, Option.bind_some, zi_lt0, zi_ge0, zi_01, zi_add, zi_mul, zi_sub, zi_lt, zi_le, zi_eq, zi_bool, zi_byte, zi_short, zi_t8, zi_t16, if_pos, if_neg, if_true, if_false, or_true, true_or, and_self, and_true, true_and, and_false, false_and]
theorem M_tooEarly {j : Nat} {d : Int32} (hj : j < 36) (hK : M.1 3 j < 300) (hM : mOK M) : s_Mo_tooEarly g am (zi j) d (mW am M ρ) = some (zi (mTE M j (M.1 3 j) d (M.1 3 j)), mW am M ρ) := by
  unfold s_Mo_tooEarly
  have h := M_tooEarly_12 (g := g) (am := am) (ρ := ρ) (d := d) hj hK hM (M.1 3 j) zfuel (Nat.le_refl _) (by unfold zfuel; omega)
  simp (disch := omega) only [m_g4, m_r3, Option.bind_some]
  exact h
/-! numbers given and come -/
def mFl (M : mS) (j d n v : Nat) : mS := (fun a b => if a = j ∧ d ≤ b ∧ b < d + n then v else M.1 a b, M.2)
def mGv (M : mS) (b s n : Nat) : mS := mSN (mFl (mFl M 23 (300 * s + M.1 22 s) n 1) 24 (300 * s + M.1 22 s) n b) 22 s (M.1 22 s + n)
theorem M_give_72 {b s N : Nat} {v3 v4 : Int32} (hb : b < 6) (hs : s < 3) (hN : M.1 22 s + N ≤ 300) : ∀ (m n fuel : Nat), n + m = N → m < fuel → s_Mo_give_72 g fuel am (zi b) (zi s) v3 v4 (zi N) (zi n) (mW am (mGv M b s n) ρ) = some (mW am (mGv M b s N) ρ) := by
  intro m
  induction m with
  | zero =>
    intro n fuel hn hf
    obtain ⟨fu, rfl⟩ : ∃ fu, fuel = fu + 1 := ⟨fuel - 1, by omega⟩
    rw [s_Mo_give_72]
    simp (disch := omega) only [m_is, m_g0, m_g1, m_g2, m_g3, m_g4, m_g5, m_g6, m_g7, m_g8, m_g9, m_g10, m_g11, m_g12, m_g13, m_g14, m_g15, m_g16, m_g17, m_g18, m_g19, m_g20, m_g21, m_g22, m_g23, m_g24, m_g25, m_g26, m_g27, m_g28, m_g29, m_g30, m_g31, m_g32, m_g33, m_g34, m_g35, m_g36, m_g37, m_g38, m_g39, m_p0, m_p34, m_p37, m_p38, m_p39, m_r1, m_w1, m_r2, m_w2, m_r3, m_w3, m_r4, m_w4, m_r5, m_w5, m_r6, m_w6, m_r7, m_w7, m_r8, m_w8, m_r9, m_w9, m_r10, m_w10, m_r11, m_w11, m_r12, m_w12, m_r13, m_w13, m_r14, m_w14, m_r15, m_w15, m_r16, m_w16, m_r17, m_w17, m_r18, m_w18, m_r19, m_w19, m_r20, m_w20, m_r21, m_w21, m_r22, m_w22, m_r23, m_w23, m_r24, m_w24, m_r25, m_w25, m_r26, m_w26, m_r27, m_w27, m_r28, m_w28, m_r29, m_w29, m_r30, m_w30, m_r31, m_w31, m_r32, m_w32, m_r33, m_w33, m_r34, m_w34, mSN_at, mSN_2, mSI_1, mSI_at, mSI_22, mSL_1, mSL_21, mSL_at, mSL_222, mSs_1, mSs_21, mSs_221, mSs_at, mSs_f, mSf_1, mSf_21, mSf_221, mSf_s, mSf_f, zi_l0, zi_l1, zi_l2, zi_l3, zi_l4, zi_l5, zi_l6, zi_l7, zi_l8, zi_l9, zi_l10, zi_l12, zi_l18, zi_l20, zi_l30, zi_l32, zi_l36, zi_l48, zi_l64, zi_l99, zi_l100, zi_l300, zi_l512, zi_l600, zi_l900, zi_l1800, zi_l9999, Option.bind_some, zi_lt0, zi_ge0, zi_01, zi_add, zi_mul, zi_sub, zi_lt, zi_le, zi_eq, zi_bool, zi_byte, zi_short, zi_t8, zi_t16, if_pos, if_neg, if_true, if_false, or_true, true_or, and_self, and_true, true_and, and_false, false_and]
    rw [show n = N from by omega]
  | succ m ih =>
    intro n fuel hn hf
    obtain ⟨fu, rfl⟩ : ∃ fu, fuel = fu + 1 := ⟨fuel - 1, by omega⟩
    rw [s_Mo_give_72]
    have hg : (mGv M b s n).1 22 s = M.1 22 s + n := by
      unfold mGv
      rw [mSN_at, if_pos ⟨rfl, rfl⟩]
    simp (disch := omega) only [hg, s_Mo_at, Nat.add_sub_cancel, m_is, m_g0, m_g1, m_g2, m_g3, m_g4, m_g5, m_g6, m_g7, m_g8, m_g9, m_g10, m_g11, m_g12, m_g13, m_g14, m_g15, m_g16, m_g17, m_g18, m_g19, m_g20, m_g21, m_g22, m_g23, m_g24, m_g25, m_g26, m_g27, m_g28, m_g29, m_g30, m_g31, m_g32, m_g33, m_g34, m_g35, m_g36, m_g37, m_g38, m_g39, m_p0, m_p34, m_p37, m_p38, m_p39, m_r1, m_w1, m_r2, m_w2, m_r3, m_w3, m_r4, m_w4, m_r5, m_w5, m_r6, m_w6, m_r7, m_w7, m_r8, m_w8, m_r9, m_w9, m_r10, m_w10, m_r11, m_w11, m_r12, m_w12, m_r13, m_w13, m_r14, m_w14, m_r15, m_w15, m_r16, m_w16, m_r17, m_w17, m_r18, m_w18, m_r19, m_w19, m_r20, m_w20, m_r21, m_w21, m_r22, m_w22, m_r23, m_w23, m_r24, m_w24, m_r25, m_w25, m_r26, m_w26, m_r27, m_w27, m_r28, m_w28, m_r29, m_w29, m_r30, m_w30, m_r31, m_w31, m_r32, m_w32, m_r33, m_w33, m_r34, m_w34, mSN_at, mSN_2, mSI_1, mSI_at, mSI_22, mSL_1, mSL_21, mSL_at, mSL_222, mSs_1, mSs_21, mSs_221, mSs_at, mSs_f, mSf_1, mSf_21, mSf_221, mSf_s, mSf_f, zi_l0, zi_l1, zi_l2, zi_l3, zi_l4, zi_l5, zi_l6, zi_l7, zi_l8, zi_l9, zi_l10, zi_l12, zi_l18, zi_l20, zi_l30, zi_l32, zi_l36, zi_l48, zi_l64, zi_l99, zi_l100, zi_l300, zi_l512, zi_l600, zi_l900, zi_l1800, zi_l9999, Option.bind_some, zi_lt0, zi_ge0, zi_01, zi_add, zi_mul, zi_sub, zi_lt, zi_le, zi_eq, zi_bool, zi_byte, zi_short, zi_t8, zi_t16, if_pos, if_neg, if_true, if_false, or_true, true_or, and_self, and_true, true_and, and_false, false_and]
    have hE : mSN (mSN (mSN (mGv M b s n) 22 s (M.1 22 s + n + 1)) 23 (300 * s + (M.1 22 s + n + 1) - 1) 1) 24 (300 * s + (M.1 22 s + n + 1) - 1) b = mGv M b s (n + 1) := by
      refine Prod.ext ?_ rfl
      funext a c
      simp only [mGv, mFl, mSN]
      by_cases h1 : a = 22
      · subst h1
        by_cases h2 : c = s
        · subst h2
          simp (disch := omega) only [if_pos, if_neg, and_self, if_true]
          omega
        · simp (disch := omega) only [if_pos, if_neg]
      · by_cases h2 : a = 23
        · subst h2
          repeat' split
          all_goals (first | rfl | omega)
        · by_cases h3 : a = 24
          · subst h3
            repeat' split
            all_goals (first | rfl | omega)
          · simp (disch := omega) only [if_pos, if_neg]
    rw [hE]
    exact ih (n + 1) fu (by omega) (by omega)
/-- a block of n to branch b -/
def mGive (M : mS) (b s n : Nat) : mS := mGv (mSN (mSN (mSN M 30 b 1) 31 b (M.1 22 s + 1)) 32 b n) b s n
theorem M_give {b s w : Nat} (hb : b < 6) (hs : s < 3) (hg : M.1 22 s ≤ 300) (hw : w < 2147483648) (hM : mOK M) : s_Mo_give g am (zi b) (zi s) (zi w) (mW am M ρ) = some (mW am (mGive M b s (min w (if M.1 20 s = 1 then 300 - M.1 22 s else 0))) ρ) := by
  have e1 := hM.b31 20 s
  have hz : ∀ X : mS, mGv X b s 0 = mSN X 22 s (X.1 22 s) := by
    intro X
    refine Prod.ext ?_ rfl
    funext a c
    simp only [mGv, mFl, mSN]
    repeat' split
    all_goals (first | rfl | omega)
  have hz2 : ∀ X : mS, mSN X 22 s (X.1 22 s) = X := by
    intro X
    refine Prod.ext ?_ rfl
    funext a c
    simp only [mSN]
    split
    · rename_i h
      rw [h.1, h.2]
    · rfl
  have key : ∀ (v4 : Int32) (n : Nat), n ≤ 300 - M.1 22 s → s_Mo_give_38 g am (zi b) (zi s) (zi w) v4 (zi n) (mW am M ρ) = some (mW am (mGive M b s n) ρ) := by
    intro v4 n hn
    unfold s_Mo_give_38
    simp (disch := omega) only [m_is, m_g0, m_g1, m_g2, m_g3, m_g4, m_g5, m_g6, m_g7, m_g8, m_g9, m_g10, m_g11, m_g12, m_g13, m_g14, m_g15, m_g16, m_g17, m_g18, m_g19, m_g20, m_g21, m_g22, m_g23, m_g24, m_g25, m_g26, m_g27, m_g28, m_g29, m_g30, m_g31, m_g32, m_g33, m_g34, m_g35, m_g36, m_g37, m_g38, m_g39, m_p0, m_p34, m_p37, m_p38, m_p39, m_r1, m_w1, m_r2, m_w2, m_r3, m_w3, m_r4, m_w4, m_r5, m_w5, m_r6, m_w6, m_r7, m_w7, m_r8, m_w8, m_r9, m_w9, m_r10, m_w10, m_r11, m_w11, m_r12, m_w12, m_r13, m_w13, m_r14, m_w14, m_r15, m_w15, m_r16, m_w16, m_r17, m_w17, m_r18, m_w18, m_r19, m_w19, m_r20, m_w20, m_r21, m_w21, m_r22, m_w22, m_r23, m_w23, m_r24, m_w24, m_r25, m_w25, m_r26, m_w26, m_r27, m_w27, m_r28, m_w28, m_r29, m_w29, m_r30, m_w30, m_r31, m_w31, m_r32, m_w32, m_r33, m_w33, m_r34, m_w34, mSN_at, mSN_2, mSI_1, mSI_at, mSI_22, mSL_1, mSL_21, mSL_at, mSL_222, mSs_1, mSs_21, mSs_221, mSs_at, mSs_f, mSf_1, mSf_21, mSf_221, mSf_s, mSf_f, zi_l0, zi_l1, zi_l2, zi_l3, zi_l4, zi_l5, zi_l6, zi_l7, zi_l8, zi_l9, zi_l10, zi_l12, zi_l18, zi_l20, zi_l30, zi_l32, zi_l36, zi_l48, zi_l64, zi_l99, zi_l100, zi_l300, zi_l512, zi_l600, zi_l900, zi_l1800, zi_l9999, Option.bind_some, zi_lt0, zi_ge0, zi_01, zi_add, zi_mul, zi_sub, zi_lt, zi_le, zi_eq, zi_bool, zi_byte, zi_short, zi_t8, zi_t16, if_pos, if_neg, if_true, if_false, or_true, true_or, and_self, and_true, true_and, and_false, false_and]
    have h := M_give_72 (g := g) (am := am) (ρ := ρ) (M := mSN (mSN (mSN M 30 b 1) 31 b (M.1 22 s + 1)) 32 b n) (b := b) (s := s) (N := n) (v3 := zi w) (v4 := v4) hb hs (by simp (disch := omega) only [mSN_at, if_neg]; omega) n 0 zfuel (by omega) (by unfold zfuel; omega)
    rw [hz, hz2] at h
    exact h
  by_cases h1 : M.1 20 s = 1
  · rw [if_pos h1]
    by_cases h2 : w ≤ 300 - M.1 22 s
    · rw [Nat.min_eq_left h2]
      unfold s_Mo_give s_Mo_give_24
      by_cases h3 : 300 - M.1 22 s ≤ w
      · have h4 : w = 300 - M.1 22 s := by omega
        simp (disch := omega) only [h1, m_is, m_g0, m_g1, m_g2, m_g3, m_g4, m_g5, m_g6, m_g7, m_g8, m_g9, m_g10, m_g11, m_g12, m_g13, m_g14, m_g15, m_g16, m_g17, m_g18, m_g19, m_g20, m_g21, m_g22, m_g23, m_g24, m_g25, m_g26, m_g27, m_g28, m_g29, m_g30, m_g31, m_g32, m_g33, m_g34, m_g35, m_g36, m_g37, m_g38, m_g39, m_p0, m_p34, m_p37, m_p38, m_p39, m_r1, m_w1, m_r2, m_w2, m_r3, m_w3, m_r4, m_w4, m_r5, m_w5, m_r6, m_w6, m_r7, m_w7, m_r8, m_w8, m_r9, m_w9, m_r10, m_w10, m_r11, m_w11, m_r12, m_w12, m_r13, m_w13, m_r14, m_w14, m_r15, m_w15, m_r16, m_w16, m_r17, m_w17, m_r18, m_w18, m_r19, m_w19, m_r20, m_w20, m_r21, m_w21, m_r22, m_w22, m_r23, m_w23, m_r24, m_w24, m_r25, m_w25, m_r26, m_w26, m_r27, m_w27, m_r28, m_w28, m_r29, m_w29, m_r30, m_w30, m_r31, m_w31, m_r32, m_w32, m_r33, m_w33, m_r34, m_w34, mSN_at, mSN_2, mSI_1, mSI_at, mSI_22, mSL_1, mSL_21, mSL_at, mSL_222, mSs_1, mSs_21, mSs_221, mSs_at, mSs_f, mSf_1, mSf_21, mSf_221, mSf_s, mSf_f, zi_l0, zi_l1, zi_l2, zi_l3, zi_l4, zi_l5, zi_l6, zi_l7, zi_l8, zi_l9, zi_l10, zi_l12, zi_l18, zi_l20, zi_l30, zi_l32, zi_l36, zi_l48, zi_l64, zi_l99, zi_l100, zi_l300, zi_l512, zi_l600, zi_l900, zi_l1800, zi_l9999, Option.bind_some, zi_lt0, zi_ge0, zi_01, zi_add, zi_mul, zi_sub, zi_lt, zi_le, zi_eq, zi_bool, zi_byte, zi_short, zi_t8, zi_t16, if_pos, if_neg, if_true, if_false, or_true, true_or, and_self, and_true, true_and, and_false, false_and]
        rw [← h4]
        exact key _ w h2
      · simp (disch := omega) only [h1, m_is, m_g0, m_g1, m_g2, m_g3, m_g4, m_g5, m_g6, m_g7, m_g8, m_g9, m_g10, m_g11, m_g12, m_g13, m_g14, m_g15, m_g16, m_g17, m_g18, m_g19, m_g20, m_g21, m_g22, m_g23, m_g24, m_g25, m_g26, m_g27, m_g28, m_g29, m_g30, m_g31, m_g32, m_g33, m_g34, m_g35, m_g36, m_g37, m_g38, m_g39, m_p0, m_p34, m_p37, m_p38, m_p39, m_r1, m_w1, m_r2, m_w2, m_r3, m_w3, m_r4, m_w4, m_r5, m_w5, m_r6, m_w6, m_r7, m_w7, m_r8, m_w8, m_r9, m_w9, m_r10, m_w10, m_r11, m_w11, m_r12, m_w12, m_r13, m_w13, m_r14, m_w14, m_r15, m_w15, m_r16, m_w16, m_r17, m_w17, m_r18, m_w18, m_r19, m_w19, m_r20, m_w20, m_r21, m_w21, m_r22, m_w22, m_r23, m_w23, m_r24, m_w24, m_r25, m_w25, m_r26, m_w26, m_r27, m_w27, m_r28, m_w28, m_r29, m_w29, m_r30, m_w30, m_r31, m_w31, m_r32, m_w32, m_r33, m_w33, m_r34, m_w34, mSN_at, mSN_2, mSI_1, mSI_at, mSI_22, mSL_1, mSL_21, mSL_at, mSL_222, mSs_1, mSs_21, mSs_221, mSs_at, mSs_f, mSf_1, mSf_21, mSf_221, mSf_s, mSf_f, zi_l0, zi_l1, zi_l2, zi_l3, zi_l4, zi_l5, zi_l6, zi_l7, zi_l8, zi_l9, zi_l10, zi_l12, zi_l18, zi_l20, zi_l30, zi_l32, zi_l36, zi_l48, zi_l64, zi_l99, zi_l100, zi_l300, zi_l512, zi_l600, zi_l900, zi_l1800, zi_l9999, Option.bind_some, zi_lt0, zi_ge0, zi_01, zi_add, zi_mul, zi_sub, zi_lt, zi_le, zi_eq, zi_bool, zi_byte, zi_short, zi_t8, zi_t16, if_pos, if_neg, if_true, if_false, or_true, true_or, and_self, and_true, true_and, and_false, false_and]
        exact key _ w h2
    · rw [Nat.min_eq_right (by omega)]
      unfold s_Mo_give s_Mo_give_24
      simp (disch := omega) only [h1, m_is, m_g0, m_g1, m_g2, m_g3, m_g4, m_g5, m_g6, m_g7, m_g8, m_g9, m_g10, m_g11, m_g12, m_g13, m_g14, m_g15, m_g16, m_g17, m_g18, m_g19, m_g20, m_g21, m_g22, m_g23, m_g24, m_g25, m_g26, m_g27, m_g28, m_g29, m_g30, m_g31, m_g32, m_g33, m_g34, m_g35, m_g36, m_g37, m_g38, m_g39, m_p0, m_p34, m_p37, m_p38, m_p39, m_r1, m_w1, m_r2, m_w2, m_r3, m_w3, m_r4, m_w4, m_r5, m_w5, m_r6, m_w6, m_r7, m_w7, m_r8, m_w8, m_r9, m_w9, m_r10, m_w10, m_r11, m_w11, m_r12, m_w12, m_r13, m_w13, m_r14, m_w14, m_r15, m_w15, m_r16, m_w16, m_r17, m_w17, m_r18, m_w18, m_r19, m_w19, m_r20, m_w20, m_r21, m_w21, m_r22, m_w22, m_r23, m_w23, m_r24, m_w24, m_r25, m_w25, m_r26, m_w26, m_r27, m_w27, m_r28, m_w28, m_r29, m_w29, m_r30, m_w30, m_r31, m_w31, m_r32, m_w32, m_r33, m_w33, m_r34, m_w34, mSN_at, mSN_2, mSI_1, mSI_at, mSI_22, mSL_1, mSL_21, mSL_at, mSL_222, mSs_1, mSs_21, mSs_221, mSs_at, mSs_f, mSf_1, mSf_21, mSf_221, mSf_s, mSf_f, zi_l0, zi_l1, zi_l2, zi_l3, zi_l4, zi_l5, zi_l6, zi_l7, zi_l8, zi_l9, zi_l10, zi_l12, zi_l18, zi_l20, zi_l30, zi_l32, zi_l36, zi_l48, zi_l64, zi_l99, zi_l100, zi_l300, zi_l512, zi_l600, zi_l900, zi_l1800, zi_l9999, Option.bind_some, zi_lt0, zi_ge0, zi_01, zi_add, zi_mul, zi_sub, zi_lt, zi_le, zi_eq, zi_bool, zi_byte, zi_short, zi_t8, zi_t16, if_pos, if_neg, if_true, if_false, or_true, true_or, and_self, and_true, true_and, and_false, false_and]
      exact key _ _ (Nat.le_refl _)
  · rw [if_neg h1, Nat.min_eq_right (by omega)]
    unfold s_Mo_give s_Mo_give_24
    simp (disch := omega) only [h1, m_is, m_g0, m_g1, m_g2, m_g3, m_g4, m_g5, m_g6, m_g7, m_g8, m_g9, m_g10, m_g11, m_g12, m_g13, m_g14, m_g15, m_g16, m_g17, m_g18, m_g19, m_g20, m_g21, m_g22, m_g23, m_g24, m_g25, m_g26, m_g27, m_g28, m_g29, m_g30, m_g31, m_g32, m_g33, m_g34, m_g35, m_g36, m_g37, m_g38, m_g39, m_p0, m_p34, m_p37, m_p38, m_p39, m_r1, m_w1, m_r2, m_w2, m_r3, m_w3, m_r4, m_w4, m_r5, m_w5, m_r6, m_w6, m_r7, m_w7, m_r8, m_w8, m_r9, m_w9, m_r10, m_w10, m_r11, m_w11, m_r12, m_w12, m_r13, m_w13, m_r14, m_w14, m_r15, m_w15, m_r16, m_w16, m_r17, m_w17, m_r18, m_w18, m_r19, m_w19, m_r20, m_w20, m_r21, m_w21, m_r22, m_w22, m_r23, m_w23, m_r24, m_w24, m_r25, m_w25, m_r26, m_w26, m_r27, m_w27, m_r28, m_w28, m_r29, m_w29, m_r30, m_w30, m_r31, m_w31, m_r32, m_w32, m_r33, m_w33, m_r34, m_w34, mSN_at, mSN_2, mSI_1, mSI_at, mSI_22, mSL_1, mSL_21, mSL_at, mSL_222, mSs_1, mSs_21, mSs_221, mSs_at, mSs_f, mSf_1, mSf_21, mSf_221, mSf_s, mSf_f, zi_l0, zi_l1, zi_l2, zi_l3, zi_l4, zi_l5, zi_l6, zi_l7, zi_l8, zi_l9, zi_l10, zi_l12, zi_l18, zi_l20, zi_l30, zi_l32, zi_l36, zi_l48, zi_l64, zi_l99, zi_l100, zi_l300, zi_l512, zi_l600, zi_l900, zi_l1800, zi_l9999, Option.bind_some, zi_lt0, zi_ge0, zi_01, zi_add, zi_mul, zi_sub, zi_lt, zi_le, zi_eq, zi_bool, zi_byte, zi_short, zi_t8, zi_t16, if_pos, if_neg, if_true, if_false, or_true, true_or, and_self, and_true, true_and, and_false, false_and]
    exact key _ 0 (by omega)
/-- a block of n, from f on, comes to book j -/
def mFl2 (M : mS) (j d n f : Nat) : mS := (fun a b => if a = j ∧ d ≤ b ∧ b < d + n then f + (b - d) else M.1 a b, M.2)
def mAn (M : mS) (j f n : Nat) : mS := mSN (mFl (mFl (mFl2 M 7 (300 * j + M.1 2 j) n f) 8 (300 * j + M.1 2 j) n (M.1 4 j)) 9 (300 * j + M.1 2 j) n 1) 2 j (M.1 2 j + n)
theorem M_answered_52 {j f N : Nat} {v1 v2 v3 : Int32} (hj : j < 36) (hN : M.1 2 j + N ≤ 300) (hf : f + N < 32768) (h4 : M.1 4 j < 32768) : ∀ (m n fuel : Nat), n + m = N → m < fuel → s_Mo_answered_52 g fuel am v1 v2 v3 (zi f) (zi N) (zi j) (zi n) (mW am (mAn M j f n) ρ) = some (mW am (mSN (mAn M j f N) 4 j (M.1 4 j + 1)) ρ) := by
  intro m
  induction m with
  | zero =>
    intro n fuel hn hfu
    obtain ⟨fu, rfl⟩ : ∃ fu, fuel = fu + 1 := ⟨fuel - 1, by omega⟩
    rw [s_Mo_answered_52]
    have hb : (mAn M j f n).1 4 j = M.1 4 j := by
      simp (disch := omega) only [mAn, mFl, mFl2, mSN, if_neg]
    simp (disch := omega) only [hb, s_Mo_answered_178, m_is, m_g0, m_g1, m_g2, m_g3, m_g4, m_g5, m_g6, m_g7, m_g8, m_g9, m_g10, m_g11, m_g12, m_g13, m_g14, m_g15, m_g16, m_g17, m_g18, m_g19, m_g20, m_g21, m_g22, m_g23, m_g24, m_g25, m_g26, m_g27, m_g28, m_g29, m_g30, m_g31, m_g32, m_g33, m_g34, m_g35, m_g36, m_g37, m_g38, m_g39, m_p0, m_p34, m_p37, m_p38, m_p39, m_r1, m_w1, m_r2, m_w2, m_r3, m_w3, m_r4, m_w4, m_r5, m_w5, m_r6, m_w6, m_r7, m_w7, m_r8, m_w8, m_r9, m_w9, m_r10, m_w10, m_r11, m_w11, m_r12, m_w12, m_r13, m_w13, m_r14, m_w14, m_r15, m_w15, m_r16, m_w16, m_r17, m_w17, m_r18, m_w18, m_r19, m_w19, m_r20, m_w20, m_r21, m_w21, m_r22, m_w22, m_r23, m_w23, m_r24, m_w24, m_r25, m_w25, m_r26, m_w26, m_r27, m_w27, m_r28, m_w28, m_r29, m_w29, m_r30, m_w30, m_r31, m_w31, m_r32, m_w32, m_r33, m_w33, m_r34, m_w34, mSN_at, mSN_2, mSI_1, mSI_at, mSI_22, mSL_1, mSL_21, mSL_at, mSL_222, mSs_1, mSs_21, mSs_221, mSs_at, mSs_f, mSf_1, mSf_21, mSf_221, mSf_s, mSf_f, zi_l0, zi_l1, zi_l2, zi_l3, zi_l4, zi_l5, zi_l6, zi_l7, zi_l8, zi_l9, zi_l10, zi_l12, zi_l18, zi_l20, zi_l30, zi_l32, zi_l36, zi_l48, zi_l64, zi_l99, zi_l100, zi_l300, zi_l512, zi_l600, zi_l900, zi_l1800, zi_l9999, Option.bind_some, zi_lt0, zi_ge0, zi_01, zi_add, zi_mul, zi_sub, zi_lt, zi_le, zi_eq, zi_bool, zi_byte, zi_short, zi_t8, zi_t16, if_pos, if_neg, if_true, if_false, or_true, true_or, and_self, and_true, true_and, and_false, false_and]
    rw [show n = N from by omega]
  | succ m ih =>
    intro n fuel hn hfu
    obtain ⟨fu, rfl⟩ : ∃ fu, fuel = fu + 1 := ⟨fuel - 1, by omega⟩
    rw [s_Mo_answered_52]
    have hb : (mAn M j f n).1 4 j = M.1 4 j := by
      simp (disch := omega) only [mAn, mFl, mFl2, mSN, if_neg]
    have ho : (mAn M j f n).1 2 j = M.1 2 j + n := by
      unfold mAn
      rw [mSN_at, if_pos ⟨rfl, rfl⟩]
    simp (disch := omega) only [hb, ho, m_is, m_g0, m_g1, m_g2, m_g3, m_g4, m_g5, m_g6, m_g7, m_g8, m_g9, m_g10, m_g11, m_g12, m_g13, m_g14, m_g15, m_g16, m_g17, m_g18, m_g19, m_g20, m_g21, m_g22, m_g23, m_g24, m_g25, m_g26, m_g27, m_g28, m_g29, m_g30, m_g31, m_g32, m_g33, m_g34, m_g35, m_g36, m_g37, m_g38, m_g39, m_p0, m_p34, m_p37, m_p38, m_p39, m_r1, m_w1, m_r2, m_w2, m_r3, m_w3, m_r4, m_w4, m_r5, m_w5, m_r6, m_w6, m_r7, m_w7, m_r8, m_w8, m_r9, m_w9, m_r10, m_w10, m_r11, m_w11, m_r12, m_w12, m_r13, m_w13, m_r14, m_w14, m_r15, m_w15, m_r16, m_w16, m_r17, m_w17, m_r18, m_w18, m_r19, m_w19, m_r20, m_w20, m_r21, m_w21, m_r22, m_w22, m_r23, m_w23, m_r24, m_w24, m_r25, m_w25, m_r26, m_w26, m_r27, m_w27, m_r28, m_w28, m_r29, m_w29, m_r30, m_w30, m_r31, m_w31, m_r32, m_w32, m_r33, m_w33, m_r34, m_w34, mSN_at, mSN_2, mSI_1, mSI_at, mSI_22, mSL_1, mSL_21, mSL_at, mSL_222, mSs_1, mSs_21, mSs_221, mSs_at, mSs_f, mSf_1, mSf_21, mSf_221, mSf_s, mSf_f, zi_l0, zi_l1, zi_l2, zi_l3, zi_l4, zi_l5, zi_l6, zi_l7, zi_l8, zi_l9, zi_l10, zi_l12, zi_l18, zi_l20, zi_l30, zi_l32, zi_l36, zi_l48, zi_l64, zi_l99, zi_l100, zi_l300, zi_l512, zi_l600, zi_l900, zi_l1800, zi_l9999, Option.bind_some, zi_lt0, zi_ge0, zi_01, zi_add, zi_mul, zi_sub, zi_lt, zi_le, zi_eq, zi_bool, zi_byte, zi_short, zi_t8, zi_t16, if_pos, if_neg, if_true, if_false, or_true, true_or, and_self, and_true, true_and, and_false, false_and]
    have hE : mSN (mSN (mSN (mSN (mAn M j f n) 7 (300 * j + (M.1 2 j + n)) (f + n)) 8 (300 * j + (M.1 2 j + n)) (M.1 4 j)) 9 (300 * j + (M.1 2 j + n)) 1) 2 j (M.1 2 j + n + 1) = mAn M j f (n + 1) := by
      refine Prod.ext ?_ rfl
      funext a c
      simp only [mAn, mFl, mFl2, mSN]
      by_cases h1 : a = 2
      · subst h1
        by_cases h2 : c = j
        · subst h2
          simp (disch := omega) only [if_pos, if_neg, and_self, if_true]
          omega
        · simp (disch := omega) only [if_pos, if_neg]
      · by_cases h2 : a = 7
        · subst h2
          repeat' split
          all_goals (first | rfl | omega)
        · by_cases h3 : a = 8
          · subst h3
            repeat' split
            all_goals (first | rfl | omega)
          · by_cases h5 : a = 9
            · subst h5
              repeat' split
              all_goals (first | rfl | omega)
            · simp (disch := omega) only [if_pos, if_neg]
    rw [hE]
    exact ih (n + 1) fu (by omega) (by omega)
end MRUN3
