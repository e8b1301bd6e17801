section MACC
variable {M : mS} {a b j k v : Nat} {x : Int32} {y : Int64}
theorem mSN_at : (mSN M j k v).1 a b = if a = j ∧ b = k then v else M.1 a b := rfl
theorem mSN_2 : (mSN M j k v).2 = M.2 := rfl
theorem mSI_1 : (mSI M j k x).1 = M.1 := rfl
theorem mSI_at : (mSI M j k x).2.1 a b = if a = j ∧ b = k then x else M.2.1 a b := rfl
theorem mSI_22 : (mSI M j k x).2.2 = M.2.2 := rfl
theorem mSL_1 : (mSL M j k y).1 = M.1 := rfl
theorem mSL_21 : (mSL M j k y).2.1 = M.2.1 := rfl
theorem mSL_at : (mSL M j k y).2.2.1 a b = if a = j ∧ b = k then y else M.2.2.1 a b := rfl
theorem mSL_222 : (mSL M j k y).2.2.2 = M.2.2.2 := rfl
theorem mSs_1 : (mSs M k v).1 = M.1 := rfl
theorem mSs_21 : (mSs M k v).2.1 = M.2.1 := rfl
theorem mSs_221 : (mSs M k v).2.2.1 = M.2.2.1 := rfl
theorem mSs_at : (mSs M k v).2.2.2.1 a = if a = k then v else M.2.2.2.1 a := rfl
theorem mSs_f : (mSs M k v).2.2.2.2 = M.2.2.2.2 := rfl
theorem mSf_1 : (mSf M x).1 = M.1 := rfl
theorem mSf_21 : (mSf M x).2.1 = M.2.1 := rfl
theorem mSf_221 : (mSf M x).2.2.1 = M.2.2.1 := rfl
theorem mSf_s : (mSf M x).2.2.2.1 = M.2.2.2.1 := rfl
theorem mSf_f : (mSf M x).2.2.2.2 = x := rfl
end MACC
/-! copying a stretch of rows -/
def cpf {α : Type} (P : List Nat) (f : Nat → Nat → α) (d s n : Nat) : Nat → Nat → α := fun a b => if a ∈ P ∧ d ≤ b ∧ b < d + n then f a (s + (b - d)) else f a b
def wrf {α : Type} (P : List Nat) (f : Nat → Nat → α) (k j : Nat) : Nat → Nat → α := fun a b => if a ∈ P ∧ b = k then f a j else f a b
section CPF
variable {α : Type} {P : List Nat} {f : Nat → Nat → α} {d s n a b : Nat}
theorem cpf_0 : cpf P f d s 0 = f := by
  funext a b
  unfold cpf
  rw [if_neg (fun h => by omega)]
theorem cpf_out (h : ¬ a ∈ P ∨ b < d ∨ d + n ≤ b) : cpf P f d s n a b = f a b := by
  unfold cpf
  rw [if_neg]
  intro q
  rcases h with h | h | h
  · exact h q.1
  · omega
  · omega
theorem cpf_in (h : a ∈ P ∧ d ≤ b ∧ b < d + n) : cpf P f d s n a b = f a (s + (b - d)) := by
  unfold cpf
  rw [if_pos h]
theorem cpf_step (hd : s + n < d ∨ d + n ≤ s + n) : wrf P (cpf P f d s n) (d + n) (s + n) = cpf P f d s (n + 1) := by
  funext a b
  show (if a ∈ P ∧ b = d + n then cpf P f d s n a (s + n) else cpf P f d s n a b) = if a ∈ P ∧ d ≤ b ∧ b < d + (n + 1) then f a (s + (b - d)) else f a b
  rw [cpf_out (b := s + n) (by omega)]
  by_cases ha : a ∈ P
  · by_cases hb : b = d + n
    · rw [if_pos ⟨ha, hb⟩, if_pos ⟨ha, by omega, by omega⟩, show s + (b - d) = s + n from by omega]
    · rw [if_neg (fun q => hb q.2)]
      by_cases hi : d ≤ b ∧ b < d + n
      · rw [cpf_in ⟨ha, hi⟩, if_pos ⟨ha, hi.1, by omega⟩]
      · rw [cpf_out (by omega), if_neg (fun q => by omega)]
  · rw [if_neg (fun q => ha q.1), cpf_out (Or.inl ha), if_neg (fun q => ha q.1)]
theorem wrf_nil {k j : Nat} : wrf [] f k j = f := by
  funext a b
  unfold wrf
  rw [if_neg (fun q => by cases q.1)]
theorem cpf_nil : cpf [] f d s n = f := by
  funext a b
  exact cpf_out (Or.inl (fun q => by cases q))
end CPF
def mCp (P Q R : List Nat) (M : mS) (d s n : Nat) : mS := (cpf P M.1 d s n, cpf Q M.2.1 d s n, cpf R M.2.2.1 d s n, M.2.2.2)
def mWr (P Q R : List Nat) (M : mS) (k j : Nat) : mS := (wrf P M.1 k j, wrf Q M.2.1 k j, wrf R M.2.2.1 k j, M.2.2.2)
section MCP
variable {M : mS} {P Q R : List Nat} {d s n : Nat}
theorem mCp_0 : mCp P Q R M d s 0 = M := by
  unfold mCp
  rw [cpf_0, cpf_0, cpf_0]
theorem mCp_step (hd : s + n < d ∨ d + n ≤ s + n) : mWr P Q R (mCp P Q R M d s n) (d + n) (s + n) = mCp P Q R M d s (n + 1) := by
  show (wrf P (cpf P M.1 d s n) (d + n) (s + n), wrf Q (cpf Q M.2.1 d s n) (d + n) (s + n), wrf R (cpf R M.2.2.1 d s n) (d + n) (s + n), M.2.2.2) = _
  rw [cpf_step hd, cpf_step hd, cpf_step hd]
  rfl
theorem mCp_1 : (mCp P Q R M d s n).1 = cpf P M.1 d s n := rfl
theorem mCp_21 : (mCp P Q R M d s n).2.1 = cpf Q M.2.1 d s n := rfl
theorem mCp_221 : (mCp P Q R M d s n).2.2.1 = cpf R M.2.2.1 d s n := rfl
theorem mCp_222 : (mCp P Q R M d s n).2.2.2 = M.2.2.2 := rfl
/-- every number of the rows is small -/
def mbd (j : Nat) : Nat := if j = 9 ∨ j = 12 ∨ j = 23 ∨ j = 24 ∨ j = 27 then 128 else if j = 1 ∨ j = 18 ∨ j = 19 ∨ j = 28 then 2 else if j = 7 ∨ j = 8 ∨ j = 13 then 32768 else 2147483648
def mOK (M : mS) : Prop := ∀ j k, M.1 j k < mbd j
theorem mOK.b128 (h : mOK M) {j : Nat} (hj : j = 9 ∨ j = 12 ∨ j = 23 ∨ j = 24 ∨ j = 27) (k : Nat) : M.1 j k < 128 := by
  have := h j k
  unfold mbd at this
  rwa [if_pos hj] at this
theorem mOK.b2 (h : mOK M) {j : Nat} (hj : j = 1 ∨ j = 18 ∨ j = 19 ∨ j = 28) (k : Nat) : M.1 j k < 2 := by
  have := h j k
  unfold mbd at this
  rwa [if_neg (by omega), if_pos hj] at this
theorem mOK.b16 (h : mOK M) {j : Nat} (hj : j = 7 ∨ j = 8 ∨ j = 13) (k : Nat) : M.1 j k < 32768 := by
  have := h j k
  unfold mbd at this
  rwa [if_neg (by omega), if_neg (by omega), if_pos hj] at this
theorem mbd_le (j : Nat) : mbd j ≤ 2147483648 := by
  unfold mbd
  split
  · omega
  · split
    · omega
    · split <;> omega
theorem mOK.b31 (h : mOK M) (j k : Nat) : M.1 j k < 2147483648 := Nat.lt_of_lt_of_le (h j k) (mbd_le j)
theorem mOK.cp (h : mOK M) : mOK (mCp P Q R M d s n) := by
  intro j k
  show (if j ∈ P ∧ d ≤ k ∧ k < d + n then M.1 j (s + (k - d)) else M.1 j k) < mbd j
  split
  · exact h _ _
  · exact h _ _
theorem mOK.set (h : mOK M) {j k v : Nat} (hv : v < mbd j) : mOK (mSN M j k v) := by
  intro a b
  show (if a = j ∧ b = k then v else M.1 a b) < mbd a
  split
  · rename_i q
    rw [q.1]
    exact hv
  · exact h _ _
theorem mOK.set2 (h : mOK M) {M' : mS} (e : M'.1 = M.1) : mOK M' := by
  intro a b
  rw [e]
  exact h a b
end MCP
section MRUN
variable {g : zG} {am : Nat} {M : mS} {ρ : zS}
theorem M_isSeries {s : Nat} (hs : s < 3) : s_Mo_isSeries g (zi s) ρ = some (zi 1, ρ) := by
  simp (disch := omega) only [s_Mo_isSeries, s_Mo_isSeries_13, s_Mo_isSeries_14, m_is, m_g0, m_g1, m_g2, m_g3, m_g4, m_g5, m_g6, m_g7, m_g8, m_g9, m_g10, m_g11, m_g12, m_g13, m_g14, m_g15, m_g16, m_g17, m_g18, m_g19, m_g20, m_g21, m_g22, m_g23, m_g24, m_g25, m_g26, m_g27, m_g28, m_g29, m_g30, m_g31, m_g32, m_g33, m_g34, m_g35, m_g36, m_g37, m_g38, m_g39, m_p0, m_p34, m_p37, m_p38, m_p39, m_r1, m_w1, m_r2, m_w2, m_r3, m_w3, m_r4, m_w4, m_r5, m_w5, m_r6, m_w6, m_r7, m_w7, m_r8, m_w8, m_r9, m_w9, m_r10, m_w10, m_r11, m_w11, m_r12, m_w12, m_r13, m_w13, m_r14, m_w14, m_r15, m_w15, m_r16, m_w16, m_r17, m_w17, m_r18, m_w18, m_r19, m_w19, m_r20, m_w20, m_r21, m_w21, m_r22, m_w22, m_r23, m_w23, m_r24, m_w24, m_r25, m_w25, m_r26, m_w26, m_r27, m_w27, m_r28, m_w28, m_r29, m_w29, m_r30, m_w30, m_r31, m_w31, m_r32, m_w32, m_r33, m_w33, m_r34, m_w34, mSN_at, mSN_2, mSI_1, mSI_at, mSI_22, mSL_1, mSL_21, mSL_at, mSL_222, mSs_1, mSs_21, mSs_221, mSs_at, mSs_f, mSf_1, mSf_21, mSf_221, mSf_s, mSf_f, zi_l0, zi_l1, zi_l2, zi_l3, zi_l4, zi_l5, zi_l6, zi_l7, zi_l8, zi_l9, zi_l10, zi_l12, zi_l18, zi_l20, zi_l30, zi_l32, zi_l36, zi_l48, zi_l64, zi_l99, zi_l100, zi_l300, zi_l512, zi_l600, zi_l900, zi_l1800, zi_l9999, Option.bind_some, zi_lt0, zi_ge0, zi_01, zi_add, zi_mul, zi_sub, zi_lt, zi_le, zi_eq, zi_bool, zi_byte, zi_short, zi_t8, zi_t16, if_pos, if_neg, if_true, if_false, or_true, true_or, and_self, and_true, true_and, and_false, false_and]
theorem M_isSeriesN {x : Int32} (h : x < 0 ∨ ∃ k, k < 2147483648 ∧ 3 ≤ k ∧ x = zi k) : s_Mo_isSeries g x ρ = some (zi 0, ρ) := by
  rcases h with h | ⟨k, h1, h2, rfl⟩
  · rw [s_Mo_isSeries, if_pos h]
    simp (disch := omega) only [s_Mo_isSeries_13, s_Mo_isSeries_14, m_is, m_g0, m_g1, m_g2, m_g3, m_g4, m_g5, m_g6, m_g7, m_g8, m_g9, m_g10, m_g11, m_g12, m_g13, m_g14, m_g15, m_g16, m_g17, m_g18, m_g19, m_g20, m_g21, m_g22, m_g23, m_g24, m_g25, m_g26, m_g27, m_g28, m_g29, m_g30, m_g31, m_g32, m_g33, m_g34, m_g35, m_g36, m_g37, m_g38, m_g39, m_p0, m_p34, m_p37, m_p38, m_p39, m_r1, m_w1, m_r2, m_w2, m_r3, m_w3, m_r4, m_w4, m_r5, m_w5, m_r6, m_w6, m_r7, m_w7, m_r8, m_w8, m_r9, m_w9, m_r10, m_w10, m_r11, m_w11, m_r12, m_w12, m_r13, m_w13, m_r14, m_w14, m_r15, m_w15, m_r16, m_w16, m_r17, m_w17, m_r18, m_w18, m_r19, m_w19, m_r20, m_w20, m_r21, m_w21, m_r22, m_w22, m_r23, m_w23, m_r24, m_w24, m_r25, m_w25, m_r26, m_w26, m_r27, m_w27, m_r28, m_w28, m_r29, m_w29, m_r30, m_w30, m_r31, m_w31, m_r32, m_w32, m_r33, m_w33, m_r34, m_w34, mSN_at, mSN_2, mSI_1, mSI_at, mSI_22, mSL_1, mSL_21, mSL_at, mSL_222, mSs_1, mSs_21, mSs_221, mSs_at, mSs_f, mSf_1, mSf_21, mSf_221, mSf_s, mSf_f, zi_l0, zi_l1, zi_l2, zi_l3, zi_l4, zi_l5, zi_l6, zi_l7, zi_l8, zi_l9, zi_l10, zi_l12, zi_l18, zi_l20, zi_l30, zi_l32, zi_l36, zi_l48, zi_l64, zi_l99, zi_l100, zi_l300, zi_l512, zi_l600, zi_l900, zi_l1800, zi_l9999, Option.bind_some, zi_lt0, zi_ge0, zi_01, zi_add, zi_mul, zi_sub, zi_lt, zi_le, zi_eq, zi_bool, zi_byte, zi_short, zi_t8, zi_t16, if_pos, if_neg, if_true, if_false, or_true, true_or, and_self, and_true, true_and, and_false, false_and]
  · simp (disch := omega) only [s_Mo_isSeries, s_Mo_isSeries_13, s_Mo_isSeries_14, m_is, m_g0, m_g1, m_g2, m_g3, m_g4, m_g5, m_g6, m_g7, m_g8, m_g9, m_g10, m_g11, m_g12, m_g13, m_g14, m_g15, m_g16, m_g17, m_g18, m_g19, m_g20, m_g21, m_g22, m_g23, m_g24, m_g25, m_g26, m_g27, m_g28, m_g29, m_g30, m_g31, m_g32, m_g33, m_g34, m_g35, m_g36, m_g37, m_g38, m_g39, m_p0, m_p34, m_p37, m_p38, m_p39, m_r1, m_w1, m_r2, m_w2, m_r3, m_w3, m_r4, m_w4, m_r5, m_w5, m_r6, m_w6, m_r7, m_w7, m_r8, m_w8, m_r9, m_w9, m_r10, m_w10, m_r11, m_w11, m_r12, m_w12, m_r13, m_w13, m_r14, m_w14, m_r15, m_w15, m_r16, m_w16, m_r17, m_w17, m_r18, m_w18, m_r19, m_w19, m_r20, m_w20, m_r21, m_w21, m_r22, m_w22, m_r23, m_w23, m_r24, m_w24, m_r25, m_w25, m_r26, m_w26, m_r27, m_w27, m_r28, m_w28, m_r29, m_w29, m_r30, m_w30, m_r31, m_w31, m_r32, m_w32, m_r33, m_w33, m_r34, m_w34, mSN_at, mSN_2, mSI_1, mSI_at, mSI_22, mSL_1, mSL_21, mSL_at, mSL_222, mSs_1, mSs_21, mSs_221, mSs_at, mSs_f, mSf_1, mSf_21, mSf_221, mSf_s, mSf_f, zi_l0, zi_l1, zi_l2, zi_l3, zi_l4, zi_l5, zi_l6, zi_l7, zi_l8, zi_l9, zi_l10, zi_l12, zi_l18, zi_l20, zi_l30, zi_l32, zi_l36, zi_l48, zi_l64, zi_l99, zi_l100, zi_l300, zi_l512, zi_l600, zi_l900, zi_l1800, zi_l9999, Option.bind_some, zi_lt0, zi_ge0, zi_01, zi_add, zi_mul, zi_sub, zi_lt, zi_le, zi_eq, zi_bool, zi_byte, zi_short, zi_t8, zi_t16, if_pos, if_neg, if_true, if_false, or_true, true_or, and_self, and_true, true_and, and_false, false_and]
theorem M_isBranch {b : Nat} (hb : b < M.2.2.2.1 1) (hn : M.2.2.2.1 1 ≤ 6) : s_Mo_isBranch g am (zi b) (mW am M ρ) = some (zi 1, mW am M ρ) := by
  simp (disch := omega) only [s_Mo_isBranch, s_Mo_isBranch_16, s_Mo_isBranch_17, m_is, m_g0, m_g1, m_g2, m_g3, m_g4, m_g5, m_g6, m_g7, m_g8, m_g9, m_g10, m_g11, m_g12, m_g13, m_g14, m_g15, m_g16, m_g17, m_g18, m_g19, m_g20, m_g21, m_g22, m_g23, m_g24, m_g25, m_g26, m_g27, m_g28, m_g29, m_g30, m_g31, m_g32, m_g33, m_g34, m_g35, m_g36, m_g37, m_g38, m_g39, m_p0, m_p34, m_p37, m_p38, m_p39, m_r1, m_w1, m_r2, m_w2, m_r3, m_w3, m_r4, m_w4, m_r5, m_w5, m_r6, m_w6, m_r7, m_w7, m_r8, m_w8, m_r9, m_w9, m_r10, m_w10, m_r11, m_w11, m_r12, m_w12, m_r13, m_w13, m_r14, m_w14, m_r15, m_w15, m_r16, m_w16, m_r17, m_w17, m_r18, m_w18, m_r19, m_w19, m_r20, m_w20, m_r21, m_w21, m_r22, m_w22, m_r23, m_w23, m_r24, m_w24, m_r25, m_w25, m_r26, m_w26, m_r27, m_w27, m_r28, m_w28, m_r29, m_w29, m_r30, m_w30, m_r31, m_w31, m_r32, m_w32, m_r33, m_w33, m_r34, m_w34, mSN_at, mSN_2, mSI_1, mSI_at, mSI_22, mSL_1, mSL_21, mSL_at, mSL_222, mSs_1, mSs_21, mSs_221, mSs_at, mSs_f, mSf_1, mSf_21, mSf_221, mSf_s, mSf_f, zi_l0, zi_l1, zi_l2, zi_l3, zi_l4, zi_l5, zi_l6, zi_l7, zi_l8, zi_l9, zi_l10, zi_l12, zi_l18, zi_l20, zi_l30, zi_l32, zi_l36, zi_l48, zi_l64, zi_l99, zi_l100, zi_l300, zi_l512, zi_l600, zi_l900, zi_l1800, zi_l9999, Option.bind_some, zi_lt0, zi_ge0, zi_01, zi_add, zi_mul, zi_sub, zi_lt, zi_le, zi_eq, zi_bool, zi_byte, zi_short, zi_t8, zi_t16, if_pos, if_neg, if_true, if_false, or_true, true_or, and_self, and_true, true_and, and_false, false_and]
theorem M_isBranchN {x : Int32} (hn : M.2.2.2.1 1 ≤ 6) (h : x < 0 ∨ ∃ k, k < 2147483648 ∧ M.2.2.2.1 1 ≤ k ∧ x = zi k) : s_Mo_isBranch g am x (mW am M ρ) = some (zi 0, mW am M ρ) := by
  rcases h with h | ⟨k, h1, h2, rfl⟩
  · rw [s_Mo_isBranch, if_pos h]
    simp (disch := omega) only [s_Mo_isBranch_16, s_Mo_isBranch_17, m_is, m_g0, m_g1, m_g2, m_g3, m_g4, m_g5, m_g6, m_g7, m_g8, m_g9, m_g10, m_g11, m_g12, m_g13, m_g14, m_g15, m_g16, m_g17, m_g18, m_g19, m_g20, m_g21, m_g22, m_g23, m_g24, m_g25, m_g26, m_g27, m_g28, m_g29, m_g30, m_g31, m_g32, m_g33, m_g34, m_g35, m_g36, m_g37, m_g38, m_g39, m_p0, m_p34, m_p37, m_p38, m_p39, m_r1, m_w1, m_r2, m_w2, m_r3, m_w3, m_r4, m_w4, m_r5, m_w5, m_r6, m_w6, m_r7, m_w7, m_r8, m_w8, m_r9, m_w9, m_r10, m_w10, m_r11, m_w11, m_r12, m_w12, m_r13, m_w13, m_r14, m_w14, m_r15, m_w15, m_r16, m_w16, m_r17, m_w17, m_r18, m_w18, m_r19, m_w19, m_r20, m_w20, m_r21, m_w21, m_r22, m_w22, m_r23, m_w23, m_r24, m_w24, m_r25, m_w25, m_r26, m_w26, m_r27, m_w27, m_r28, m_w28, m_r29, m_w29, m_r30, m_w30, m_r31, m_w31, m_r32, m_w32, m_r33, m_w33, m_r34, m_w34, mSN_at, mSN_2, mSI_1, mSI_at, mSI_22, mSL_1, mSL_21, mSL_at, mSL_222, mSs_1, mSs_21, mSs_221, mSs_at, mSs_f, mSf_1, mSf_21, mSf_221, mSf_s, mSf_f, zi_l0, zi_l1, zi_l2, zi_l3, zi_l4, zi_l5, zi_l6, zi_l7, zi_l8, zi_l9, zi_l10, zi_l12, zi_l18, zi_l20, zi_l30, zi_l32, zi_l36, zi_l48, zi_l64, zi_l99, zi_l100, zi_l300, zi_l512, zi_l600, zi_l900, zi_l1800, zi_l9999, Option.bind_some, zi_lt0, zi_ge0, zi_01, zi_add, zi_mul, zi_sub, zi_lt, zi_le, zi_eq, zi_bool, zi_byte, zi_short, zi_t8, zi_t16, if_pos, if_neg, if_true, if_false, or_true, true_or, and_self, and_true, true_and, and_false, false_and]
  · simp (disch := omega) only [s_Mo_isBranch, s_Mo_isBranch_16, s_Mo_isBranch_17, m_is, m_g0, m_g1, m_g2, m_g3, m_g4, m_g5, m_g6, m_g7, m_g8, m_g9, m_g10, m_g11, m_g12, m_g13, m_g14, m_g15, m_g16, m_g17, m_g18, m_g19, m_g20, m_g21, m_g22, m_g23, m_g24, m_g25, m_g26, m_g27, m_g28, m_g29, m_g30, m_g31, m_g32, m_g33, m_g34, m_g35, m_g36, m_g37, m_g38, m_g39, m_p0, m_p34, m_p37, m_p38, m_p39, m_r1, m_w1, m_r2, m_w2, m_r3, m_w3, m_r4, m_w4, m_r5, m_w5, m_r6, m_w6, m_r7, m_w7, m_r8, m_w8, m_r9, m_w9, m_r10, m_w10, m_r11, m_w11, m_r12, m_w12, m_r13, m_w13, m_r14, m_w14, m_r15, m_w15, m_r16, m_w16, m_r17, m_w17, m_r18, m_w18, m_r19, m_w19, m_r20, m_w20, m_r21, m_w21, m_r22, m_w22, m_r23, m_w23, m_r24, m_w24, m_r25, m_w25, m_r26, m_w26, m_r27, m_w27, m_r28, m_w28, m_r29, m_w29, m_r30, m_w30, m_r31, m_w31, m_r32, m_w32, m_r33, m_w33, m_r34, m_w34, mSN_at, mSN_2, mSI_1, mSI_at, mSI_22, mSL_1, mSL_21, mSL_at, mSL_222, mSs_1, mSs_21, mSs_221, mSs_at, mSs_f, mSf_1, mSf_21, mSf_221, mSf_s, mSf_f, zi_l0, zi_l1, zi_l2, zi_l3, zi_l4, zi_l5, zi_l6, zi_l7, zi_l8, zi_l9, zi_l10, zi_l12, zi_l18, zi_l20, zi_l30, zi_l32, zi_l36, zi_l48, zi_l64, zi_l99, zi_l100, zi_l300, zi_l512, zi_l600, zi_l900, zi_l1800, zi_l9999, Option.bind_some, zi_lt0, zi_ge0, zi_01, zi_add, zi_mul, zi_sub, zi_lt, zi_le, zi_eq, zi_bool, zi_byte, zi_short, zi_t8, zi_t16, if_pos, if_neg, if_true, if_false, or_true, true_or, and_self, and_true, true_and, and_false, false_and]
theorem cpO3_wr {k j : Nat} {X : mS} : mSN (mSN (mSN (mSN (mSN (X) 28 (k) (X.1 28 (j))) 29 (k) (X.1 29 (j))) 30 (k) (X.1 30 (j))) 31 (k) (X.1 31 (j))) 32 (k) (X.1 32 (j)) = mWr [28, 29, 30, 31, 32] [] [] X k j := by
  refine Prod.ext ?_ (Prod.ext ?_ (Prod.ext ?_ rfl)) <;> funext a b <;> simp only [mWr, wrf, mSN, mSI, mSL, List.mem_cons, List.not_mem_nil, or_false, false_and, if_false] <;> by_cases hb : b = k <;> simp only [hb, and_true, and_false, if_false] <;> repeat' split <;> simp_all
theorem cpO3 {f t : Nat} (hf : f < 2 ∧ t < 2 ∧ f ≠ t) {Y : Option zS} (hY : ∀ X, X = mCp [28, 29, 30, 31, 32] [] [] M (6 * t) (6 * f) 6 → mOK X → (some (mW am X ρ) : Option zS) = Y) : ∀ (m n fuel : Nat) (X : mS), n + m = 6 → m < fuel → X = mCp [28, 29, 30, 31, 32] [] [] M (6 * t) (6 * f) n → mOK X → s_Mo_copyOffice_210 g fuel am (zi f) (zi t) (zi n) (mW am X ρ) = Y := by
  intro m
  induction m with
  | zero =>
    intro n fuel X hn hfu hX hO
    obtain ⟨fu, rfl⟩ : ∃ fu, fuel = fu + 1 := ⟨fuel - 1, by omega⟩
    rw [s_Mo_copyOffice_210]
    rw [if_pos (by rw [zi_l6, zi_le (by omega) (by omega)]; omega)]
    exact hY X (by rw [hX, show n = 6 from by omega]) hO
  | succ m ih =>
    intro n fuel X hn hfu hE hX
    obtain ⟨fu, rfl⟩ : ∃ fu, fuel = fu + 1 := ⟨fuel - 1, by omega⟩
    have e28 := hX.b2 (j := 28) (by omega) (6 * f + n)
    have e29 := hX.b31 29 (6 * f + n)
    have e30 := hX.b31 30 (6 * f + n)
    have e31 := hX.b31 31 (6 * f + n)
    have e32 := hX.b31 32 (6 * f + n)
    rw [s_Mo_copyOffice_210]
    simp (disch := omega) only [m_is, m_g0, m_g1, m_g2, m_g3, m_g4, m_g5, m_g6, m_g7, m_g8, m_g9, m_g10, m_g11, m_g12, m_g13, m_g14, m_g15, m_g16, m_g17, m_g18, m_g19, m_g20, m_g21, m_g22, m_g23, m_g24, m_g25, m_g26, m_g27, m_g28, m_g29, m_g30, m_g31, m_g32, m_g33, m_g34, m_g35, m_g36, m_g37, m_g38, m_g39, m_p0, m_p34, m_p37, m_p38, m_p39, m_r1, m_w1, m_r2, m_w2, m_r3, m_w3, m_r4, m_w4, m_r5, m_w5, m_r6, m_w6, m_r7, m_w7, m_r8, m_w8, m_r9, m_w9, m_r10, m_w10, m_r11, m_w11, m_r12, m_w12, m_r13, m_w13, m_r14, m_w14, m_r15, m_w15, m_r16, m_w16, m_r17, m_w17, m_r18, m_w18, m_r19, m_w19, m_r20, m_w20, m_r21, m_w21, m_r22, m_w22, m_r23, m_w23, m_r24, m_w24, m_r25, m_w25, m_r26, m_w26, m_r27, m_w27, m_r28, m_w28, m_r29, m_w29, m_r30, m_w30, m_r31, m_w31, m_r32, m_w32, m_r33, m_w33, m_r34, m_w34, mSN_at, mSN_2, mSI_1, mSI_at, mSI_22, mSL_1, mSL_21, mSL_at, mSL_222, mSs_1, mSs_21, mSs_221, mSs_at, mSs_f, mSf_1, mSf_21, mSf_221, mSf_s, mSf_f, zi_l0, zi_l1, zi_l2, zi_l3, zi_l4, zi_l5, zi_l6, zi_l7, zi_l8, zi_l9, zi_l10, zi_l12, zi_l18, zi_l20, zi_l30, zi_l32, zi_l36, zi_l48, zi_l64, zi_l99, zi_l100, zi_l300, zi_l512, zi_l600, zi_l900, zi_l1800, zi_l9999, Option.bind_some, zi_lt0, zi_ge0, zi_01, zi_add, zi_mul, zi_sub, zi_lt, zi_le, zi_eq, zi_bool, zi_byte, zi_short, zi_t8, zi_t16, if_pos, if_neg, if_true, if_false, or_true, true_or, and_self, and_true, true_and, and_false, false_and]
    rw [cpO3_wr]
    have hE2 : mWr [28, 29, 30, 31, 32] [] [] X (6 * t + n) (6 * f + n) = mCp [28, 29, 30, 31, 32] [] [] M (6 * t) (6 * f) (n + 1) := by
      rw [hE]
      exact mCp_step (by omega)
    rw [hE2]
    have hO2 : mOK (mCp [28, 29, 30, 31, 32] [] [] M (6 * t) (6 * f) (n + 1)) := by
      rw [← hE2]
      intro a b
      show (if a ∈ _ ∧ b = _ then X.1 a _ else X.1 a b) < mbd a
      split
      · exact hX _ _
      · exact hX _ _
    exact ih (n + 1) fu _ (by omega) (by omega) rfl hO2
theorem cpO2_wr {k j : Nat} {X : mS} : mSN (mSI (mSL (mSN (mSN (X) 23 (k) (X.1 23 (j))) 24 (k) (X.1 24 (j))) 25 (k) (X.2.2.1 25 (j))) 26 (k) (X.2.1 26 (j))) 27 (k) (X.1 27 (j)) = mWr [23, 24, 27] [26] [25] X k j := by
  refine Prod.ext ?_ (Prod.ext ?_ (Prod.ext ?_ rfl)) <;> funext a b <;> simp only [mWr, wrf, mSN, mSI, mSL, List.mem_cons, List.not_mem_nil, or_false, false_and, if_false] <;> by_cases hb : b = k <;> simp only [hb, and_true, and_false, if_false] <;> repeat' split <;> simp_all
theorem cpO2 {f t : Nat} (hf : f < 2 ∧ t < 2 ∧ f ≠ t) {Y : Option zS} (hY : ∀ X, X = mCp [23, 24, 27] [26] [25] M (900 * t) (900 * f) 900 → mOK X → s_Mo_copyOffice_210 g zfuel am (zi f) (zi t) (zi 0) (mW am X ρ) = Y) : ∀ (m n fuel : Nat) (X : mS), n + m = 900 → m < fuel → X = mCp [23, 24, 27] [26] [25] M (900 * t) (900 * f) n → mOK X → s_Mo_copyOffice_75 g fuel am (zi f) (zi t) (zi n) (mW am X ρ) = Y := by
  intro m
  induction m with
  | zero =>
    intro n fuel X hn hfu hX hO
    obtain ⟨fu, rfl⟩ : ∃ fu, fuel = fu + 1 := ⟨fuel - 1, by omega⟩
    rw [s_Mo_copyOffice_75]
    rw [if_pos (by rw [zi_l900, zi_le (by omega) (by omega)]; omega)]
    exact hY X (by rw [hX, show n = 900 from by omega]) hO
  | succ m ih =>
    intro n fuel X hn hfu hE hX
    obtain ⟨fu, rfl⟩ : ∃ fu, fuel = fu + 1 := ⟨fuel - 1, by omega⟩
    have e23 := hX.b128 (j := 23) (by omega) (900 * f + n)
    have e24 := hX.b128 (j := 24) (by omega) (900 * f + n)
    have e27 := hX.b128 (j := 27) (by omega) (900 * f + n)
    rw [s_Mo_copyOffice_75]
    simp (disch := omega) only [m_is, m_g0, m_g1, m_g2, m_g3, m_g4, m_g5, m_g6, m_g7, m_g8, m_g9, m_g10, m_g11, m_g12, m_g13, m_g14, m_g15, m_g16, m_g17, m_g18, m_g19, m_g20, m_g21, m_g22, m_g23, m_g24, m_g25, m_g26, m_g27, m_g28, m_g29, m_g30, m_g31, m_g32, m_g33, m_g34, m_g35, m_g36, m_g37, m_g38, m_g39, m_p0, m_p34, m_p37, m_p38, m_p39, m_r1, m_w1, m_r2, m_w2, m_r3, m_w3, m_r4, m_w4, m_r5, m_w5, m_r6, m_w6, m_r7, m_w7, m_r8, m_w8, m_r9, m_w9, m_r10, m_w10, m_r11, m_w11, m_r12, m_w12, m_r13, m_w13, m_r14, m_w14, m_r15, m_w15, m_r16, m_w16, m_r17, m_w17, m_r18, m_w18, m_r19, m_w19, m_r20, m_w20, m_r21, m_w21, m_r22, m_w22, m_r23, m_w23, m_r24, m_w24, m_r25, m_w25, m_r26, m_w26, m_r27, m_w27, m_r28, m_w28, m_r29, m_w29, m_r30, m_w30, m_r31, m_w31, m_r32, m_w32, m_r33, m_w33, m_r34, m_w34, mSN_at, mSN_2, mSI_1, mSI_at, mSI_22, mSL_1, mSL_21, mSL_at, mSL_222, mSs_1, mSs_21, mSs_221, mSs_at, mSs_f, mSf_1, mSf_21, mSf_221, mSf_s, mSf_f, zi_l0, zi_l1, zi_l2, zi_l3, zi_l4, zi_l5, zi_l6, zi_l7, zi_l8, zi_l9, zi_l10, zi_l12, zi_l18, zi_l20, zi_l30, zi_l32, zi_l36, zi_l48, zi_l64, zi_l99, zi_l100, zi_l300, zi_l512, zi_l600, zi_l900, zi_l1800, zi_l9999, Option.bind_some, zi_lt0, zi_ge0, zi_01, zi_add, zi_mul, zi_sub, zi_lt, zi_le, zi_eq, zi_bool, zi_byte, zi_short, zi_t8, zi_t16, if_pos, if_neg, if_true, if_false, or_true, true_or, and_self, and_true, true_and, and_false, false_and]
    rw [cpO2_wr]
    have hE2 : mWr [23, 24, 27] [26] [25] X (900 * t + n) (900 * f + n) = mCp [23, 24, 27] [26] [25] M (900 * t) (900 * f) (n + 1) := by
      rw [hE]
      exact mCp_step (by omega)
    rw [hE2]
    have hO2 : mOK (mCp [23, 24, 27] [26] [25] M (900 * t) (900 * f) (n + 1)) := by
      rw [← hE2]
      intro a b
      show (if a ∈ _ ∧ b = _ then X.1 a _ else X.1 a b) < mbd a
      split
      · exact hX _ _
      · exact hX _ _
    exact ih (n + 1) fu _ (by omega) (by omega) rfl hO2
theorem cpO1_wr {k j : Nat} {X : mS} : mSN (mSN (mSN (X) 20 (k) (X.1 20 (j))) 21 (k) (X.1 21 (j))) 22 (k) (X.1 22 (j)) = mWr [20, 21, 22] [] [] X k j := by
  refine Prod.ext ?_ (Prod.ext ?_ (Prod.ext ?_ rfl)) <;> funext a b <;> simp only [mWr, wrf, mSN, mSI, mSL, List.mem_cons, List.not_mem_nil, or_false, false_and, if_false] <;> by_cases hb : b = k <;> simp only [hb, and_true, and_false, if_false] <;> repeat' split <;> simp_all
theorem cpO1 {f t : Nat} (hf : f < 2 ∧ t < 2 ∧ f ≠ t) {Y : Option zS} (hY : ∀ X, X = mCp [20, 21, 22] [] [] M (3 * t) (3 * f) 3 → mOK X → s_Mo_copyOffice_75 g zfuel am (zi f) (zi t) (zi 0) (mW am X ρ) = Y) : ∀ (m n fuel : Nat) (X : mS), n + m = 3 → m < fuel → X = mCp [20, 21, 22] [] [] M (3 * t) (3 * f) n → mOK X → s_Mo_copyOffice_2 g fuel am (zi f) (zi t) (zi n) (mW am X ρ) = Y := by
  intro m
  induction m with
  | zero =>
    intro n fuel X hn hfu hX hO
    obtain ⟨fu, rfl⟩ : ∃ fu, fuel = fu + 1 := ⟨fuel - 1, by omega⟩
    rw [s_Mo_copyOffice_2]
    rw [if_pos (by rw [zi_l3, zi_le (by omega) (by omega)]; omega)]
    exact hY X (by rw [hX, show n = 3 from by omega]) hO
  | succ m ih =>
    intro n fuel X hn hfu hE hX
    obtain ⟨fu, rfl⟩ : ∃ fu, fuel = fu + 1 := ⟨fuel - 1, by omega⟩
    have e20 := hX.b31 20 (3 * f + n)
    have e21 := hX.b31 21 (3 * f + n)
    have e22 := hX.b31 22 (3 * f + n)
    rw [s_Mo_copyOffice_2]
    simp (disch := omega) only [m_is, m_g0, m_g1, m_g2, m_g3, m_g4, m_g5, m_g6, m_g7, m_g8, m_g9, m_g10, m_g11, m_g12, m_g13, m_g14, m_g15, m_g16, m_g17, m_g18, m_g19, m_g20, m_g21, m_g22, m_g23, m_g24, m_g25, m_g26, m_g27, m_g28, m_g29, m_g30, m_g31, m_g32, m_g33, m_g34, m_g35, m_g36, m_g37, m_g38, m_g39, m_p0, m_p34, m_p37, m_p38, m_p39, m_r1, m_w1, m_r2, m_w2, m_r3, m_w3, m_r4, m_w4, m_r5, m_w5, m_r6, m_w6, m_r7, m_w7, m_r8, m_w8, m_r9, m_w9, m_r10, m_w10, m_r11, m_w11, m_r12, m_w12, m_r13, m_w13, m_r14, m_w14, m_r15, m_w15, m_r16, m_w16, m_r17, m_w17, m_r18, m_w18, m_r19, m_w19, m_r20, m_w20, m_r21, m_w21, m_r22, m_w22, m_r23, m_w23, m_r24, m_w24, m_r25, m_w25, m_r26, m_w26, m_r27, m_w27, m_r28, m_w28, m_r29, m_w29, m_r30, m_w30, m_r31, m_w31, m_r32, m_w32, m_r33, m_w33, m_r34, m_w34, mSN_at, mSN_2, mSI_1, mSI_at, mSI_22, mSL_1, mSL_21, mSL_at, mSL_222, mSs_1, mSs_21, mSs_221, mSs_at, mSs_f, mSf_1, mSf_21, mSf_221, mSf_s, mSf_f, zi_l0, zi_l1, zi_l2, zi_l3, zi_l4, zi_l5, zi_l6, zi_l7, zi_l8, zi_l9, zi_l10, zi_l12, zi_l18, zi_l20, zi_l30, zi_l32, zi_l36, zi_l48, zi_l64, zi_l99, zi_l100, zi_l300, zi_l512, zi_l600, zi_l900, zi_l1800, zi_l9999, Option.bind_some, zi_lt0, zi_ge0, zi_01, zi_add, zi_mul, zi_sub, zi_lt, zi_le, zi_eq, zi_bool, zi_byte, zi_short, zi_t8, zi_t16, if_pos, if_neg, if_true, if_false, or_true, true_or, and_self, and_true, true_and, and_false, false_and]
    rw [cpO1_wr]
    have hE2 : mWr [20, 21, 22] [] [] X (3 * t + n) (3 * f + n) = mCp [20, 21, 22] [] [] M (3 * t) (3 * f) (n + 1) := by
      rw [hE]
      exact mCp_step (by omega)
    rw [hE2]
    have hO2 : mOK (mCp [20, 21, 22] [] [] M (3 * t) (3 * f) (n + 1)) := by
      rw [← hE2]
      intro a b
      show (if a ∈ _ ∧ b = _ then X.1 a _ else X.1 a b) < mbd a
      split
      · exact hX _ _
      · exact hX _ _
    exact ih (n + 1) fu _ (by omega) (by omega) rfl hO2
def mCpO (M : mS) (f t : Nat) : mS := mCp [28, 29, 30, 31, 32] [] [] (mCp [23, 24, 27] [26] [25] (mCp [20, 21, 22] [] [] M (3 * t) (3 * f) 3) (900 * t) (900 * f) 900) (6 * t) (6 * f) 6
theorem M_copyOffice {f t : Nat} (hf : f < 2 ∧ t < 2 ∧ f ≠ t) (hM : mOK M) : s_Mo_copyOffice g am (zi f) (zi t) (mW am M ρ) = some (mW am (mCpO M f t) ρ) := by
  unfold s_Mo_copyOffice
  refine cpO1 hf (fun X hX hO => ?_) 3 0 zfuel M (by omega) (by unfold zfuel; omega) mCp_0.symm hM
  refine cpO2 hf (fun X2 hX2 hO2 => ?_) 900 0 zfuel X (by omega) (by unfold zfuel; omega) mCp_0.symm hO
  refine cpO3 hf (fun X3 hX3 hO3 => ?_) 6 0 zfuel X2 (by omega) (by unfold zfuel; omega) mCp_0.symm hO2
  rw [hX3, hX2, hX]
  rfl
end MRUN
