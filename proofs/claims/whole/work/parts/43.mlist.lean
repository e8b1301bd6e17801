def zl (n : Nat) : Int64 := Int64.ofNat n
theorem zl_add (a b : Nat) : zl a + zl b = zl (a + b) := (Int64.ofNat_add a b).symm
theorem zl_mul (a b : Nat) : zl a * zl b = zl (a * b) := (Int64.ofNat_mul a b).symm
theorem zl_sub {a b : Nat} (h : b ≤ a) : zl a - zl b = zl (a - b) := (Int64.ofNat_sub a b h).symm
theorem zl_int {a : Nat} (h : a < 9223372036854775808) : (zl a).toInt = a := Int64.toInt_ofNat_of_lt h
theorem zl_nat {a : Nat} (h : a < 9223372036854775808) : (zl a).toNatClampNeg = a := Int64.toNatClampNeg_ofNat_of_lt h
theorem zl_div {a b : Nat} (ha : a < 9223372036854775808) (hb : 0 < b ∧ b < 9223372036854775808) : zl a / zl b = zl (a / b) := by
  apply Int64.toInt_inj.mp
  have h1 : a / b < 9223372036854775808 := Nat.lt_of_le_of_lt (Nat.div_le_self a b) ha
  rw [Int64.toInt_div, zl_int ha, zl_int hb.2, zl_int h1, ← Int.ofNat_tdiv]
  generalize a / b = q at *
  exact Int.bmod_eq_of_le (by omega) (by omega)
theorem zl_eq {a b : Nat} (ha : a < 9223372036854775808) (hb : b < 9223372036854775808) : (zl a = zl b) = (a = b) := by
  refine propext ⟨fun h => ?_, fun h => by rw [h]⟩
  have h2 := congrArg Int64.toInt h
  rw [zl_int ha, zl_int hb] at h2
  omega
theorem zl_lt {a b : Nat} (ha : a < 9223372036854775808) (hb : b < 9223372036854775808) : (zl a < zl b) = (a < b) := by
  rw [Int64.lt_iff_toInt_lt, zl_int ha, zl_int hb]
  exact propext Int.ofNat_lt
theorem lg_le {a b : Nat} (ha : a < 9223372036854775808) (hb : b < 9223372036854775808) : (lg_cmp (zl a) (zl b) ≤ 0) = (a ≤ b) := by
  unfold lg_cmp
  by_cases h1 : b < a
  · have h2 : zl a > zl b := by
      show zl b < zl a
      rw [zl_lt hb ha]
      exact h1
    rw [if_pos h2]
    exact propext ⟨fun q => absurd q (by decide), fun q => absurd q (by omega)⟩
  · have h2 : ¬ zl a > zl b := by
      show ¬ zl b < zl a
      rw [zl_lt hb ha]
      exact h1
    rw [if_neg h2]
    have h3 : a ≤ b := by omega
    refine propext ⟨fun _ => h3, fun _ => ?_⟩
    split <;> decide
theorem lg_ge {a b : Nat} (ha : a < 9223372036854775808) (hb : b < 9223372036854775808) : (0 ≤ lg_cmp (zl a) (zl b)) = (b ≤ a) := by
  unfold lg_cmp
  by_cases h1 : b < a
  · have h2 : zl a > zl b := by
      show zl b < zl a
      rw [zl_lt hb ha]
      exact h1
    rw [if_pos h2]
    exact propext ⟨fun _ => by omega, fun _ => by decide⟩
  · have h2 : ¬ zl a > zl b := by
      show ¬ zl b < zl a
      rw [zl_lt hb ha]
      exact h1
    rw [if_neg h2]
    by_cases h3 : a = b
    · rw [if_pos (by rw [h3])]
      exact propext ⟨fun _ => by omega, fun _ => by decide⟩
    · have h4 : ¬ zl a = zl b := by
        rw [zl_eq ha hb]
        exact h3
      rw [if_neg h4]
      exact propext ⟨fun q => absurd q (by decide), fun q => absurd q (by omega)⟩
theorem zl_neg {a : Nat} (h : 0 < a ∧ a < 9223372036854775808) : -zl a < 0 := by
  rw [Int64.lt_iff_toInt_lt, Int64.toInt_neg, zl_int h.2]
  have e : Int.bmod (-(a : Int)) (2 ^ 64) = -(a : Int) := Int.bmod_eq_of_le (by omega) (by omega)
  rw [e]
  show -(a : Int) < 0
  omega
theorem lg_neg {a : Nat} (h : 0 < a ∧ a < 9223372036854775808) : ¬ 0 ≤ lg_cmp (-zl a) 0 := by
  have h1 := zl_neg h
  have h2 : ¬ (-zl a) > 0 := by
    show ¬ 0 < -zl a
    intro q
    exact absurd (Int64.lt_trans h1 q) (Int64.lt_irrefl)
  have h3 : ¬ (-zl a) = 0 := by
    intro q
    rw [q] at h1
    exact absurd h1 (Int64.lt_irrefl)
  unfold lg_cmp
  rw [if_neg h2, if_neg h3]
  decide
theorem zl_nn {a : Nat} : - -zl a = zl a := Int64.neg_neg
theorem zl_i32 {a : Nat} : (zl a).toInt32 = zi a := Int64.toInt32_ofNat'
theorem zi_i64 {a : Nat} (h : a < 2147483648) : (zi a).toInt64 = zl a := by
  apply Int64.toInt_inj.mp
  rw [Int32.toInt_toInt64, zi_int h, zl_int (by omega)]
theorem zi_l64c (x : Int32) : ∃ a, a < 2147483649 ∧ (x.toInt64 = zl a ∨ (0 < a ∧ x.toInt64 = -zl a)) := by
  rcases zi_cases x with h | ⟨k, h1, rfl⟩
  · have h2 : x.toInt < 0 := Int32.lt_iff_toInt_lt.mp h
    have h3 := Int32.le_toInt x
    refine ⟨(-x.toInt).toNat, by omega, Or.inr ⟨by omega, ?_⟩⟩
    apply Int64.toInt_inj.mp
    rw [Int32.toInt_toInt64, Int64.toInt_neg, zl_int (by omega)]
    have e : ((-x.toInt).toNat : Int) = -x.toInt := by omega
    rw [e, Int.neg_neg]
    exact (Int.bmod_eq_of_le (by omega) (by omega)).symm
  · exact ⟨k, by omega, Or.inl (zi_i64 h1)⟩
theorem zl_l0 : (0 : Int64) = zl 0 := rfl
theorem zl_l1 : (1 : Int64) = zl 1 := rfl
theorem zl_l9 : (9 : Int64) = zl 9 := rfl
theorem zl_l10 : (10 : Int64) = zl 10 := rfl
theorem zl_l48 : (48 : Int64) = zl 48 := rfl
theorem zl_l100 : (100 : Int64) = zl 100 := rfl
/-! the list's text -/
def dl (v : Nat) : Nat → List Nat
  | 0 => [48 + v % 10]
  | k + 1 => (48 + v / 10 ^ (k + 1) % 10) :: dl v k
theorem dl_len {v : Nat} : ∀ k, (dl v k).length = k + 1
  | 0 => rfl
  | k + 1 => by
    rw [dl, List.length_cons, dl_len k]
def kdF : Nat → Nat → Nat
  | 0, _ => 0
  | f + 1, v => if v ≤ 9 then 0 else kdF f (v / 10) + 1
def kd (v : Nat) : Nat := kdF 18 v
theorem kdF_le : ∀ f v, kdF f v ≤ f
  | 0, _ => Nat.le_refl _
  | f + 1, v => by
    unfold kdF
    split
    · omega
    · have := kdF_le f (v / 10)
      omega
theorem kdF_1 : ∀ f v, v < 10 ^ (f + 1) → v / 10 ^ kdF f v ≤ 9
  | 0, v, h => by
    unfold kdF
    simp only [Nat.zero_add, Nat.pow_one] at h
    rw [Nat.pow_zero, Nat.div_one]
    omega
  | f + 1, v, h => by
    unfold kdF
    split
    · rw [Nat.pow_zero, Nat.div_one]
      assumption
    · have h2 : v / 10 < 10 ^ (f + 1) := by
        rw [Nat.pow_succ] at h
        exact Nat.div_lt_of_lt_mul (by rw [Nat.mul_comm]; exact h)
      have := kdF_1 f (v / 10) h2
      rw [Nat.div_div_eq_div_mul, Nat.mul_comm, ← Nat.pow_succ] at this
      exact this
theorem kdF_2 : ∀ f v k, k < kdF f v → 9 < v / 10 ^ k
  | 0, v, k, h => by
    unfold kdF at h
    omega
  | f + 1, v, k, h => by
    unfold kdF at h
    split at h
    · omega
    · cases k with
      | zero =>
        rw [Nat.pow_zero, Nat.div_one]
        omega
      | succ k =>
        have := kdF_2 f (v / 10) k (by omega)
        rw [Nat.div_div_eq_div_mul, Nat.mul_comm, ← Nat.pow_succ] at this
        exact this
def tN (v : Nat) : List Nat := dl v (kd v)
theorem tN_len {v : Nat} : (tN v).length ≤ 19 := by
  have := kdF_le 18 v
  unfold tN
  rw [dl_len]
  unfold kd
  omega
def tI (x : Int64) : List Nat := if 0 ≤ lg_cmp x 0 then tN x.toNatClampNeg else 45 :: tN (-x).toNatClampNeg
theorem tI_len {x : Int64} : (tI x).length ≤ 20 := by
  unfold tI
  split
  · have := tN_len (v := x.toNatClampNeg)
    omega
  · have := tN_len (v := (-x).toNatClampNeg)
    rw [List.length_cons]
    omega
def tMon (v : Nat) : List Nat := tN (v / 100) ++ [46, 48 + v / 10 % 10, 48 + v % 10, 32]
theorem tMon_len {v : Nat} : (tMon v).length ≤ 23 := by
  have := tN_len (v := v / 100)
  unfold tMon
  rw [List.length_append]
  show _ + 4 ≤ 23
  omega
def tLin (M : mS) (s k : Nat) : List Nat := tN (k + 1) ++ ([32] ++ ((if M.1 23 (300 * s + k) = 2 then [85, 32] ++ (tMon (M.2.2.1 25 (300 * s + k)).toNatClampNeg ++ tI (M.2.1 26 (300 * s + k)).toInt64) else if M.1 23 (300 * s + k) = 3 then [86, 32] ++ tN (M.1 27 (300 * s + k)) else [76]) ++ [10]))
theorem tLin_len {M : mS} {s k : Nat} : (tLin M s k).length ≤ 100 := by
  have h1 := tN_len (v := k + 1)
  have h2 := tMon_len (v := (M.2.2.1 25 (300 * s + k)).toNatClampNeg)
  have h3 := tI_len (x := (M.2.1 26 (300 * s + k)).toInt64)
  have h4 := tN_len (v := M.1 27 (300 * s + k))
  unfold tLin
  split
  · simp only [List.length_append, List.length_cons, List.length_nil]
    omega
  · split
    · simp only [List.length_append, List.length_cons, List.length_nil]
      omega
    · simp only [List.length_append, List.length_cons, List.length_nil]
      omega
def tLs (M : mS) (s : Nat) : Nat → List Nat
  | 0 => []
  | k + 1 => tLs M s k ++ tLin M s k
theorem tLs_len {M : mS} {s : Nat} : ∀ k, (tLs M s k).length ≤ 100 * k
  | 0 => Nat.le_refl _
  | k + 1 => by
    have h1 := tLs_len (M := M) (s := s) k
    have h2 := tLin_len (M := M) (s := s) (k := k)
    rw [tLs, List.length_append]
    omega
def tAll (M : mS) (s : Nat) : List Nat := tLs M s (M.1 22 s) ++ ([84, 32] ++ (tMon (mSum M s 6 (M.1 22 s)).toNatClampNeg ++ (tN (M.1 21 s) ++ [10])))
section MLIST
variable {g : zG} {am : Nat} {M : mS} {ρ : zS} {l : List Nat}
def fnd (l : List Nat) (i : Nat) : Int32 := match l[i]? with
  | some c => zi c
  | none => -1
def mPt (M : mS) (l : List Nat) : mS := mSf (mSs M 38 l.length) (fnd l (M.2.2.2.1 37))
theorem fnd_app {c i : Nat} : fnd (l ++ [c]) i = if l.length = i then zi c else fnd l i := by
  unfold fnd
  by_cases h : l.length = i
  · subst h
    rw [if_pos rfl, List.getElem?_append_right (Nat.le_refl _), Nat.sub_self]
    rfl
  · rw [if_neg h]
    by_cases h2 : i < l.length
    · rw [List.getElem?_append_left h2]
    · rw [List.getElem?_append_right (by omega)]
      have h3 : ([c] : List Nat)[i - l.length]? = none := List.getElem?_eq_none (by show 1 ≤ _; omega)
      have h4 : l[i]? = none := List.getElem?_eq_none (by omega)
      rw [h3, h4]
theorem M_put {c : Nat} (h37 : M.2.2.2.1 37 < 2147483648) (hl : l.length < 2147483648) : s_Mo_put g am (zi c) (mW am (mPt M l) ρ) = some (mW am (mPt M (l ++ [c])) ρ) := by
  have e : ∀ v w : Nat, ∀ f f2 : Int32, mSs (mSf (mSf (mSs M 38 v) f2) f) 38 w = mSf (mSs M 38 w) f := by
    intro v w f f2
    unfold mSs mSf
    refine congrArg (fun q => (M.1, M.2.1, M.2.2.1, q, f)) ?_
    funext a
    dsimp only
    split <;> rfl
  have e2 : (l ++ [c]).length = l.length + 1 := by rw [List.length_append]; rfl
  unfold s_Mo_put s_Mo_put_20 mPt
  rw [fnd_app]
  by_cases h : l.length = M.2.2.2.1 37
  · simp (config := { maxSteps := 2000000 }) (disch := omega) only [h, e, e2, m_is, m_g0, m_g1, m_g2, m_g3, m_g4, m_g5, m_g6, m_g7, m_g8, m_g9, m_g10, m_g11, m_g12, m_g13, m_g14, m_g15, m_g16, m_g17, m_g18, m_g19, m_g20, m_g21, m_g22, m_g23, m_g24, m_g25, m_g26, m_g27, m_g28, m_g29, m_g30, m_g31, m_g32, m_g33, m_g34, m_g35, m_g36, m_g37, m_g38, m_g39, m_p0, m_p34, m_p37, m_p38, m_p39, m_r1, m_w1, m_r2, m_w2, m_r3, m_w3, m_r4, m_w4, m_r5, m_w5, m_r6, m_w6, m_r7, m_w7, m_r8, m_w8, m_r9, m_w9, m_r10, m_w10, m_r11, m_w11, m_r12, m_w12, m_r13, m_w13, m_r14, m_w14, m_r15, m_w15, m_r16, m_w16, m_r17, m_w17, m_r18, m_w18, m_r19, m_w19, m_r20, m_w20, m_r21, m_w21, m_r22, m_w22, m_r23, m_w23, m_r24, m_w24, m_r25, m_w25, m_r26, m_w26, m_r27, m_w27, m_r28, m_w28, m_r29, m_w29, m_r30, m_w30, m_r31, m_w31, m_r32, m_w32, m_r33, m_w33, m_r34, m_w34, mSN_at, mSN_2, mSI_1, mSI_at, mSI_22, mSL_1, mSL_21, mSL_at, mSL_222, mSs_1, mSs_21, mSs_221, mSs_at, mSs_f, mSf_1, mSf_21, mSf_221, mSf_s, mSf_f, zi_l0, zi_l1, zi_l2, zi_l3, zi_l4, zi_l5, zi_l6, zi_l7, zi_l8, zi_l9, zi_l10, zi_l12, zi_l18, zi_l20, zi_l30, zi_l32, zi_l36, zi_l48, zi_l64, zi_l99, zi_l100, zi_l300, zi_l512, zi_l600, zi_l900, zi_l1800, zi_l9999, Option.bind_some, zi_lt0, zi_ge0, zi_01, zi_add, zi_mul, zi_sub, zi_lt, zi_le, zi_eq, zi_bool, zi_byte, zi_short, zi_t8, zi_t16, nlt_T, nlt_F, nle_T, nle_F, neq_T, neq_F, ↓reduceIte, or_true, true_or, and_self, and_true, true_and, and_false, false_and, or_false, false_or, or_self, not_true_eq_false, not_false_eq_true]
  · simp (config := { maxSteps := 2000000 }) (disch := omega) only [e, e2, m_is, m_g0, m_g1, m_g2, m_g3, m_g4, m_g5, m_g6, m_g7, m_g8, m_g9, m_g10, m_g11, m_g12, m_g13, m_g14, m_g15, m_g16, m_g17, m_g18, m_g19, m_g20, m_g21, m_g22, m_g23, m_g24, m_g25, m_g26, m_g27, m_g28, m_g29, m_g30, m_g31, m_g32, m_g33, m_g34, m_g35, m_g36, m_g37, m_g38, m_g39, m_p0, m_p34, m_p37, m_p38, m_p39, m_r1, m_w1, m_r2, m_w2, m_r3, m_w3, m_r4, m_w4, m_r5, m_w5, m_r6, m_w6, m_r7, m_w7, m_r8, m_w8, m_r9, m_w9, m_r10, m_w10, m_r11, m_w11, m_r12, m_w12, m_r13, m_w13, m_r14, m_w14, m_r15, m_w15, m_r16, m_w16, m_r17, m_w17, m_r18, m_w18, m_r19, m_w19, m_r20, m_w20, m_r21, m_w21, m_r22, m_w22, m_r23, m_w23, m_r24, m_w24, m_r25, m_w25, m_r26, m_w26, m_r27, m_w27, m_r28, m_w28, m_r29, m_w29, m_r30, m_w30, m_r31, m_w31, m_r32, m_w32, m_r33, m_w33, m_r34, m_w34, mSN_at, mSN_2, mSI_1, mSI_at, mSI_22, mSL_1, mSL_21, mSL_at, mSL_222, mSs_1, mSs_21, mSs_221, mSs_at, mSs_f, mSf_1, mSf_21, mSf_221, mSf_s, mSf_f, zi_l0, zi_l1, zi_l2, zi_l3, zi_l4, zi_l5, zi_l6, zi_l7, zi_l8, zi_l9, zi_l10, zi_l12, zi_l18, zi_l20, zi_l30, zi_l32, zi_l36, zi_l48, zi_l64, zi_l99, zi_l100, zi_l300, zi_l512, zi_l600, zi_l900, zi_l1800, zi_l9999, Option.bind_some, zi_lt0, zi_ge0, zi_01, zi_add, zi_mul, zi_sub, zi_lt, zi_le, zi_eq, zi_bool, zi_byte, zi_short, zi_t8, zi_t16, nlt_T, nlt_F, nle_T, nle_F, neq_T, neq_F, ↓reduceIte, or_true, true_or, and_self, and_true, true_and, and_false, false_and, or_false, false_or, or_self, not_true_eq_false, not_false_eq_true]
theorem M_dig50 {v : Nat} {x : Int64} (hv : v < 1000000000000000000) (h37 : M.2.2.2.1 37 < 2147483648) : ∀ (k fuel : Nat) (l : List Nat), k ≤ 18 → k + 1 < fuel → l.length + k + 1 < 2147483648 → s_Mo_digits_50 g fuel am x (zl v) (zl (10 ^ k)) (mW am (mPt M l) ρ) = some (mW am (mPt M (l ++ dl v k)) ρ) := by
  intro k
  induction k with
  | zero =>
    intro fuel l h1 h2 h3
    obtain ⟨fuel, rfl⟩ : ∃ k, fuel = k + 1 + 1 := ⟨fuel - 2, by omega⟩
    have c1 : ¬ lg_cmp (zl (10 ^ 0)) 0 ≤ 0 := by decide
    have c2 : ¬ zl (10 ^ 0) = 0 := by decide
    have c3 : lg_cmp (zl (10 ^ 0) / 10) 0 ≤ 0 := by decide
    have c4 : zl v / zl (10 ^ 0) = zl v := by
      rw [zl_div (by omega) (by decide), Nat.pow_zero, Nat.div_one]
    have c5 : (48 + (zl v - zl v / 10 * 10) : Int64) = zl (48 + v % 10) := by
      rw [zl_l10, zl_l48, zl_div (by omega) (by decide), zl_mul, zl_sub (by omega), zl_add]
      congr 1
      omega
    unfold s_Mo_digits_50 s_Mo_digits_50
    rw [if_neg c1, if_neg c2, c4, c5, zl_i32, M_put h37 (by omega)]
    simp only [m_is, Option.bind_some]
    rw [if_pos c3]
    rfl
  | succ k ih =>
    intro fuel l h1 h2 h3
    obtain ⟨fuel, rfl⟩ : ∃ k, fuel = k + 1 := ⟨fuel - 1, by omega⟩
    have hp : 0 < 10 ^ (k + 1) := Nat.pow_pos (by decide)
    have hq : 10 ^ (k + 1) ≤ 10 ^ 18 := Nat.pow_le_pow_right (by decide) h1
    have hq2 : (10 : Nat) ^ 18 = 1000000000000000000 := by decide
    have hd : v / 10 ^ (k + 1) ≤ v := Nat.div_le_self _ _
    have c1 : ¬ lg_cmp (zl (10 ^ (k + 1))) 0 ≤ 0 := by
      rw [zl_l0, lg_le (by omega) (by decide)]
      omega
    have c2 : ¬ zl (10 ^ (k + 1)) = 0 := by
      rw [zl_l0, zl_eq (by omega) (by decide)]
      omega
    have c3 : zl (10 ^ (k + 1)) / 10 = zl (10 ^ k) := by
      rw [zl_l10, zl_div (by omega) (by decide), Nat.pow_succ, Nat.mul_div_cancel _ (by decide)]
    have c4 : zl v / zl (10 ^ (k + 1)) = zl (v / 10 ^ (k + 1)) := zl_div (by omega) (by omega)
    have c5 : (48 + (zl (v / 10 ^ (k + 1)) - zl (v / 10 ^ (k + 1)) / 10 * 10) : Int64) = zl (48 + v / 10 ^ (k + 1) % 10) := by
      rw [zl_l10, zl_l48, zl_div (by omega) (by decide), zl_mul, zl_sub (by omega), zl_add]
      congr 1
      omega
    have e2 : (l ++ [48 + v / 10 ^ (k + 1) % 10]).length = l.length + 1 := by rw [List.length_append]; rfl
    have q := ih fuel (l ++ [48 + v / 10 ^ (k + 1) % 10]) (by omega) (by omega) (by rw [e2]; omega)
    unfold s_Mo_digits_50
    rw [if_neg c1, if_neg c2, c4, c5, zl_i32, M_put h37 (by omega), c3]
    simp only [m_is, Option.bind_some]
    rw [q, List.append_assoc]
    rfl
theorem M_dig28 {v K : Nat} {x : Int64} (hv : v < 1000000000000000000) (h37 : M.2.2.2.1 37 < 2147483648) (hK : K ≤ 18) (h1 : v / 10 ^ K ≤ 9) (h2 : ∀ k, k < K → 9 < v / 10 ^ k) (hl : l.length + 20 < 2147483648) : ∀ (m n fuel : Nat), n + m = K → m < fuel → s_Mo_digits_28 g fuel am x (zl v) (zl (10 ^ n)) (mW am (mPt M l) ρ) = some (mW am (mPt M (l ++ dl v K)) ρ) := by
  intro m
  induction m with
  | zero =>
    intro n fuel h3 h4
    obtain ⟨fuel, rfl⟩ : ∃ k, fuel = k + 1 := ⟨fuel - 1, by omega⟩
    have e : n = K := by omega
    subst e
    have hp : 0 < 10 ^ n := Nat.pow_pos (by decide)
    have hq : 10 ^ n ≤ 10 ^ 18 := Nat.pow_le_pow_right (by decide) hK
    have hq2 : (10 : Nat) ^ 18 = 1000000000000000000 := by decide
    have c2 : ¬ zl (10 ^ n) = 0 := by
      rw [zl_l0, zl_eq (by omega) (by decide)]
      omega
    have c3 : lg_cmp (zl v / zl (10 ^ n)) 9 ≤ 0 := by
      rw [zl_div (by omega) (by omega), zl_l9, lg_le (by omega) (by decide)]
      exact h1
    unfold s_Mo_digits_28
    rw [if_neg c2, if_pos c3]
    exact M_dig50 hv h37 n zfuel l hK (by unfold zfuel; omega) (by omega)
  | succ m ih =>
    intro n fuel h3 h4
    obtain ⟨fuel, rfl⟩ : ∃ k, fuel = k + 1 := ⟨fuel - 1, by omega⟩
    have hp : 0 < 10 ^ n := Nat.pow_pos (by decide)
    have hq : 10 ^ n ≤ 10 ^ 18 := Nat.pow_le_pow_right (by decide) (by omega)
    have hq2 : (10 : Nat) ^ 18 = 1000000000000000000 := by decide
    have hd : v / 10 ^ n ≤ v := Nat.div_le_self _ _
    have c2 : ¬ zl (10 ^ n) = 0 := by
      rw [zl_l0, zl_eq (by omega) (by decide)]
      omega
    have h5 := h2 n (by omega)
    have c3 : ¬ lg_cmp (zl v / zl (10 ^ n)) 9 ≤ 0 := by
      rw [zl_div (by omega) (by omega), zl_l9, lg_le (by omega) (by decide)]
      omega
    have c4 : zl (10 ^ n) * 10 = zl (10 ^ (n + 1)) := by
      rw [zl_l10, zl_mul, Nat.pow_succ]
    unfold s_Mo_digits_28
    rw [if_neg c2, if_neg c3, c4]
    exact ih (n + 1) fuel (by omega) (by omega)
theorem M_digP {v : Nat} {x : Int64} (hv : v < 1000000000000000000) (h37 : M.2.2.2.1 37 < 2147483648) (hl : l.length + 20 < 2147483648) : s_Mo_digits_24 g am x (zl v) (mW am (mPt M l) ρ) = some (mW am (mPt M (l ++ tN v)) ρ) :=
  M_dig28 hv h37 (kdF_le 18 v) (kdF_1 18 v (by have : (10 : Nat) ^ (18 + 1) = 10000000000000000000 := (by decide); omega)) (kdF_2 18 v) hl (kd v) 0 zfuel (by unfold kd; omega) (by have := kdF_le 18 v; unfold kd zfuel; omega)
theorem M_digits {v : Nat} {x : Int64} (hx : x = zl v ∨ (0 < v ∧ x = -zl v)) (hv : v < 1000000000000000000) (h37 : M.2.2.2.1 37 < 2147483648) (hl : l.length + 21 < 2147483648) : s_Mo_digits g am x (mW am (mPt M l) ρ) = some (mW am (mPt M (l ++ tI x)) ρ) := by
  unfold s_Mo_digits s_Mo_digits_12 tI
  rcases hx with rfl | ⟨h0, rfl⟩
  · have c : 0 ≤ lg_cmp (zl v) 0 := by
      rw [zl_l0, lg_ge (by omega) (by decide)]
      omega
    rw [if_pos c, if_pos c, if_pos c, zl_nat (by omega)]
    exact M_digP hv h37 (by omega)
  · have c := lg_neg (a := v) (by omega)
    simp only [if_neg c, zl_nn]
    rw [zl_nat (by omega)]
    have q := M_put (g := g) (am := am) (M := M) (ρ := ρ) (l := l) (c := 45) h37 (by omega)
    have q' : s_Mo_put g am 45 (mW am (mPt M l) ρ) = some (mW am (mPt M (l ++ [45])) ρ) := q
    rw [q']
    simp only [m_is, Option.bind_some]
    have e2 : (l ++ [45]).length = l.length + 1 := by rw [List.length_append]; rfl
    rw [M_digP hv h37 (by rw [e2]; omega), List.append_assoc]
    rfl
theorem M_digN {v : Nat} (hv : v < 1000000000000000000) (h37 : M.2.2.2.1 37 < 2147483648) (hl : l.length + 21 < 2147483648) : s_Mo_digits g am (zl v) (mW am (mPt M l) ρ) = some (mW am (mPt M (l ++ tN v)) ρ) := by
  have q := M_digits (g := g) (am := am) (M := M) (ρ := ρ) (l := l) (v := v) (x := zl v) (Or.inl rfl) hv h37 hl
  have c : 0 ≤ lg_cmp (zl v) 0 := by
    rw [zl_l0, lg_ge (by omega) (by decide)]
    omega
  unfold tI at q
  rw [if_pos c, zl_nat (by omega)] at q
  exact q
theorem M_money {v : Nat} (hv : v < 1000000000000000000) (h37 : M.2.2.2.1 37 < 2147483648) (hl : l.length + 30 < 2147483648) : s_Mo_money g am (zl v) (mW am (mPt M l) ρ) = some (mW am (mPt M (l ++ tMon v)) ρ) := by
  have hd : v / 100 ≤ v := Nat.div_le_self _ _
  have c1 : zl v / 100 = zl (v / 100) := by
    rw [zl_l100, zl_div (by omega) (by decide)]
  have q1 := M_digN (g := g) (am := am) (M := M) (ρ := ρ) (l := l) (v := v / 100) (by omega) h37 (by omega)
  have h2 := tN_len (v := v / 100)
  have c2 : (48 + (zl v / 10 - zl v / 10 / 10 * 10) : Int64) = zl (48 + v / 10 % 10) := by
    rw [zl_l10, zl_l48, zl_div (by omega) (by decide), zl_div (by omega) (by decide), zl_mul, zl_sub (by omega), zl_add]
    congr 1
    omega
  have c3 : (48 + (zl v - zl v / 10 * 10) : Int64) = zl (48 + v % 10) := by
    rw [zl_l10, zl_l48, zl_div (by omega) (by decide), zl_mul, zl_sub (by omega), zl_add]
    congr 1
    omega
  have q2 : ∀ (l' : List Nat) (c : Nat), l'.length < 2147483648 → s_Mo_put g am (zi c) (mW am (mPt M l') ρ) = some (mW am (mPt M (l' ++ [c])) ρ) := fun l' c h => M_put h37 h
  have z1 : (46 : Int32) = zi 46 := rfl
  have z2 : (32 : Int32) = zi 32 := rfl
  unfold s_Mo_money
  rw [c1, q1, c2, c3, zl_i32, zl_i32, z1, z2]
  simp only [m_is, Option.bind_some]
  rw [q2 _ _ (by rw [List.length_append]; omega)]
  simp only [m_is, Option.bind_some]
  rw [q2 _ _ (by simp only [List.length_append, List.length_cons, List.length_nil]; omega)]
  simp only [m_is, Option.bind_some]
  rw [q2 _ _ (by simp only [List.length_append, List.length_cons, List.length_nil]; omega)]
  simp only [m_is, Option.bind_some]
  rw [q2 _ _ (by simp only [List.length_append, List.length_cons, List.length_nil]; omega)]
  simp only [Option.bind_some, tMon, List.append_assoc]
  rfl
end MLIST
