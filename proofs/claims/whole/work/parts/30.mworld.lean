/-! ===== small numbers as ints ===== -/
def zi (n : Nat) : Int32 := Int32.ofNat n
theorem zi_add (a b : Nat) : zi a + zi b = zi (a + b) := (Int32.ofNat_add a b).symm
theorem zi_mul (a b : Nat) : zi a * zi b = zi (a * b) := (Int32.ofNat_mul a b).symm
theorem zi_sub {a b : Nat} (h : b ≤ a) : zi a - zi b = zi (a - b) := (Int32.ofNat_sub a b h).symm
theorem zi_int {a : Nat} (h : a < 2147483648) : (zi a).toInt = a := Int32.toInt_ofNat_of_lt h
theorem zi_nat {a : Nat} (h : a < 2147483648) : (zi a).toNatClampNeg = a := Int32.toNatClampNeg_ofNat_of_lt h
theorem zi_lt {a b : Nat} (ha : a < 2147483648) (hb : b < 2147483648) : (zi a < zi b) = (a < b) := by
  rw [Int32.lt_iff_toInt_lt, zi_int ha, zi_int hb]
  exact propext Int.ofNat_lt
theorem zi_le {a b : Nat} (ha : a < 2147483648) (hb : b < 2147483648) : (zi a ≤ zi b) = (a ≤ b) := by
  rw [Int32.le_iff_toInt_le, zi_int ha, zi_int hb]
  exact propext Int.ofNat_le
theorem zi_eq {a b : Nat} (ha : a < 2147483648) (hb : b < 2147483648) : (zi a = zi b) = (a = b) := by
  refine propext ⟨fun h => ?_, fun h => by rw [h]⟩
  have h2 := congrArg Int32.toInt h
  rw [zi_int ha, zi_int hb] at h2
  exact Int.ofNat.inj h2
theorem zi_of (x : Int32) (h : ¬ x < 0) : zi x.toNatClampNeg = x := Int32.ofNat_toNatClampNeg x (by
  rw [Int32.le_iff_toInt_le]
  rw [Int32.lt_iff_toInt_lt] at h
  omega)
theorem zi_in {k n : Nat} (hk : k < n) (hn : n ≤ 2147483648) : ¬ (zi k < 0 ∨ n ≤ (zi k).toNatClampNeg) := by
  have h1 : k < 2147483648 := by omega
  rw [zi_nat h1]
  intro h
  rcases h with h | h
  · have h2 : (zi k < zi 0) := h
    rw [zi_lt h1 (by decide)] at h2
    omega
  · omega
/-- a number of an argument: none where it is negative -/
theorem zi_cases (x : Int32) : x < 0 ∨ ∃ k : Nat, k < 2147483648 ∧ x = zi k := by
  by_cases h : x < 0
  · exact Or.inl h
  · refine Or.inr ⟨x.toNatClampNeg, ?_, (zi_of x h).symm⟩
    have h1 := Int32.toInt_lt x
    have h2 : x.toNatClampNeg = x.toInt.toNat := rfl
    rw [h2]
    omega

theorem zi_l0 : (0 : Int32) = zi 0 := rfl
theorem zi_l1 : (1 : Int32) = zi 1 := rfl
theorem zi_l2 : (2 : Int32) = zi 2 := rfl
theorem zi_l3 : (3 : Int32) = zi 3 := rfl
theorem zi_l4 : (4 : Int32) = zi 4 := rfl
theorem zi_l5 : (5 : Int32) = zi 5 := rfl
theorem zi_l6 : (6 : Int32) = zi 6 := rfl
theorem zi_l7 : (7 : Int32) = zi 7 := rfl
theorem zi_l8 : (8 : Int32) = zi 8 := rfl
theorem zi_l9 : (9 : Int32) = zi 9 := rfl
theorem zi_l10 : (10 : Int32) = zi 10 := rfl
theorem zi_l12 : (12 : Int32) = zi 12 := rfl
theorem zi_l18 : (18 : Int32) = zi 18 := rfl
theorem zi_l20 : (20 : Int32) = zi 20 := rfl
theorem zi_l30 : (30 : Int32) = zi 30 := rfl
theorem zi_l32 : (32 : Int32) = zi 32 := rfl
theorem zi_l36 : (36 : Int32) = zi 36 := rfl
theorem zi_l48 : (48 : Int32) = zi 48 := rfl
theorem zi_l64 : (64 : Int32) = zi 64 := rfl
theorem zi_l99 : (99 : Int32) = zi 99 := rfl
theorem zi_l100 : (100 : Int32) = zi 100 := rfl
theorem zi_l300 : (300 : Int32) = zi 300 := rfl
theorem zi_l512 : (512 : Int32) = zi 512 := rfl
theorem zi_l600 : (600 : Int32) = zi 600 := rfl
theorem zi_l900 : (900 : Int32) = zi 900 := rfl
theorem zi_l1800 : (1800 : Int32) = zi 1800 := rfl
theorem zi_l9999 : (9999 : Int32) = zi 9999 := rfl
theorem zi_l10800 : (10800 : Int32) = zi 10800 := rfl
theorem zi_l21600 : (21600 : Int32) = zi 21600 := rfl
theorem zi_add_nat {a b : Nat} (h : a = b) : zi a = zi b := by rw [h]
/-! ===== the reference's state: nat rows, int rows, long rows, numbers by field, found ===== -/
abbrev mS : Type := (Nat → Nat → Nat) × (Nat → Nat → Int32) × (Nat → Nat → Int64) × (Nat → Nat) × Int32
def mSN (M : mS) (j k v : Nat) : mS := (fun a b => if a = j ∧ b = k then v else M.1 a b, M.2)
def mSI (M : mS) (j k : Nat) (v : Int32) : mS := (M.1, fun a b => if a = j ∧ b = k then v else M.2.1 a b, M.2.2)
def mSL (M : mS) (j k : Nat) (v : Int64) : mS := (M.1, M.2.1, fun a b => if a = j ∧ b = k then v else M.2.2.1 a b, M.2.2.2)
def mSs (M : mS) (k v : Nat) : mS := (M.1, M.2.1, M.2.2.1, fun a => if a = k then v else M.2.2.2.1 a, M.2.2.2.2)
def mSf (M : mS) (v : Int32) : mS := (M.1, M.2.1, M.2.2.1, M.2.2.2.1, v)
def mtab : List (Nat × Nat × Nat) := [(99, 0, 3), (3, 7, 0), (0, 36, 0), (0, 36, 0), (0, 36, 0), (0, 36, 0), (0, 36, 0), (5, 10800, 0), (5, 10800, 0), (2, 10800, 0), (1, 10800, 2), (0, 10800, 1), (2, 10800, 0), (5, 21600, 0), (0, 12, 0), (0, 12, 0), (0, 12, 0), (0, 12, 0), (3, 12, 0), (3, 12, 0), (0, 6, 0), (0, 6, 0), (0, 6, 0), (2, 1800, 0), (2, 1800, 0), (1, 1800, 2), (0, 1800, 1), (2, 1800, 0), (3, 12, 0), (0, 12, 0), (0, 12, 0), (0, 12, 0), (0, 12, 0), (0, 512, 0), (0, 8, 0)]
def mflds (am : Nat) (M : mS) : List Value := [.int (zi (M.2.2.2.1 0)), .int (zi (M.2.2.2.1 1)), .ref (am + 1), .ref (am + 2), .ref (am + 3), .ref (am + 4), .ref (am + 5), .ref (am + 6), .ref (am + 7), .ref (am + 8), .ref (am + 9), .ref (am + 10), .ref (am + 11), .ref (am + 12), .ref (am + 13), .ref (am + 14), .ref (am + 15), .ref (am + 16), .ref (am + 17), .ref (am + 18), .ref (am + 19), .ref (am + 20), .ref (am + 21), .ref (am + 22), .ref (am + 23), .ref (am + 24), .ref (am + 25), .ref (am + 26), .ref (am + 27), .ref (am + 28), .ref (am + 29), .ref (am + 30), .ref (am + 31), .ref (am + 32), .int (zi (M.2.2.2.1 34)), .ref (am + 33), .ref (am + 34), .int (zi (M.2.2.2.1 37)), .int (zi (M.2.2.2.1 38)), .int M.2.2.2.2]
def mcell (am : Nat) (M : mS) (j : Nat) : zY := if j = 0 then .inr (14, mflds am M) else match mtab[j]? with
  | some (t, n, 0) => .inl (t, n, .inl (fun i => zi (M.1 j i)))
  | some (t, n, 1) => .inl (t, n, .inl (M.2.1 j))
  | some (t, n, _) => .inl (t, n, .inr (.inl (M.2.2.1 j)))
  | none => .inr (99, [])
def mW (am : Nat) (M : mS) (ρ : zS) : zS := (ρ.1, ρ.2.1, fun a => if am ≤ a ∧ a < am + 35 then some (true, mcell am M (a - am)) else ρ.2.2 a)
section MW
variable {am : Nat} {M M' : mS} {ρ : zS}
theorem mW_at {j : Nat} (h : j < 35) : (mW am M ρ).2.2 (am + j) = some (true, mcell am M j) := by
  have h1 : am ≤ am + j ∧ am + j < am + 35 := by omega
  have h2 : am + j - am = j := by omega
  simp only [mW, if_pos h1, h2]
theorem mW_at0 : (mW am M ρ).2.2 am = some (true, .inr (14, mflds am M)) := by
  have h := mW_at (am := am) (M := M) (ρ := ρ) (j := 0) (by decide)
  rwa [Nat.add_zero] at h
theorem mW_out {a : Nat} (h : a < am ∨ am + 35 ≤ a) : (mW am M ρ).2.2 a = ρ.2.2 a := by
  have h1 : ¬ (am ≤ a ∧ a < am + 35) := by omega
  simp only [mW, if_neg h1]
theorem mW_upd {j : Nat} {y : zY} (hj : j < 35) (h : ∀ i, i < 35 → mcell am M' i = if i = j then y else mcell am M i) : zupd (mW am M ρ) (am + j) y = mW am M' ρ := by
  unfold zupd mW va_up
  refine congrArg (fun f => (ρ.1, ρ.2.1, f)) ?_
  funext a
  by_cases ha : a = am + j
  · have h1 : am ≤ a ∧ a < am + 35 := by omega
    have h2 : a - am = j := by omega
    simp only [if_pos ha, if_pos h1, h2, h j hj, if_true]
  · simp only [if_neg ha]
    by_cases h1 : am ≤ a ∧ a < am + 35
    · have h2 : ¬ a - am = j := by omega
      simp only [if_pos h1, h (a - am) (by omega), if_neg h2]
    · simp only [if_neg h1]
theorem mW_zarN {j t n : Nat} (ht : mtab[j]? = some (t, n, 0)) (h0 : 0 < j ∧ j < 35) : zar (mW am M ρ) (am + j) t = some (n, .inl (fun i => zi (M.1 j i))) := by
  have h1 : ¬ j = 0 := by omega
  simp only [zar, mW_at h0.2, mcell, if_neg h1, ht, if_true]
theorem mW_zarI {j t n : Nat} (ht : mtab[j]? = some (t, n, 1)) (h0 : 0 < j ∧ j < 35) : zar (mW am M ρ) (am + j) t = some (n, .inl (M.2.1 j)) := by
  have h1 : ¬ j = 0 := by omega
  simp only [zar, mW_at h0.2, mcell, if_neg h1, ht, if_true]
theorem mW_zarL {j t n : Nat} (ht : mtab[j]? = some (t, n, 2)) (h0 : 0 < j ∧ j < 35) : zar (mW am M ρ) (am + j) t = some (n, .inr (.inl (M.2.2.1 j))) := by
  have h1 : ¬ j = 0 := by omega
  simp only [zar, mW_at h0.2, mcell, if_neg h1, ht, if_true]
theorem mW_own {j : Nat} (h : j < 35) : zown (mW am M ρ) (am + j) = true := by
  unfold zown
  rw [mW_at h]
theorem m_rdN {j t n k : Nat} (ht : mtab[j]? = some (t, n, 0)) (h0 : 0 < j ∧ j < 35) (hn : n ≤ 2147483648) (hk : k < n) : zaI (mW am M ρ) (am + j) t (zi k) = some (zi (M.1 j k)) := by
  have h2 := zi_nat (a := k) (by omega)
  simp only [zaI, mW_zarN ht h0, if_neg (zi_in hk hn)]
  rw [h2]
theorem m_rdI {j t n k : Nat} (ht : mtab[j]? = some (t, n, 1)) (h0 : 0 < j ∧ j < 35) (hn : n ≤ 2147483648) (hk : k < n) : zaI (mW am M ρ) (am + j) t (zi k) = some (M.2.1 j k) := by
  have h2 := zi_nat (a := k) (by omega)
  simp only [zaI, mW_zarI ht h0, if_neg (zi_in hk hn)]
  rw [h2]
theorem m_rdL {j t n k : Nat} (ht : mtab[j]? = some (t, n, 2)) (h0 : 0 < j ∧ j < 35) (hn : n ≤ 2147483648) (hk : k < n) : zaL (mW am M ρ) (am + j) t (zi k) = some (M.2.2.1 j k) := by
  have h2 := zi_nat (a := k) (by omega)
  simp only [zaL, mW_zarL ht h0, if_neg (zi_in hk hn)]
  rw [h2]
theorem m_wrN {j t n k v : Nat} (ht : mtab[j]? = some (t, n, 0)) (h0 : 0 < j ∧ j < 35) (hn : n ≤ 2147483648) (hk : k < n) : zsI (mW am M ρ) (am + j) t (zi k) (zi v) = some (mW am (mSN M j k v) ρ) := by
  have h2 := zi_nat (a := k) (by omega)
  have h3 : ¬ ((zi k < 0 ∨ n ≤ (zi k).toNatClampNeg) ∨ zown (mW am M ρ) (am + j) = false) := by
    rw [mW_own h0.2]
    intro h
    rcases h with h | h
    · exact zi_in hk hn h
    · cases h
  simp only [zsI, mW_zarN ht h0, if_neg h3]
  rw [h2]
  refine congrArg some (mW_upd h0.2 (fun i _ => ?_))
  by_cases hij : i = j
  · subst hij
    have h1 : ¬ i = 0 := by omega
    rw [if_pos rfl]
    simp only [mcell, if_neg h1, ht]
    refine congrArg (fun f => Sum.inl (t, n, Sum.inl f)) ?_
    funext b
    simp only [mSN, upd, true_and]
    split <;> rfl
  · rw [if_neg hij]
    simp only [mcell, mflds, mSN, hij, false_and, if_false]
theorem m_wrI {j t n k : Nat} {v : Int32} (ht : mtab[j]? = some (t, n, 1)) (h0 : 0 < j ∧ j < 35) (hn : n ≤ 2147483648) (hk : k < n) : zsI (mW am M ρ) (am + j) t (zi k) v = some (mW am (mSI M j k v) ρ) := by
  have h2 := zi_nat (a := k) (by omega)
  have h3 : ¬ ((zi k < 0 ∨ n ≤ (zi k).toNatClampNeg) ∨ zown (mW am M ρ) (am + j) = false) := by
    rw [mW_own h0.2]
    intro h
    rcases h with h | h
    · exact zi_in hk hn h
    · cases h
  simp only [zsI, mW_zarI ht h0, if_neg h3]
  rw [h2]
  refine congrArg some (mW_upd h0.2 (fun i _ => ?_))
  by_cases hij : i = j
  · subst hij
    have h1 : ¬ i = 0 := by omega
    rw [if_pos rfl]
    simp only [mcell, if_neg h1, ht]
    refine congrArg (fun f => Sum.inl (t, n, Sum.inl f)) ?_
    funext b
    simp only [mSI, upd, true_and]
  · rw [if_neg hij]
    simp only [mcell, mflds, mSI, hij, false_and, if_false]
theorem m_wrL {j t n k : Nat} {v : Int64} (ht : mtab[j]? = some (t, n, 2)) (h0 : 0 < j ∧ j < 35) (hn : n ≤ 2147483648) (hk : k < n) : zsL (mW am M ρ) (am + j) t (zi k) v = some (mW am (mSL M j k v) ρ) := by
  have h2 := zi_nat (a := k) (by omega)
  have h3 : ¬ ((zi k < 0 ∨ n ≤ (zi k).toNatClampNeg) ∨ zown (mW am M ρ) (am + j) = false) := by
    rw [mW_own h0.2]
    intro h
    rcases h with h | h
    · exact zi_in hk hn h
    · cases h
  simp only [zsL, mW_zarL ht h0, if_neg h3]
  rw [h2]
  refine congrArg some (mW_upd h0.2 (fun i _ => ?_))
  by_cases hij : i = j
  · subst hij
    have h1 : ¬ i = 0 := by omega
    rw [if_pos rfl]
    simp only [mcell, if_neg h1, ht]
    refine congrArg (fun f => Sum.inl (t, n, Sum.inr (Sum.inl f))) ?_
    funext b
    simp only [mSL, vp_updL, true_and]
  · rw [if_neg hij]
    simp only [mcell, mflds, mSL, hij, false_and, if_false]
theorem mW_zfs : zfs (mW am M ρ) am 14 = some (mflds am M) := by
  simp only [zfs, mW_at0, if_true]
theorem m_is : zis (mW am M ρ) am 14 = some () := by
  simp only [zis, zcls, mW_at0, if_true]
theorem m_put {k : Nat} {v : Value} (hk : k < 40) (h : (mflds am M).set k v = mflds am M') (hc : ∀ i, ¬ i = 0 → mcell am M' i = mcell am M i) : zpF (mW am M ρ) am 14 k v = some (mW am M' ρ) := by
  have h3 : k < (mflds am M).length ∧ zown (mW am M ρ) am = true := ⟨hk, mW_own (j := 0) (by decide)⟩
  simp only [zpF, mW_zfs, if_pos h3, h]
  refine congrArg some ?_
  have h4 := mW_upd (am := am) (M := M) (M' := M') (ρ := ρ) (j := 0) (y := .inr (14, mflds am M')) (by decide) (fun i _ => ?_)
  · rwa [Nat.add_zero] at h4
  · by_cases hi : i = 0
    · rw [if_pos hi]
      simp only [mcell, if_pos hi]
    · rw [if_neg hi, hc i hi]
theorem m_g2 : zgR (mW am M ρ) am 14 2 = some (some (am + 1)) := by
  simp only [zgR, mW_zfs]
  rfl
theorem m_g3 : zgR (mW am M ρ) am 14 3 = some (some (am + 2)) := by
  simp only [zgR, mW_zfs]
  rfl
theorem m_g4 : zgR (mW am M ρ) am 14 4 = some (some (am + 3)) := by
  simp only [zgR, mW_zfs]
  rfl
theorem m_g5 : zgR (mW am M ρ) am 14 5 = some (some (am + 4)) := by
  simp only [zgR, mW_zfs]
  rfl
theorem m_g6 : zgR (mW am M ρ) am 14 6 = some (some (am + 5)) := by
  simp only [zgR, mW_zfs]
  rfl
theorem m_g7 : zgR (mW am M ρ) am 14 7 = some (some (am + 6)) := by
  simp only [zgR, mW_zfs]
  rfl
theorem m_g8 : zgR (mW am M ρ) am 14 8 = some (some (am + 7)) := by
  simp only [zgR, mW_zfs]
  rfl
theorem m_g9 : zgR (mW am M ρ) am 14 9 = some (some (am + 8)) := by
  simp only [zgR, mW_zfs]
  rfl
theorem m_g10 : zgR (mW am M ρ) am 14 10 = some (some (am + 9)) := by
  simp only [zgR, mW_zfs]
  rfl
theorem m_g11 : zgR (mW am M ρ) am 14 11 = some (some (am + 10)) := by
  simp only [zgR, mW_zfs]
  rfl
theorem m_g12 : zgR (mW am M ρ) am 14 12 = some (some (am + 11)) := by
  simp only [zgR, mW_zfs]
  rfl
theorem m_g13 : zgR (mW am M ρ) am 14 13 = some (some (am + 12)) := by
  simp only [zgR, mW_zfs]
  rfl
theorem m_g14 : zgR (mW am M ρ) am 14 14 = some (some (am + 13)) := by
  simp only [zgR, mW_zfs]
  rfl
theorem m_g15 : zgR (mW am M ρ) am 14 15 = some (some (am + 14)) := by
  simp only [zgR, mW_zfs]
  rfl
theorem m_g16 : zgR (mW am M ρ) am 14 16 = some (some (am + 15)) := by
  simp only [zgR, mW_zfs]
  rfl
theorem m_g17 : zgR (mW am M ρ) am 14 17 = some (some (am + 16)) := by
  simp only [zgR, mW_zfs]
  rfl
theorem m_g18 : zgR (mW am M ρ) am 14 18 = some (some (am + 17)) := by
  simp only [zgR, mW_zfs]
  rfl
theorem m_g19 : zgR (mW am M ρ) am 14 19 = some (some (am + 18)) := by
  simp only [zgR, mW_zfs]
  rfl
theorem m_g20 : zgR (mW am M ρ) am 14 20 = some (some (am + 19)) := by
  simp only [zgR, mW_zfs]
  rfl
theorem m_g21 : zgR (mW am M ρ) am 14 21 = some (some (am + 20)) := by
  simp only [zgR, mW_zfs]
  rfl
theorem m_g22 : zgR (mW am M ρ) am 14 22 = some (some (am + 21)) := by
  simp only [zgR, mW_zfs]
  rfl
theorem m_g23 : zgR (mW am M ρ) am 14 23 = some (some (am + 22)) := by
  simp only [zgR, mW_zfs]
  rfl
theorem m_g24 : zgR (mW am M ρ) am 14 24 = some (some (am + 23)) := by
  simp only [zgR, mW_zfs]
  rfl
theorem m_g25 : zgR (mW am M ρ) am 14 25 = some (some (am + 24)) := by
  simp only [zgR, mW_zfs]
  rfl
theorem m_g26 : zgR (mW am M ρ) am 14 26 = some (some (am + 25)) := by
  simp only [zgR, mW_zfs]
  rfl
theorem m_g27 : zgR (mW am M ρ) am 14 27 = some (some (am + 26)) := by
  simp only [zgR, mW_zfs]
  rfl
theorem m_g28 : zgR (mW am M ρ) am 14 28 = some (some (am + 27)) := by
  simp only [zgR, mW_zfs]
  rfl
theorem m_g29 : zgR (mW am M ρ) am 14 29 = some (some (am + 28)) := by
  simp only [zgR, mW_zfs]
  rfl
theorem m_g30 : zgR (mW am M ρ) am 14 30 = some (some (am + 29)) := by
  simp only [zgR, mW_zfs]
  rfl
theorem m_g31 : zgR (mW am M ρ) am 14 31 = some (some (am + 30)) := by
  simp only [zgR, mW_zfs]
  rfl
theorem m_g32 : zgR (mW am M ρ) am 14 32 = some (some (am + 31)) := by
  simp only [zgR, mW_zfs]
  rfl
theorem m_g33 : zgR (mW am M ρ) am 14 33 = some (some (am + 32)) := by
  simp only [zgR, mW_zfs]
  rfl
theorem m_g35 : zgR (mW am M ρ) am 14 35 = some (some (am + 33)) := by
  simp only [zgR, mW_zfs]
  rfl
theorem m_g36 : zgR (mW am M ρ) am 14 36 = some (some (am + 34)) := by
  simp only [zgR, mW_zfs]
  rfl
theorem m_g0 : zgI (mW am M ρ) am 14 0 = some (zi (M.2.2.2.1 0)) := by
  simp only [zgI, mW_zfs]
  rfl
theorem m_p0 {v : Nat} : zpF (mW am M ρ) am 14 0 (.int (zi v)) = some (mW am (mSs M 0 v) ρ) := m_put (by decide) rfl (fun i hi => by simp only [mcell, mSs, if_neg hi])
theorem m_g1 : zgI (mW am M ρ) am 14 1 = some (zi (M.2.2.2.1 1)) := by
  simp only [zgI, mW_zfs]
  rfl
theorem m_p1 {v : Nat} : zpF (mW am M ρ) am 14 1 (.int (zi v)) = some (mW am (mSs M 1 v) ρ) := m_put (by decide) rfl (fun i hi => by simp only [mcell, mSs, if_neg hi])
theorem m_g34 : zgI (mW am M ρ) am 14 34 = some (zi (M.2.2.2.1 34)) := by
  simp only [zgI, mW_zfs]
  rfl
theorem m_p34 {v : Nat} : zpF (mW am M ρ) am 14 34 (.int (zi v)) = some (mW am (mSs M 34 v) ρ) := m_put (by decide) rfl (fun i hi => by simp only [mcell, mSs, if_neg hi])
theorem m_g37 : zgI (mW am M ρ) am 14 37 = some (zi (M.2.2.2.1 37)) := by
  simp only [zgI, mW_zfs]
  rfl
theorem m_p37 {v : Nat} : zpF (mW am M ρ) am 14 37 (.int (zi v)) = some (mW am (mSs M 37 v) ρ) := m_put (by decide) rfl (fun i hi => by simp only [mcell, mSs, if_neg hi])
theorem m_g38 : zgI (mW am M ρ) am 14 38 = some (zi (M.2.2.2.1 38)) := by
  simp only [zgI, mW_zfs]
  rfl
theorem m_p38 {v : Nat} : zpF (mW am M ρ) am 14 38 (.int (zi v)) = some (mW am (mSs M 38 v) ρ) := m_put (by decide) rfl (fun i hi => by simp only [mcell, mSs, if_neg hi])
theorem m_g39 : zgI (mW am M ρ) am 14 39 = some M.2.2.2.2 := by
  simp only [zgI, mW_zfs]
  rfl
theorem m_p39 {v : Int32} : zpF (mW am M ρ) am 14 39 (.int v) = some (mW am (mSf M v) ρ) := m_put (by decide) rfl (fun i hi => by simp only [mcell, mSf, if_neg hi])
theorem m_r1 {k : Nat} (hk : k < 7) : zaI (mW am M ρ) (am + 1) 3 (zi k) = some (zi (M.1 1 k)) := m_rdN rfl (by decide) (by decide) hk
theorem m_w1 {k v : Nat} (hk : k < 7) : zsI (mW am M ρ) (am + 1) 3 (zi k) (zi v) = some (mW am (mSN M 1 k v) ρ) := m_wrN rfl (by decide) (by decide) hk
theorem m_r2 {k : Nat} (hk : k < 36) : zaI (mW am M ρ) (am + 2) 0 (zi k) = some (zi (M.1 2 k)) := m_rdN rfl (by decide) (by decide) hk
theorem m_w2 {k v : Nat} (hk : k < 36) : zsI (mW am M ρ) (am + 2) 0 (zi k) (zi v) = some (mW am (mSN M 2 k v) ρ) := m_wrN rfl (by decide) (by decide) hk
theorem m_r3 {k : Nat} (hk : k < 36) : zaI (mW am M ρ) (am + 3) 0 (zi k) = some (zi (M.1 3 k)) := m_rdN rfl (by decide) (by decide) hk
theorem m_w3 {k v : Nat} (hk : k < 36) : zsI (mW am M ρ) (am + 3) 0 (zi k) (zi v) = some (mW am (mSN M 3 k v) ρ) := m_wrN rfl (by decide) (by decide) hk
theorem m_r4 {k : Nat} (hk : k < 36) : zaI (mW am M ρ) (am + 4) 0 (zi k) = some (zi (M.1 4 k)) := m_rdN rfl (by decide) (by decide) hk
theorem m_w4 {k v : Nat} (hk : k < 36) : zsI (mW am M ρ) (am + 4) 0 (zi k) (zi v) = some (mW am (mSN M 4 k v) ρ) := m_wrN rfl (by decide) (by decide) hk
theorem m_r5 {k : Nat} (hk : k < 36) : zaI (mW am M ρ) (am + 5) 0 (zi k) = some (zi (M.1 5 k)) := m_rdN rfl (by decide) (by decide) hk
theorem m_w5 {k v : Nat} (hk : k < 36) : zsI (mW am M ρ) (am + 5) 0 (zi k) (zi v) = some (mW am (mSN M 5 k v) ρ) := m_wrN rfl (by decide) (by decide) hk
theorem m_r6 {k : Nat} (hk : k < 36) : zaI (mW am M ρ) (am + 6) 0 (zi k) = some (zi (M.1 6 k)) := m_rdN rfl (by decide) (by decide) hk
theorem m_w6 {k v : Nat} (hk : k < 36) : zsI (mW am M ρ) (am + 6) 0 (zi k) (zi v) = some (mW am (mSN M 6 k v) ρ) := m_wrN rfl (by decide) (by decide) hk
theorem m_r7 {k : Nat} (hk : k < 10800) : zaI (mW am M ρ) (am + 7) 5 (zi k) = some (zi (M.1 7 k)) := m_rdN rfl (by decide) (by decide) hk
theorem m_w7 {k v : Nat} (hk : k < 10800) : zsI (mW am M ρ) (am + 7) 5 (zi k) (zi v) = some (mW am (mSN M 7 k v) ρ) := m_wrN rfl (by decide) (by decide) hk
theorem m_r8 {k : Nat} (hk : k < 10800) : zaI (mW am M ρ) (am + 8) 5 (zi k) = some (zi (M.1 8 k)) := m_rdN rfl (by decide) (by decide) hk
theorem m_w8 {k v : Nat} (hk : k < 10800) : zsI (mW am M ρ) (am + 8) 5 (zi k) (zi v) = some (mW am (mSN M 8 k v) ρ) := m_wrN rfl (by decide) (by decide) hk
theorem m_r9 {k : Nat} (hk : k < 10800) : zaI (mW am M ρ) (am + 9) 2 (zi k) = some (zi (M.1 9 k)) := m_rdN rfl (by decide) (by decide) hk
theorem m_w9 {k v : Nat} (hk : k < 10800) : zsI (mW am M ρ) (am + 9) 2 (zi k) (zi v) = some (mW am (mSN M 9 k v) ρ) := m_wrN rfl (by decide) (by decide) hk
theorem m_r10 {k : Nat} (hk : k < 10800) : zaL (mW am M ρ) (am + 10) 1 (zi k) = some (M.2.2.1 10 k) := m_rdL rfl (by decide) (by decide) hk
theorem m_w10 {k : Nat} {v : Int64} (hk : k < 10800) : zsL (mW am M ρ) (am + 10) 1 (zi k) v = some (mW am (mSL M 10 k v) ρ) := m_wrL rfl (by decide) (by decide) hk
theorem m_r11 {k : Nat} (hk : k < 10800) : zaI (mW am M ρ) (am + 11) 0 (zi k) = some (M.2.1 11 k) := m_rdI rfl (by decide) (by decide) hk
theorem m_w11 {k : Nat} {v : Int32} (hk : k < 10800) : zsI (mW am M ρ) (am + 11) 0 (zi k) v = some (mW am (mSI M 11 k v) ρ) := m_wrI rfl (by decide) (by decide) hk
theorem m_r12 {k : Nat} (hk : k < 10800) : zaI (mW am M ρ) (am + 12) 2 (zi k) = some (zi (M.1 12 k)) := m_rdN rfl (by decide) (by decide) hk
theorem m_w12 {k v : Nat} (hk : k < 10800) : zsI (mW am M ρ) (am + 12) 2 (zi k) (zi v) = some (mW am (mSN M 12 k v) ρ) := m_wrN rfl (by decide) (by decide) hk
theorem m_r13 {k : Nat} (hk : k < 21600) : zaI (mW am M ρ) (am + 13) 5 (zi k) = some (zi (M.1 13 k)) := m_rdN rfl (by decide) (by decide) hk
theorem m_w13 {k v : Nat} (hk : k < 21600) : zsI (mW am M ρ) (am + 13) 5 (zi k) (zi v) = some (mW am (mSN M 13 k v) ρ) := m_wrN rfl (by decide) (by decide) hk
theorem m_r14 {k : Nat} (hk : k < 12) : zaI (mW am M ρ) (am + 14) 0 (zi k) = some (zi (M.1 14 k)) := m_rdN rfl (by decide) (by decide) hk
theorem m_w14 {k v : Nat} (hk : k < 12) : zsI (mW am M ρ) (am + 14) 0 (zi k) (zi v) = some (mW am (mSN M 14 k v) ρ) := m_wrN rfl (by decide) (by decide) hk
theorem m_r15 {k : Nat} (hk : k < 12) : zaI (mW am M ρ) (am + 15) 0 (zi k) = some (zi (M.1 15 k)) := m_rdN rfl (by decide) (by decide) hk
theorem m_w15 {k v : Nat} (hk : k < 12) : zsI (mW am M ρ) (am + 15) 0 (zi k) (zi v) = some (mW am (mSN M 15 k v) ρ) := m_wrN rfl (by decide) (by decide) hk
theorem m_r16 {k : Nat} (hk : k < 12) : zaI (mW am M ρ) (am + 16) 0 (zi k) = some (zi (M.1 16 k)) := m_rdN rfl (by decide) (by decide) hk
theorem m_w16 {k v : Nat} (hk : k < 12) : zsI (mW am M ρ) (am + 16) 0 (zi k) (zi v) = some (mW am (mSN M 16 k v) ρ) := m_wrN rfl (by decide) (by decide) hk
theorem m_r17 {k : Nat} (hk : k < 12) : zaI (mW am M ρ) (am + 17) 0 (zi k) = some (zi (M.1 17 k)) := m_rdN rfl (by decide) (by decide) hk
theorem m_w17 {k v : Nat} (hk : k < 12) : zsI (mW am M ρ) (am + 17) 0 (zi k) (zi v) = some (mW am (mSN M 17 k v) ρ) := m_wrN rfl (by decide) (by decide) hk
theorem m_r18 {k : Nat} (hk : k < 12) : zaI (mW am M ρ) (am + 18) 3 (zi k) = some (zi (M.1 18 k)) := m_rdN rfl (by decide) (by decide) hk
theorem m_w18 {k v : Nat} (hk : k < 12) : zsI (mW am M ρ) (am + 18) 3 (zi k) (zi v) = some (mW am (mSN M 18 k v) ρ) := m_wrN rfl (by decide) (by decide) hk
theorem m_r19 {k : Nat} (hk : k < 12) : zaI (mW am M ρ) (am + 19) 3 (zi k) = some (zi (M.1 19 k)) := m_rdN rfl (by decide) (by decide) hk
theorem m_w19 {k v : Nat} (hk : k < 12) : zsI (mW am M ρ) (am + 19) 3 (zi k) (zi v) = some (mW am (mSN M 19 k v) ρ) := m_wrN rfl (by decide) (by decide) hk
theorem m_r20 {k : Nat} (hk : k < 6) : zaI (mW am M ρ) (am + 20) 0 (zi k) = some (zi (M.1 20 k)) := m_rdN rfl (by decide) (by decide) hk
theorem m_w20 {k v : Nat} (hk : k < 6) : zsI (mW am M ρ) (am + 20) 0 (zi k) (zi v) = some (mW am (mSN M 20 k v) ρ) := m_wrN rfl (by decide) (by decide) hk
theorem m_r21 {k : Nat} (hk : k < 6) : zaI (mW am M ρ) (am + 21) 0 (zi k) = some (zi (M.1 21 k)) := m_rdN rfl (by decide) (by decide) hk
theorem m_w21 {k v : Nat} (hk : k < 6) : zsI (mW am M ρ) (am + 21) 0 (zi k) (zi v) = some (mW am (mSN M 21 k v) ρ) := m_wrN rfl (by decide) (by decide) hk
theorem m_r22 {k : Nat} (hk : k < 6) : zaI (mW am M ρ) (am + 22) 0 (zi k) = some (zi (M.1 22 k)) := m_rdN rfl (by decide) (by decide) hk
theorem m_w22 {k v : Nat} (hk : k < 6) : zsI (mW am M ρ) (am + 22) 0 (zi k) (zi v) = some (mW am (mSN M 22 k v) ρ) := m_wrN rfl (by decide) (by decide) hk
theorem m_r23 {k : Nat} (hk : k < 1800) : zaI (mW am M ρ) (am + 23) 2 (zi k) = some (zi (M.1 23 k)) := m_rdN rfl (by decide) (by decide) hk
theorem m_w23 {k v : Nat} (hk : k < 1800) : zsI (mW am M ρ) (am + 23) 2 (zi k) (zi v) = some (mW am (mSN M 23 k v) ρ) := m_wrN rfl (by decide) (by decide) hk
theorem m_r24 {k : Nat} (hk : k < 1800) : zaI (mW am M ρ) (am + 24) 2 (zi k) = some (zi (M.1 24 k)) := m_rdN rfl (by decide) (by decide) hk
theorem m_w24 {k v : Nat} (hk : k < 1800) : zsI (mW am M ρ) (am + 24) 2 (zi k) (zi v) = some (mW am (mSN M 24 k v) ρ) := m_wrN rfl (by decide) (by decide) hk
theorem m_r25 {k : Nat} (hk : k < 1800) : zaL (mW am M ρ) (am + 25) 1 (zi k) = some (M.2.2.1 25 k) := m_rdL rfl (by decide) (by decide) hk
theorem m_w25 {k : Nat} {v : Int64} (hk : k < 1800) : zsL (mW am M ρ) (am + 25) 1 (zi k) v = some (mW am (mSL M 25 k v) ρ) := m_wrL rfl (by decide) (by decide) hk
theorem m_r26 {k : Nat} (hk : k < 1800) : zaI (mW am M ρ) (am + 26) 0 (zi k) = some (M.2.1 26 k) := m_rdI rfl (by decide) (by decide) hk
theorem m_w26 {k : Nat} {v : Int32} (hk : k < 1800) : zsI (mW am M ρ) (am + 26) 0 (zi k) v = some (mW am (mSI M 26 k v) ρ) := m_wrI rfl (by decide) (by decide) hk
theorem m_r27 {k : Nat} (hk : k < 1800) : zaI (mW am M ρ) (am + 27) 2 (zi k) = some (zi (M.1 27 k)) := m_rdN rfl (by decide) (by decide) hk
theorem m_w27 {k v : Nat} (hk : k < 1800) : zsI (mW am M ρ) (am + 27) 2 (zi k) (zi v) = some (mW am (mSN M 27 k v) ρ) := m_wrN rfl (by decide) (by decide) hk
theorem m_r28 {k : Nat} (hk : k < 12) : zaI (mW am M ρ) (am + 28) 3 (zi k) = some (zi (M.1 28 k)) := m_rdN rfl (by decide) (by decide) hk
theorem m_w28 {k v : Nat} (hk : k < 12) : zsI (mW am M ρ) (am + 28) 3 (zi k) (zi v) = some (mW am (mSN M 28 k v) ρ) := m_wrN rfl (by decide) (by decide) hk
theorem m_r29 {k : Nat} (hk : k < 12) : zaI (mW am M ρ) (am + 29) 0 (zi k) = some (zi (M.1 29 k)) := m_rdN rfl (by decide) (by decide) hk
theorem m_w29 {k v : Nat} (hk : k < 12) : zsI (mW am M ρ) (am + 29) 0 (zi k) (zi v) = some (mW am (mSN M 29 k v) ρ) := m_wrN rfl (by decide) (by decide) hk
theorem m_r30 {k : Nat} (hk : k < 12) : zaI (mW am M ρ) (am + 30) 0 (zi k) = some (zi (M.1 30 k)) := m_rdN rfl (by decide) (by decide) hk
theorem m_w30 {k v : Nat} (hk : k < 12) : zsI (mW am M ρ) (am + 30) 0 (zi k) (zi v) = some (mW am (mSN M 30 k v) ρ) := m_wrN rfl (by decide) (by decide) hk
theorem m_r31 {k : Nat} (hk : k < 12) : zaI (mW am M ρ) (am + 31) 0 (zi k) = some (zi (M.1 31 k)) := m_rdN rfl (by decide) (by decide) hk
theorem m_w31 {k v : Nat} (hk : k < 12) : zsI (mW am M ρ) (am + 31) 0 (zi k) (zi v) = some (mW am (mSN M 31 k v) ρ) := m_wrN rfl (by decide) (by decide) hk
theorem m_r32 {k : Nat} (hk : k < 12) : zaI (mW am M ρ) (am + 32) 0 (zi k) = some (zi (M.1 32 k)) := m_rdN rfl (by decide) (by decide) hk
theorem m_w32 {k v : Nat} (hk : k < 12) : zsI (mW am M ρ) (am + 32) 0 (zi k) (zi v) = some (mW am (mSN M 32 k v) ρ) := m_wrN rfl (by decide) (by decide) hk
theorem m_r33 {k : Nat} (hk : k < 512) : zaI (mW am M ρ) (am + 33) 0 (zi k) = some (zi (M.1 33 k)) := m_rdN rfl (by decide) (by decide) hk
theorem m_w33 {k v : Nat} (hk : k < 512) : zsI (mW am M ρ) (am + 33) 0 (zi k) (zi v) = some (mW am (mSN M 33 k v) ρ) := m_wrN rfl (by decide) (by decide) hk
theorem m_r34 {k : Nat} (hk : k < 8) : zaI (mW am M ρ) (am + 34) 0 (zi k) = some (zi (M.1 34 k)) := m_rdN rfl (by decide) (by decide) hk
theorem m_w34 {k v : Nat} (hk : k < 8) : zsI (mW am M ρ) (am + 34) 0 (zi k) (zi v) = some (mW am (mSN M 34 k v) ρ) := m_wrN rfl (by decide) (by decide) hk
end MW
theorem zi_bool {v : Nat} (h : v < 2) : vp_nar .boolean (zi v) = zi v := by
  have h2 : v = 0 ∨ v = 1 := by omega
  rcases h2 with rfl | rfl <;> rfl
theorem zi_byte {v : Nat} (h : v < 128) : vp_nar .byte (zi v) = zi v := by
  have h2 : ∀ x : Fin 128, vp_nar .byte (zi x.1) = zi x.1 := by decide +kernel
  exact h2 ⟨v, h⟩
theorem zi_t8 {v : Nat} (h : v < 128) : (zi v).toInt8.toInt32 = zi v := by
  have h2 : ∀ x : Fin 128, (zi x.1).toInt8.toInt32 = zi x.1 := by decide +kernel
  exact h2 ⟨v, h⟩
theorem zi_t16 {v : Nat} (h : v < 32768) : (zi v).toInt16.toInt32 = zi v := by
  rw [← Int32.toInt_inj, Int16.toInt_toInt32, Int32.toInt_toInt16, zi_int (by omega)]
  exact Int.bmod_eq_of_le_mul_two (by omega) (by omega)
theorem zi_short {v : Nat} (h : v < 32768) : vp_nar .short (zi v) = zi v := zi_t16 h
