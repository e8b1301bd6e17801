/-! ===== the class's fixed cells: S the place of the NumberOffice, n the number of branches; numbers, ints, longs, references by place (from S) and field ===== -/
abbrev cS : Type := (Nat → Nat → Nat) × (Nat → Nat → Int32) × (Nat → Nat → Int64) × (Nat → Nat → Option Nat)
def cSN (C : cS) (j k v : Nat) : cS := (fun a b => if a = j ∧ b = k then v else C.1 a b, C.2)
def cSI (C : cS) (j k : Nat) (v : Int32) : cS := (C.1, fun a b => if a = j ∧ b = k then v else C.2.1 a b, C.2.2)
def cSL (C : cS) (j k : Nat) (v : Int64) : cS := (C.1, C.2.1, fun a b => if a = j ∧ b = k then v else C.2.2.1 a b, C.2.2.2)
def cSP (C : cS) (j k : Nat) (v : Option Nat) : cS := (C.1, C.2.1, C.2.2.1, fun a b => if a = j ∧ b = k then v else C.2.2.2 a b)
def oBr (i : Nat) : Nat := 2 + 11 * i
def oBa (i : Nat) : Nat := 3 + 11 * i
def oBs (i s : Nat) : Nat := 4 + 11 * i + 3 * s
def oLs (i s q : Nat) : Nat := 5 + 11 * i + 3 * s + q
def oOf (n : Nat) : Nat := 2 + 11 * n
def oSa (n c : Nat) : Nat := 3 + 11 * n + c
def oSb (n c s : Nat) : Nat := 5 + 11 * n + 10 * s + 5 * c
def oHo (n c s : Nat) : Nat := 6 + 11 * n + 10 * s + 5 * c
def oFa (n c s : Nat) : Nat := 7 + 11 * n + 10 * s + 5 * c
def oCe (n c s : Nat) : Nat := 8 + 11 * n + 10 * s + 5 * c
def oDe (n c s : Nat) : Nat := 9 + 11 * n + 10 * s + 5 * c
def oSt (n c : Nat) : Nat := 35 + 11 * n + c
def oAn (n c : Nat) : Nat := 37 + 11 * n + c
def oPo (n : Nat) : Nat := 39 + 11 * n
def cF (n : Nat) : Nat := 40 + 11 * n
theorem o_Br1 {i : Nat} : oBr i + 1 = oBa i := by unfold oBr oBa; omega
theorem o_Bs1 {i s : Nat} : oBs i s + 1 = oLs i s 0 := by unfold oBs oLs; omega
theorem o_Bs2 {i s : Nat} : oBs i s + 2 = oLs i s 1 := by unfold oBs oLs; omega
theorem o_Sb1 {n c s : Nat} : oSb n c s + 1 = oHo n c s := by unfold oSb oHo; omega
theorem o_Sb2 {n c s : Nat} : oSb n c s + 2 = oFa n c s := by unfold oSb oFa; omega
theorem o_Sb3 {n c s : Nat} : oSb n c s + 3 = oCe n c s := by unfold oSb oCe; omega
theorem o_Sb4 {n c s : Nat} : oSb n c s + 4 = oDe n c s := by unfold oSb oDe; omega
theorem o_Br0 {i : Nat} : (oBr i - 2) / 11 = i := by unfold oBr; omega
/-- the kind of the cell at a place: 0 NumberOffice, 1 its branches, 2 Branch, 3 its books, 4 BranchSeries, 5 ArrayList, 6 Office, 7 its books, 8 its safe books, 9 SeriesBook, 10 holders, fates, 11 cents, 12 details, 13 struck, 14 answers -/
def ck (n o : Nat) : Nat :=
  if o = 0 then 0 else if o = 1 then 1 else if o < 2 + 11 * n then (if (o - 2) % 11 = 0 then 2 else if (o - 2) % 11 = 1 then 3 else if ((o - 2) % 11 - 2) % 3 = 0 then 4 else 5)
  else if o = 2 + 11 * n then 6 else if o = 3 + 11 * n then 7 else if o = 4 + 11 * n then 8
  else if o < 35 + 11 * n then (if (o - (5 + 11 * n)) % 5 = 0 then 9 else if (o - (5 + 11 * n)) % 5 < 3 then 10 else if (o - (5 + 11 * n)) % 5 = 3 then 11 else 12)
  else if o < 37 + 11 * n then 13 else if o < 39 + 11 * n then 14 else 5
def ccellF (S n o : Nat) (fN : Nat → Nat) (fI : Nat → Int32) (fL : Nat → Int64) (fP : Nat → Option Nat) : zY := match ck n o with
  | 0 => .inr (0, [.ref (S + 1), .ref (S + oOf n), .ref (S + oPo n)])
  | 1 => .inl (6, n, .inr (.inr (.inr (.inr (fun i => if i < n then some (S + oBr i) else none)))))
  | 2 => .inr (1, [.int (zi ((o - 2) / 11)), .ref (S + (o + 1)), va_rf (fP 2), .int (zi (fN 3)), .int (zi (fN 4)), va_rf (fP 5), .int (zi (fN 6)), .int (zi (fN 7)), .int (zi (fN 8))])
  | 3 => .inl (7, 3, .inr (.inr (.inr (.inr (fun s => if s < 3 then some (S + (o + 1 + 3 * s)) else none)))))
  | 4 => .inr (2, [.ref (S + (o + 1)), .ref (S + (o + 2)), .int (zi (fN 2)), .int (zi (fN 3)), .int (zi (fN 4)), .int (zi (fN 5)), .int (zi (fN 6)), .int (zi (fN 7)), .int (zi (fN 8)), .int (zi (fN 9))])
  | 5 => .inr (3, [va_rf (fP 0), .int (zi (fN 1)), .int (fI 2)])
  | 6 => .inr (4, [.ref (S + oSa n 0), .ref (S + oSa n 1), .ref (S + oSt n 0), .ref (S + oSt n 1), .ref (S + oAn n 0), .ref (S + oAn n 1), .int (zi (fN 6))])
  | 7 => .inl (8, 3, .inr (.inr (.inr (.inr (fun s => if s < 3 then some (S + oSb n 0 s) else none)))))
  | 8 => .inl (8, 3, .inr (.inr (.inr (.inr (fun s => if s < 3 then some (S + oSb n 1 s) else none)))))
  | 9 => .inr (5, [.int (zi (fN 0)), .int (zi (fN 1)), .int (zi (fN 2)), .ref (S + (o + 1)), .ref (S + (o + 2)), .ref (S + (o + 3)), .ref (S + (o + 4)), va_rf (fP 7)])
  | 10 => .inl (0, 300, .inl (fun i => zi (fN i)))
  | 11 => .inl (1, 300, .inr (.inl fL))
  | 12 => .inl (0, 300, .inl fI)
  | 13 => .inl (3, n, .inl (fun i => zi (fN i)))
  | _ => .inl (9, n, .inr (.inr (.inr (.inr fP))))
def ccell (S n : Nat) (C : cS) (o : Nat) : zY := ccellF S n o (C.1 o) (C.2.1 o) (C.2.2.1 o) (C.2.2.2 o)
def cW (S n : Nat) (C : cS) (ρ : zS) : zS := (ρ.1, ρ.2.1, fun a => if S ≤ a ∧ a < S + cF n then some (true, ccell S n C (a - S)) else ρ.2.2 a)
section CKS
variable {n i s q c : Nat}
theorem ck_No : ck n 0 = 0 := rfl
theorem ck_Na : ck n 1 = 1 := rfl
theorem ck_Br (hi : i < n) : ck n (oBr i) = 2 := by
  unfold ck oBr
  repeat (first | rw [if_pos (by omega)] | rw [if_neg (by omega)])
theorem lt_Br (hi : i < n) : oBr i < cF n := by
  unfold oBr cF
  omega
theorem ck_Ba (hi : i < n) : ck n (oBa i) = 3 := by
  unfold ck oBa
  repeat (first | rw [if_pos (by omega)] | rw [if_neg (by omega)])
theorem lt_Ba (hi : i < n) : oBa i < cF n := by
  unfold oBa cF
  omega
theorem ck_Bs (hi : i < n) (hs : s < 3) : ck n (oBs i s) = 4 := by
  unfold ck oBs
  have e : (4 + 11 * i + 3 * s - 2) % 11 = 2 + 3 * s := by omega
  rw [if_neg (by omega), if_neg (by omega), if_pos (by omega), e, if_neg (by omega), if_neg (by omega), if_pos (by omega)]
theorem lt_Bs (hi : i < n) (hs : s < 3) : oBs i s < cF n := by
  unfold oBs cF
  omega
theorem ck_Ls (hi : i < n) (hs : s < 3) (hq : q < 2) : ck n (oLs i s q) = 5 := by
  unfold ck oLs
  have e : (5 + 11 * i + 3 * s + q - 2) % 11 = 3 + 3 * s + q := by omega
  rw [if_neg (by omega), if_neg (by omega), if_pos (by omega), e, if_neg (by omega), if_neg (by omega), if_neg (by omega)]
theorem lt_Ls (hi : i < n) (hs : s < 3) (hq : q < 2) : oLs i s q < cF n := by
  unfold oLs cF
  omega
theorem ck_Of : ck n (oOf n) = 6 := by
  unfold ck oOf
  repeat (first | rw [if_pos (by omega)] | rw [if_neg (by omega)])
theorem lt_Of : oOf n < cF n := by
  unfold oOf cF
  omega
theorem ck_Sa0 : ck n (oSa n 0) = 7 := by
  unfold ck oSa
  repeat (first | rw [if_pos (by omega)] | rw [if_neg (by omega)])
theorem ck_Sa1 : ck n (oSa n 1) = 8 := by
  unfold ck oSa
  repeat (first | rw [if_pos (by omega)] | rw [if_neg (by omega)])
theorem lt_Sa (hc : c < 2) : oSa n c < cF n := by
  unfold oSa cF
  omega
theorem ck_Sb (hc : c < 2) (hs : s < 3) : ck n (oSb n c s) = 9 := by
  unfold ck oSb
  repeat (first | rw [if_pos (by omega)] | rw [if_neg (by omega)])
theorem lt_Sb (hc : c < 2) (hs : s < 3) : oSb n c s < cF n := by
  unfold oSb cF
  omega
theorem ck_Ho (hc : c < 2) (hs : s < 3) : ck n (oHo n c s) = 10 := by
  unfold ck oHo
  repeat (first | rw [if_pos (by omega)] | rw [if_neg (by omega)])
theorem lt_Ho (hc : c < 2) (hs : s < 3) : oHo n c s < cF n := by
  unfold oHo cF
  omega
theorem ck_Fa (hc : c < 2) (hs : s < 3) : ck n (oFa n c s) = 10 := by
  unfold ck oFa
  repeat (first | rw [if_pos (by omega)] | rw [if_neg (by omega)])
theorem lt_Fa (hc : c < 2) (hs : s < 3) : oFa n c s < cF n := by
  unfold oFa cF
  omega
theorem ck_Ce (hc : c < 2) (hs : s < 3) : ck n (oCe n c s) = 11 := by
  unfold ck oCe
  repeat (first | rw [if_pos (by omega)] | rw [if_neg (by omega)])
theorem lt_Ce (hc : c < 2) (hs : s < 3) : oCe n c s < cF n := by
  unfold oCe cF
  omega
theorem ck_De (hc : c < 2) (hs : s < 3) : ck n (oDe n c s) = 12 := by
  unfold ck oDe
  repeat (first | rw [if_pos (by omega)] | rw [if_neg (by omega)])
theorem lt_De (hc : c < 2) (hs : s < 3) : oDe n c s < cF n := by
  unfold oDe cF
  omega
theorem ck_St (hc : c < 2) : ck n (oSt n c) = 13 := by
  unfold ck oSt
  repeat (first | rw [if_pos (by omega)] | rw [if_neg (by omega)])
theorem lt_St (hc : c < 2) : oSt n c < cF n := by
  unfold oSt cF
  omega
theorem ck_An (hc : c < 2) : ck n (oAn n c) = 14 := by
  unfold ck oAn
  repeat (first | rw [if_pos (by omega)] | rw [if_neg (by omega)])
theorem lt_An (hc : c < 2) : oAn n c < cF n := by
  unfold oAn cF
  omega
theorem ck_Po : ck n (oPo n) = 5 := by
  unfold ck oPo
  repeat (first | rw [if_pos (by omega)] | rw [if_neg (by omega)])
theorem lt_Po : oPo n < cF n := by
  unfold oPo cF
  omega
end CKS
section CW
variable {S n o : Nat} {C C' : cS} {ρ : zS}
theorem cW_at (h : o < cF n) : (cW S n C ρ).2.2 (S + o) = some (true, ccell S n C o) := by
  have h1 : S ≤ S + o ∧ S + o < S + cF n := by omega
  have h2 : S + o - S = o := by omega
  simp only [cW, if_pos h1, h2]
theorem cW_at0 : (cW S n C ρ).2.2 S = some (true, ccell S n C 0) := by
  have h := cW_at (S := S) (n := n) (C := C) (ρ := ρ) (o := 0) (by unfold cF; omega)
  rwa [Nat.add_zero] at h
theorem cW_out {a : Nat} (h : a < S ∨ S + cF n ≤ a) : (cW S n C ρ).2.2 a = ρ.2.2 a := by
  have h1 : ¬ (S ≤ a ∧ a < S + cF n) := by omega
  simp only [cW, if_neg h1]
theorem cW_upd {y : zY} (ho : o < cF n) (h : ∀ i, i < cF n → ccell S n C' i = if i = o then y else ccell S n C i) : zupd (cW S n C ρ) (S + o) y = cW S n C' ρ := by
  unfold zupd cW va_up
  refine congrArg (fun f => (ρ.1, ρ.2.1, f)) ?_
  funext a
  by_cases ha : a = S + o
  · have h1 : S ≤ a ∧ a < S + cF n := by omega
    have h2 : a - S = o := by omega
    simp only [if_pos ha, if_pos h1, h2, h o ho, if_true]
  · simp only [if_neg ha]
    by_cases h1 : S ≤ a ∧ a < S + cF n
    · have h2 : ¬ a - S = o := by omega
      simp only [if_pos h1, h (a - S) (by omega), if_neg h2]
    · simp only [if_neg h1]
theorem cW_own (h : o < cF n) : zown (cW S n C ρ) (S + o) = true := by
  unfold zown
  rw [cW_at h]
theorem ccell_N {k v i : Nat} (hi : ¬ i = o) : ccell S n (cSN C o k v) i = ccell S n C i := by
  have h : (cSN C o k v).1 i = C.1 i := by
    funext b
    simp only [cSN, hi, false_and, if_false]
  unfold ccell
  rw [h]
  rfl
theorem ccell_I {k i : Nat} {v : Int32} (hi : ¬ i = o) : ccell S n (cSI C o k v) i = ccell S n C i := by
  have h : (cSI C o k v).2.1 i = C.2.1 i := by
    funext b
    simp only [cSI, hi, false_and, if_false]
  unfold ccell
  rw [h]
  rfl
theorem ccell_L {k i : Nat} {v : Int64} (hi : ¬ i = o) : ccell S n (cSL C o k v) i = ccell S n C i := by
  have h : (cSL C o k v).2.2.1 i = C.2.2.1 i := by
    funext b
    simp only [cSL, hi, false_and, if_false]
  unfold ccell
  rw [h]
  rfl
theorem ccell_P {k i : Nat} {v : Option Nat} (hi : ¬ i = o) : ccell S n (cSP C o k v) i = ccell S n C i := by
  have h : (cSP C o k v).2.2.2 i = C.2.2.2 i := by
    funext b
    simp only [cSP, hi, false_and, if_false]
  unfold ccell
  rw [h]
  rfl
theorem cSN_self {k v : Nat} : (cSN C o k v).1 o = fun b => if b = k then v else C.1 o b := by
  funext b
  simp only [cSN, true_and]
theorem cSI_self {k : Nat} {v : Int32} : (cSI C o k v).2.1 o = fun b => if b = k then v else C.2.1 o b := by
  funext b
  simp only [cSI, true_and]
theorem cSL_self {k : Nat} {v : Int64} : (cSL C o k v).2.2.1 o = fun b => if b = k then v else C.2.2.1 o b := by
  funext b
  simp only [cSL, true_and]
theorem cSP_self {k : Nat} {v : Option Nat} : (cSP C o k v).2.2.2 o = fun b => if b = k then v else C.2.2.2 o b := by
  funext b
  simp only [cSP, true_and]
theorem c_zfs {ci : Nat} {fs : List Value} (ho : o < cF n) (h : ccell S n C o = .inr (ci, fs)) : zfs (cW S n C ρ) (S + o) ci = some fs := by
  simp only [zfs, cW_at ho, h, if_true]
theorem c_zar {t : Nat} {x : vp_A} (ho : o < cF n) (h : ccell S n C o = .inl (t, x)) : zar (cW S n C ρ) (S + o) t = some x := by
  simp only [zar, cW_at ho, h, if_true]
theorem c_zis {ci : Nat} {fs : List Value} (ho : o < cF n) (h : ccell S n C o = .inr (ci, fs)) : zis (cW S n C ρ) (S + o) ci = some () := by
  simp only [zis, zcls, cW_at ho, h, if_true]
theorem c_zcls {ci : Nat} {fs : List Value} (ho : o < cF n) (h : ccell S n C o = .inr (ci, fs)) : zcls (cW S n C ρ) (S + o) = some ci := by
  simp only [zcls, cW_at ho, h]
theorem c_put {ci k : Nat} {fs : List Value} {v : Value} (ho : o < cF n) (h : ccell S n C o = .inr (ci, fs)) (hk : k < fs.length) (h2 : ccell S n C' o = .inr (ci, fs.set k v)) (h3 : ∀ i, ¬ i = o → ccell S n C' i = ccell S n C i) : zpF (cW S n C ρ) (S + o) ci k v = some (cW S n C' ρ) := by
  have h4 : k < fs.length ∧ zown (cW S n C ρ) (S + o) = true := ⟨hk, cW_own ho⟩
  simp only [zpF, c_zfs ho h, if_pos h4]
  refine congrArg some (cW_upd ho (fun i _ => ?_))
  by_cases hi : i = o
  · rw [if_pos hi, hi, h2]
  · rw [if_neg hi, h3 i hi]
theorem cc_Br (hk : ck n o = 2) : ccell S n C o = .inr (1, [.int (zi ((o - 2) / 11)), .ref (S + (o + 1)), va_rf (C.2.2.2 o 2), .int (zi (C.1 o 3)), .int (zi (C.1 o 4)), va_rf (C.2.2.2 o 5), .int (zi (C.1 o 6)), .int (zi (C.1 o 7)), .int (zi (C.1 o 8))]) := by
  simp only [ccell, ccellF, hk]
theorem c_isBr (hk : ck n o = 2) (ho : o < cF n) : zis (cW S n C ρ) (S + o) 1 = some () := c_zis ho (cc_Br hk)
theorem c_clBr (hk : ck n o = 2) (ho : o < cF n) : zcls (cW S n C ρ) (S + o) = some 1 := c_zcls ho (cc_Br hk)
theorem c_gBr0 (hk : ck n o = 2) (ho : o < cF n) : zgI (cW S n C ρ) (S + o) 1 0 = some (zi ((o - 2) / 11)) := by
  simp only [zgI, c_zfs ho (cc_Br hk)]
  rfl
theorem c_gBr1 (hk : ck n o = 2) (ho : o < cF n) : zgR (cW S n C ρ) (S + o) 1 1 = some (some (S + (o + 1))) := by
  simp only [zgR, c_zfs ho (cc_Br hk)]
  rfl
theorem c_gBr2 (hk : ck n o = 2) (ho : o < cF n) : zgR (cW S n C ρ) (S + o) 1 2 = some (C.2.2.2 o 2) := by
  simp only [zgR, c_zfs ho (cc_Br hk)]
  cases hx : C.2.2.2 o 2 <;> simp [hx, va_rf]
theorem c_pBr2 {v : Option Nat} (hk : ck n o = 2) (ho : o < cF n) : zpF (cW S n C ρ) (S + o) 1 2 (va_rf v) = some (cW S n (cSP C o 2 v) ρ) := c_put ho (cc_Br hk) (Nat.le_of_ble_eq_true rfl) (by rw [cc_Br hk, cSP_self]; rfl) (fun i hi => ccell_P hi)
theorem c_gBr3 (hk : ck n o = 2) (ho : o < cF n) : zgI (cW S n C ρ) (S + o) 1 3 = some (zi (C.1 o 3)) := by
  simp only [zgI, c_zfs ho (cc_Br hk)]
  rfl
theorem c_pBr3 {v : Nat} (hk : ck n o = 2) (ho : o < cF n) : zpF (cW S n C ρ) (S + o) 1 3 (.int (zi v)) = some (cW S n (cSN C o 3 v) ρ) := c_put ho (cc_Br hk) (Nat.le_of_ble_eq_true rfl) (by rw [cc_Br hk, cSN_self]; rfl) (fun i hi => ccell_N hi)
theorem c_gBr4 (hk : ck n o = 2) (ho : o < cF n) : zgI (cW S n C ρ) (S + o) 1 4 = some (zi (C.1 o 4)) := by
  simp only [zgI, c_zfs ho (cc_Br hk)]
  rfl
theorem c_pBr4 {v : Nat} (hk : ck n o = 2) (ho : o < cF n) : zpF (cW S n C ρ) (S + o) 1 4 (.int (zi v)) = some (cW S n (cSN C o 4 v) ρ) := c_put ho (cc_Br hk) (Nat.le_of_ble_eq_true rfl) (by rw [cc_Br hk, cSN_self]; rfl) (fun i hi => ccell_N hi)
theorem c_gBr5 (hk : ck n o = 2) (ho : o < cF n) : zgR (cW S n C ρ) (S + o) 1 5 = some (C.2.2.2 o 5) := by
  simp only [zgR, c_zfs ho (cc_Br hk)]
  cases hx : C.2.2.2 o 5 <;> simp [hx, va_rf]
theorem c_pBr5 {v : Option Nat} (hk : ck n o = 2) (ho : o < cF n) : zpF (cW S n C ρ) (S + o) 1 5 (va_rf v) = some (cW S n (cSP C o 5 v) ρ) := c_put ho (cc_Br hk) (Nat.le_of_ble_eq_true rfl) (by rw [cc_Br hk, cSP_self]; rfl) (fun i hi => ccell_P hi)
theorem c_gBr6 (hk : ck n o = 2) (ho : o < cF n) : zgI (cW S n C ρ) (S + o) 1 6 = some (zi (C.1 o 6)) := by
  simp only [zgI, c_zfs ho (cc_Br hk)]
  rfl
theorem c_pBr6 {v : Nat} (hk : ck n o = 2) (ho : o < cF n) : zpF (cW S n C ρ) (S + o) 1 6 (.int (zi v)) = some (cW S n (cSN C o 6 v) ρ) := c_put ho (cc_Br hk) (Nat.le_of_ble_eq_true rfl) (by rw [cc_Br hk, cSN_self]; rfl) (fun i hi => ccell_N hi)
theorem c_gBr7 (hk : ck n o = 2) (ho : o < cF n) : zgI (cW S n C ρ) (S + o) 1 7 = some (zi (C.1 o 7)) := by
  simp only [zgI, c_zfs ho (cc_Br hk)]
  rfl
theorem c_pBr7 {v : Nat} (hk : ck n o = 2) (ho : o < cF n) : zpF (cW S n C ρ) (S + o) 1 7 (.int (zi v)) = some (cW S n (cSN C o 7 v) ρ) := c_put ho (cc_Br hk) (Nat.le_of_ble_eq_true rfl) (by rw [cc_Br hk, cSN_self]; rfl) (fun i hi => ccell_N hi)
theorem c_gBr8 (hk : ck n o = 2) (ho : o < cF n) : zgI (cW S n C ρ) (S + o) 1 8 = some (zi (C.1 o 8)) := by
  simp only [zgI, c_zfs ho (cc_Br hk)]
  rfl
theorem c_pBr8 {v : Nat} (hk : ck n o = 2) (ho : o < cF n) : zpF (cW S n C ρ) (S + o) 1 8 (.int (zi v)) = some (cW S n (cSN C o 8 v) ρ) := c_put ho (cc_Br hk) (Nat.le_of_ble_eq_true rfl) (by rw [cc_Br hk, cSN_self]; rfl) (fun i hi => ccell_N hi)
theorem cc_Bs (hk : ck n o = 4) : ccell S n C o = .inr (2, [.ref (S + (o + 1)), .ref (S + (o + 2)), .int (zi (C.1 o 2)), .int (zi (C.1 o 3)), .int (zi (C.1 o 4)), .int (zi (C.1 o 5)), .int (zi (C.1 o 6)), .int (zi (C.1 o 7)), .int (zi (C.1 o 8)), .int (zi (C.1 o 9))]) := by
  simp only [ccell, ccellF, hk]
theorem c_isBs (hk : ck n o = 4) (ho : o < cF n) : zis (cW S n C ρ) (S + o) 2 = some () := c_zis ho (cc_Bs hk)
theorem c_clBs (hk : ck n o = 4) (ho : o < cF n) : zcls (cW S n C ρ) (S + o) = some 2 := c_zcls ho (cc_Bs hk)
theorem c_gBs0 (hk : ck n o = 4) (ho : o < cF n) : zgR (cW S n C ρ) (S + o) 2 0 = some (some (S + (o + 1))) := by
  simp only [zgR, c_zfs ho (cc_Bs hk)]
  rfl
theorem c_gBs1 (hk : ck n o = 4) (ho : o < cF n) : zgR (cW S n C ρ) (S + o) 2 1 = some (some (S + (o + 2))) := by
  simp only [zgR, c_zfs ho (cc_Bs hk)]
  rfl
theorem c_gBs2 (hk : ck n o = 4) (ho : o < cF n) : zgI (cW S n C ρ) (S + o) 2 2 = some (zi (C.1 o 2)) := by
  simp only [zgI, c_zfs ho (cc_Bs hk)]
  rfl
theorem c_pBs2 {v : Nat} (hk : ck n o = 4) (ho : o < cF n) : zpF (cW S n C ρ) (S + o) 2 2 (.int (zi v)) = some (cW S n (cSN C o 2 v) ρ) := c_put ho (cc_Bs hk) (Nat.le_of_ble_eq_true rfl) (by rw [cc_Bs hk, cSN_self]; rfl) (fun i hi => ccell_N hi)
theorem c_gBs3 (hk : ck n o = 4) (ho : o < cF n) : zgI (cW S n C ρ) (S + o) 2 3 = some (zi (C.1 o 3)) := by
  simp only [zgI, c_zfs ho (cc_Bs hk)]
  rfl
theorem c_pBs3 {v : Nat} (hk : ck n o = 4) (ho : o < cF n) : zpF (cW S n C ρ) (S + o) 2 3 (.int (zi v)) = some (cW S n (cSN C o 3 v) ρ) := c_put ho (cc_Bs hk) (Nat.le_of_ble_eq_true rfl) (by rw [cc_Bs hk, cSN_self]; rfl) (fun i hi => ccell_N hi)
theorem c_gBs4 (hk : ck n o = 4) (ho : o < cF n) : zgI (cW S n C ρ) (S + o) 2 4 = some (zi (C.1 o 4)) := by
  simp only [zgI, c_zfs ho (cc_Bs hk)]
  rfl
theorem c_pBs4 {v : Nat} (hk : ck n o = 4) (ho : o < cF n) : zpF (cW S n C ρ) (S + o) 2 4 (.int (zi v)) = some (cW S n (cSN C o 4 v) ρ) := c_put ho (cc_Bs hk) (Nat.le_of_ble_eq_true rfl) (by rw [cc_Bs hk, cSN_self]; rfl) (fun i hi => ccell_N hi)
theorem c_gBs5 (hk : ck n o = 4) (ho : o < cF n) : zgI (cW S n C ρ) (S + o) 2 5 = some (zi (C.1 o 5)) := by
  simp only [zgI, c_zfs ho (cc_Bs hk)]
  rfl
theorem c_pBs5 {v : Nat} (hk : ck n o = 4) (ho : o < cF n) : zpF (cW S n C ρ) (S + o) 2 5 (.int (zi v)) = some (cW S n (cSN C o 5 v) ρ) := c_put ho (cc_Bs hk) (Nat.le_of_ble_eq_true rfl) (by rw [cc_Bs hk, cSN_self]; rfl) (fun i hi => ccell_N hi)
theorem c_gBs6 (hk : ck n o = 4) (ho : o < cF n) : zgI (cW S n C ρ) (S + o) 2 6 = some (zi (C.1 o 6)) := by
  simp only [zgI, c_zfs ho (cc_Bs hk)]
  rfl
theorem c_pBs6 {v : Nat} (hk : ck n o = 4) (ho : o < cF n) : zpF (cW S n C ρ) (S + o) 2 6 (.int (zi v)) = some (cW S n (cSN C o 6 v) ρ) := c_put ho (cc_Bs hk) (Nat.le_of_ble_eq_true rfl) (by rw [cc_Bs hk, cSN_self]; rfl) (fun i hi => ccell_N hi)
theorem c_gBs7 (hk : ck n o = 4) (ho : o < cF n) : zgI (cW S n C ρ) (S + o) 2 7 = some (zi (C.1 o 7)) := by
  simp only [zgI, c_zfs ho (cc_Bs hk)]
  rfl
theorem c_pBs7 {v : Nat} (hk : ck n o = 4) (ho : o < cF n) : zpF (cW S n C ρ) (S + o) 2 7 (.int (zi v)) = some (cW S n (cSN C o 7 v) ρ) := c_put ho (cc_Bs hk) (Nat.le_of_ble_eq_true rfl) (by rw [cc_Bs hk, cSN_self]; rfl) (fun i hi => ccell_N hi)
theorem c_gBs8 (hk : ck n o = 4) (ho : o < cF n) : zgI (cW S n C ρ) (S + o) 2 8 = some (zi (C.1 o 8)) := by
  simp only [zgI, c_zfs ho (cc_Bs hk)]
  rfl
theorem c_pBs8 {v : Nat} (hk : ck n o = 4) (ho : o < cF n) : zpF (cW S n C ρ) (S + o) 2 8 (.int (zi v)) = some (cW S n (cSN C o 8 v) ρ) := c_put ho (cc_Bs hk) (Nat.le_of_ble_eq_true rfl) (by rw [cc_Bs hk, cSN_self]; rfl) (fun i hi => ccell_N hi)
theorem c_gBs9 (hk : ck n o = 4) (ho : o < cF n) : zgI (cW S n C ρ) (S + o) 2 9 = some (zi (C.1 o 9)) := by
  simp only [zgI, c_zfs ho (cc_Bs hk)]
  rfl
theorem c_pBs9 {v : Nat} (hk : ck n o = 4) (ho : o < cF n) : zpF (cW S n C ρ) (S + o) 2 9 (.int (zi v)) = some (cW S n (cSN C o 9 v) ρ) := c_put ho (cc_Bs hk) (Nat.le_of_ble_eq_true rfl) (by rw [cc_Bs hk, cSN_self]; rfl) (fun i hi => ccell_N hi)
theorem cc_Al (hk : ck n o = 5) : ccell S n C o = .inr (3, [va_rf (C.2.2.2 o 0), .int (zi (C.1 o 1)), .int (C.2.1 o 2)]) := by
  simp only [ccell, ccellF, hk]
theorem c_isAl (hk : ck n o = 5) (ho : o < cF n) : zis (cW S n C ρ) (S + o) 3 = some () := c_zis ho (cc_Al hk)
theorem c_clAl (hk : ck n o = 5) (ho : o < cF n) : zcls (cW S n C ρ) (S + o) = some 3 := c_zcls ho (cc_Al hk)
theorem c_gAl0 (hk : ck n o = 5) (ho : o < cF n) : zgR (cW S n C ρ) (S + o) 3 0 = some (C.2.2.2 o 0) := by
  simp only [zgR, c_zfs ho (cc_Al hk)]
  cases hx : C.2.2.2 o 0 <;> simp [hx, va_rf]
theorem c_pAl0 {v : Option Nat} (hk : ck n o = 5) (ho : o < cF n) : zpF (cW S n C ρ) (S + o) 3 0 (va_rf v) = some (cW S n (cSP C o 0 v) ρ) := c_put ho (cc_Al hk) (Nat.le_of_ble_eq_true rfl) (by rw [cc_Al hk, cSP_self]; rfl) (fun i hi => ccell_P hi)
theorem c_gAl1 (hk : ck n o = 5) (ho : o < cF n) : zgI (cW S n C ρ) (S + o) 3 1 = some (zi (C.1 o 1)) := by
  simp only [zgI, c_zfs ho (cc_Al hk)]
  rfl
theorem c_pAl1 {v : Nat} (hk : ck n o = 5) (ho : o < cF n) : zpF (cW S n C ρ) (S + o) 3 1 (.int (zi v)) = some (cW S n (cSN C o 1 v) ρ) := c_put ho (cc_Al hk) (Nat.le_of_ble_eq_true rfl) (by rw [cc_Al hk, cSN_self]; rfl) (fun i hi => ccell_N hi)
theorem c_gAl2 (hk : ck n o = 5) (ho : o < cF n) : zgI (cW S n C ρ) (S + o) 3 2 = some (C.2.1 o 2) := by
  simp only [zgI, c_zfs ho (cc_Al hk)]
  rfl
theorem c_pAl2 {v : Int32} (hk : ck n o = 5) (ho : o < cF n) : zpF (cW S n C ρ) (S + o) 3 2 (.int (v)) = some (cW S n (cSI C o 2 v) ρ) := c_put ho (cc_Al hk) (Nat.le_of_ble_eq_true rfl) (by rw [cc_Al hk, cSI_self]; rfl) (fun i hi => ccell_I hi)
theorem cc_Of (hk : ck n o = 6) : ccell S n C o = .inr (4, [.ref (S + oSa n 0), .ref (S + oSa n 1), .ref (S + oSt n 0), .ref (S + oSt n 1), .ref (S + oAn n 0), .ref (S + oAn n 1), .int (zi (C.1 o 6))]) := by
  simp only [ccell, ccellF, hk]
theorem c_isOf (hk : ck n o = 6) (ho : o < cF n) : zis (cW S n C ρ) (S + o) 4 = some () := c_zis ho (cc_Of hk)
theorem c_clOf (hk : ck n o = 6) (ho : o < cF n) : zcls (cW S n C ρ) (S + o) = some 4 := c_zcls ho (cc_Of hk)
theorem c_gOf0 (hk : ck n o = 6) (ho : o < cF n) : zgR (cW S n C ρ) (S + o) 4 0 = some (some (S + oSa n 0)) := by
  simp only [zgR, c_zfs ho (cc_Of hk)]
  rfl
theorem c_gOf1 (hk : ck n o = 6) (ho : o < cF n) : zgR (cW S n C ρ) (S + o) 4 1 = some (some (S + oSa n 1)) := by
  simp only [zgR, c_zfs ho (cc_Of hk)]
  rfl
theorem c_gOf2 (hk : ck n o = 6) (ho : o < cF n) : zgR (cW S n C ρ) (S + o) 4 2 = some (some (S + oSt n 0)) := by
  simp only [zgR, c_zfs ho (cc_Of hk)]
  rfl
theorem c_gOf3 (hk : ck n o = 6) (ho : o < cF n) : zgR (cW S n C ρ) (S + o) 4 3 = some (some (S + oSt n 1)) := by
  simp only [zgR, c_zfs ho (cc_Of hk)]
  rfl
theorem c_gOf4 (hk : ck n o = 6) (ho : o < cF n) : zgR (cW S n C ρ) (S + o) 4 4 = some (some (S + oAn n 0)) := by
  simp only [zgR, c_zfs ho (cc_Of hk)]
  rfl
theorem c_gOf5 (hk : ck n o = 6) (ho : o < cF n) : zgR (cW S n C ρ) (S + o) 4 5 = some (some (S + oAn n 1)) := by
  simp only [zgR, c_zfs ho (cc_Of hk)]
  rfl
theorem c_gOf6 (hk : ck n o = 6) (ho : o < cF n) : zgI (cW S n C ρ) (S + o) 4 6 = some (zi (C.1 o 6)) := by
  simp only [zgI, c_zfs ho (cc_Of hk)]
  rfl
theorem c_pOf6 {v : Nat} (hk : ck n o = 6) (ho : o < cF n) : zpF (cW S n C ρ) (S + o) 4 6 (.int (zi v)) = some (cW S n (cSN C o 6 v) ρ) := c_put ho (cc_Of hk) (Nat.le_of_ble_eq_true rfl) (by rw [cc_Of hk, cSN_self]; rfl) (fun i hi => ccell_N hi)
theorem cc_Sb (hk : ck n o = 9) : ccell S n C o = .inr (5, [.int (zi (C.1 o 0)), .int (zi (C.1 o 1)), .int (zi (C.1 o 2)), .ref (S + (o + 1)), .ref (S + (o + 2)), .ref (S + (o + 3)), .ref (S + (o + 4)), va_rf (C.2.2.2 o 7)]) := by
  simp only [ccell, ccellF, hk]
theorem c_isSb (hk : ck n o = 9) (ho : o < cF n) : zis (cW S n C ρ) (S + o) 5 = some () := c_zis ho (cc_Sb hk)
theorem c_clSb (hk : ck n o = 9) (ho : o < cF n) : zcls (cW S n C ρ) (S + o) = some 5 := c_zcls ho (cc_Sb hk)
theorem c_gSb0 (hk : ck n o = 9) (ho : o < cF n) : zgI (cW S n C ρ) (S + o) 5 0 = some (zi (C.1 o 0)) := by
  simp only [zgI, c_zfs ho (cc_Sb hk)]
  rfl
theorem c_pSb0 {v : Nat} (hk : ck n o = 9) (ho : o < cF n) : zpF (cW S n C ρ) (S + o) 5 0 (.int (zi v)) = some (cW S n (cSN C o 0 v) ρ) := c_put ho (cc_Sb hk) (Nat.le_of_ble_eq_true rfl) (by rw [cc_Sb hk, cSN_self]; rfl) (fun i hi => ccell_N hi)
theorem c_gSb1 (hk : ck n o = 9) (ho : o < cF n) : zgI (cW S n C ρ) (S + o) 5 1 = some (zi (C.1 o 1)) := by
  simp only [zgI, c_zfs ho (cc_Sb hk)]
  rfl
theorem c_pSb1 {v : Nat} (hk : ck n o = 9) (ho : o < cF n) : zpF (cW S n C ρ) (S + o) 5 1 (.int (zi v)) = some (cW S n (cSN C o 1 v) ρ) := c_put ho (cc_Sb hk) (Nat.le_of_ble_eq_true rfl) (by rw [cc_Sb hk, cSN_self]; rfl) (fun i hi => ccell_N hi)
theorem c_gSb2 (hk : ck n o = 9) (ho : o < cF n) : zgI (cW S n C ρ) (S + o) 5 2 = some (zi (C.1 o 2)) := by
  simp only [zgI, c_zfs ho (cc_Sb hk)]
  rfl
theorem c_pSb2 {v : Nat} (hk : ck n o = 9) (ho : o < cF n) : zpF (cW S n C ρ) (S + o) 5 2 (.int (zi v)) = some (cW S n (cSN C o 2 v) ρ) := c_put ho (cc_Sb hk) (Nat.le_of_ble_eq_true rfl) (by rw [cc_Sb hk, cSN_self]; rfl) (fun i hi => ccell_N hi)
theorem c_gSb3 (hk : ck n o = 9) (ho : o < cF n) : zgR (cW S n C ρ) (S + o) 5 3 = some (some (S + (o + 1))) := by
  simp only [zgR, c_zfs ho (cc_Sb hk)]
  rfl
theorem c_gSb4 (hk : ck n o = 9) (ho : o < cF n) : zgR (cW S n C ρ) (S + o) 5 4 = some (some (S + (o + 2))) := by
  simp only [zgR, c_zfs ho (cc_Sb hk)]
  rfl
theorem c_gSb5 (hk : ck n o = 9) (ho : o < cF n) : zgR (cW S n C ρ) (S + o) 5 5 = some (some (S + (o + 3))) := by
  simp only [zgR, c_zfs ho (cc_Sb hk)]
  rfl
theorem c_gSb6 (hk : ck n o = 9) (ho : o < cF n) : zgR (cW S n C ρ) (S + o) 5 6 = some (some (S + (o + 4))) := by
  simp only [zgR, c_zfs ho (cc_Sb hk)]
  rfl
theorem c_gSb7 (hk : ck n o = 9) (ho : o < cF n) : zgR (cW S n C ρ) (S + o) 5 7 = some (C.2.2.2 o 7) := by
  simp only [zgR, c_zfs ho (cc_Sb hk)]
  cases hx : C.2.2.2 o 7 <;> simp [hx, va_rf]
theorem c_pSb7 {v : Option Nat} (hk : ck n o = 9) (ho : o < cF n) : zpF (cW S n C ρ) (S + o) 5 7 (va_rf v) = some (cW S n (cSP C o 7 v) ρ) := c_put ho (cc_Sb hk) (Nat.le_of_ble_eq_true rfl) (by rw [cc_Sb hk, cSP_self]; rfl) (fun i hi => ccell_P hi)
theorem cc_No : ccell S n C 0 = .inr (0, [.ref (S + 1), .ref (S + oOf n), .ref (S + oPo n)]) := rfl
theorem c_gNo0 : zgR (cW S n C ρ) S 0 0 = some (some (S + 1)) := by
  have h := c_zfs (S := S) (n := n) (C := C) (ρ := ρ) (o := 0) (by unfold cF; omega) cc_No
  rw [Nat.add_zero] at h
  simp only [zgR, h]
  rfl
theorem c_gNo1 : zgR (cW S n C ρ) S 0 1 = some (some (S + oOf n)) := by
  have h := c_zfs (S := S) (n := n) (C := C) (ρ := ρ) (o := 0) (by unfold cF; omega) cc_No
  rw [Nat.add_zero] at h
  simp only [zgR, h]
  rfl
theorem c_gNo2 : zgR (cW S n C ρ) S 0 2 = some (some (S + oPo n)) := by
  have h := c_zfs (S := S) (n := n) (C := C) (ρ := ρ) (o := 0) (by unfold cF; omega) cc_No
  rw [Nat.add_zero] at h
  simp only [zgR, h]
  rfl
theorem c_isNo : zis (cW S n C ρ) S 0 = some () := by
  have h := c_zis (S := S) (n := n) (C := C) (ρ := ρ) (o := 0) (by unfold cF; omega) cc_No
  rwa [Nat.add_zero] at h
/-! rows of references that never change -/
theorem c_aG {t N : Nat} {f : Nat → Option Nat} {k : Nat} (ho : o < cF n) (h : ccell S n C o = .inl (t, N, .inr (.inr (.inr (.inr f))))) (hk : k < N) (hN : N ≤ 2147483648) : zaR (cW S n C ρ) (S + o) t (zi k) = some (f k) := by
  have h2 := zi_nat (a := k) (by omega)
  simp only [zaR, c_zar ho h, if_neg (zi_in hk hN)]
  rw [h2]
theorem c_lG {t : Nat} {x : vp_A} (ho : o < cF n) (h : ccell S n C o = .inl (t, x)) : zal (cW S n C ρ) (S + o) t = some (zi x.1) := by
  simp only [zal, c_zar ho h]
  rfl
theorem c_aNa {i : Nat} (hi : i < n) (hn : n ≤ 6) : zaR (cW S n C ρ) (S + 1) 6 (zi i) = some (some (S + oBr i)) := by
  rw [c_aG (o := 1) (f := fun i => if i < n then some (S + oBr i) else none) (by unfold cF; omega) (by simp only [ccell, ccellF, ck_Na]) hi (by omega)]
  simp only [if_pos hi]
theorem c_lNa : zal (cW S n C ρ) (S + 1) 6 = some (zi n) := c_lG (o := 1) (x := (n, .inr (.inr (.inr (.inr (fun i => if i < n then some (S + oBr i) else none)))))) (by unfold cF; omega) (by simp only [ccell, ccellF, ck_Na])
theorem c_aBa {i s : Nat} (hi : i < n) (hs : s < 3) : zaR (cW S n C ρ) (S + oBa i) 7 (zi s) = some (some (S + oBs i s)) := by
  rw [c_aG (o := oBa i) (f := fun s => if s < 3 then some (S + (oBa i + 1 + 3 * s)) else none) (lt_Ba hi) (by simp only [ccell, ccellF, ck_Ba hi]) hs (by decide)]
  simp only [if_pos hs]
  rw [show oBa i + 1 + 3 * s = oBs i s from by unfold oBa oBs; omega]
theorem c_aSa0 {s : Nat} (hs : s < 3) : zaR (cW S n C ρ) (S + oSa n 0) 8 (zi s) = some (some (S + oSb n 0 s)) := by
  rw [c_aG (o := oSa n 0) (f := fun s => if s < 3 then some (S + oSb n 0 s) else none) (lt_Sa (by decide)) (by simp only [ccell, ccellF, ck_Sa0]) hs (by decide)]
  simp only [if_pos hs]
theorem c_aSa1 {s : Nat} (hs : s < 3) : zaR (cW S n C ρ) (S + oSa n 1) 8 (zi s) = some (some (S + oSb n 1 s)) := by
  rw [c_aG (o := oSa n 1) (f := fun s => if s < 3 then some (S + oSb n 1 s) else none) (lt_Sa (by decide)) (by simp only [ccell, ccellF, ck_Sa1]) hs (by decide)]
  simp only [if_pos hs]
/-! rows that change -/
theorem cc_N (hk : ck n o = 10) : ccell S n C o = .inl (0, 300, .inl (fun i => zi (C.1 o i))) := by
  simp only [ccell, ccellF, hk]
theorem cc_L (hk : ck n o = 11) : ccell S n C o = .inl (1, 300, .inr (.inl (C.2.2.1 o))) := by
  simp only [ccell, ccellF, hk]
theorem cc_I (hk : ck n o = 12) : ccell S n C o = .inl (0, 300, .inl (C.2.1 o)) := by
  simp only [ccell, ccellF, hk]
theorem cc_B (hk : ck n o = 13) : ccell S n C o = .inl (3, n, .inl (fun i => zi (C.1 o i))) := by
  simp only [ccell, ccellF, hk]
theorem cc_P (hk : ck n o = 14) : ccell S n C o = .inl (9, n, .inr (.inr (.inr (.inr (C.2.2.2 o))))) := by
  simp only [ccell, ccellF, hk]
theorem c_rN {k : Nat} (h : ck n o = 10) (ho : o < cF n) (hk : k < 300) : zaI (cW S n C ρ) (S + o) 0 (zi k) = some (zi (C.1 o k)) := by
  have h2 := zi_nat (a := k) (by omega)
  simp only [zaI, c_zar ho (cc_N h), if_neg (zi_in hk (show 300 ≤ 2147483648 by decide))]
  rw [h2]
theorem c_rL {k : Nat} (h : ck n o = 11) (ho : o < cF n) (hk : k < 300) : zaL (cW S n C ρ) (S + o) 1 (zi k) = some (C.2.2.1 o k) := by
  have h2 := zi_nat (a := k) (by omega)
  simp only [zaL, c_zar ho (cc_L h), if_neg (zi_in hk (show 300 ≤ 2147483648 by decide))]
  rw [h2]
theorem c_rI {k : Nat} (h : ck n o = 12) (ho : o < cF n) (hk : k < 300) : zaI (cW S n C ρ) (S + o) 0 (zi k) = some (C.2.1 o k) := by
  have h2 := zi_nat (a := k) (by omega)
  simp only [zaI, c_zar ho (cc_I h), if_neg (zi_in hk (show 300 ≤ 2147483648 by decide))]
  rw [h2]
theorem c_rB {k : Nat} (h : ck n o = 13) (ho : o < cF n) (hk : k < n) (hn : n ≤ 6) : zaI (cW S n C ρ) (S + o) 3 (zi k) = some (zi (C.1 o k)) := by
  have h2 := zi_nat (a := k) (by omega)
  simp only [zaI, c_zar ho (cc_B h), if_neg (zi_in hk (show n ≤ 2147483648 by omega))]
  rw [h2]
theorem c_lB (h : ck n o = 13) (ho : o < cF n) : zal (cW S n C ρ) (S + o) 3 = some (zi n) := c_lG ho (cc_B h)
theorem c_rP {k : Nat} (h : ck n o = 14) (ho : o < cF n) (hk : k < n) (hn : n ≤ 6) : zaR (cW S n C ρ) (S + o) 9 (zi k) = some (C.2.2.2 o k) := c_aG ho (cc_P h) hk (by omega)
theorem c_nin {k N : Nat} (hk : k < N) (hN : N ≤ 2147483648) (ho : o < cF n) : ¬ ((zi k < 0 ∨ N ≤ (zi k).toNatClampNeg) ∨ zown (cW S n C ρ) (S + o) = false) := by
  rw [cW_own ho]
  intro h
  rcases h with h | h
  · exact zi_in hk hN h
  · cases h
theorem c_arr {t : Nat} {x : vp_A} (ho : o < cF n) (h2 : ccell S n C' o = .inl (t, x)) (h3 : ∀ i, ¬ i = o → ccell S n C' i = ccell S n C i) : zupd (cW S n C ρ) (S + o) (.inl (t, x)) = cW S n C' ρ := by
  refine cW_upd ho (fun i _ => ?_)
  by_cases hi : i = o
  · rw [if_pos hi, hi, h2]
  · rw [if_neg hi, h3 i hi]
theorem c_wN {k v : Nat} (h : ck n o = 10) (ho : o < cF n) (hk : k < 300) : zsI (cW S n C ρ) (S + o) 0 (zi k) (zi v) = some (cW S n (cSN C o k v) ρ) := by
  have h2 := zi_nat (a := k) (by omega)
  simp only [zsI, c_zar ho (cc_N h), if_neg (c_nin hk (show 300 ≤ 2147483648 by decide) ho)]
  rw [h2]
  refine congrArg some (c_arr ho ?_ (fun i hi => ccell_N hi))
  rw [cc_N h, cSN_self]
  refine congrArg (fun f => Sum.inl (0, 300, Sum.inl f)) ?_
  funext b
  simp only [upd]
  split <;> rfl
theorem c_wL {k : Nat} {v : Int64} (h : ck n o = 11) (ho : o < cF n) (hk : k < 300) : zsL (cW S n C ρ) (S + o) 1 (zi k) v = some (cW S n (cSL C o k v) ρ) := by
  have h2 := zi_nat (a := k) (by omega)
  simp only [zsL, c_zar ho (cc_L h), if_neg (c_nin hk (show 300 ≤ 2147483648 by decide) ho)]
  rw [h2]
  refine congrArg some (c_arr ho ?_ (fun i hi => ccell_L hi))
  rw [cc_L h, cSL_self]
  rfl
theorem c_wI {k : Nat} {v : Int32} (h : ck n o = 12) (ho : o < cF n) (hk : k < 300) : zsI (cW S n C ρ) (S + o) 0 (zi k) v = some (cW S n (cSI C o k v) ρ) := by
  have h2 := zi_nat (a := k) (by omega)
  simp only [zsI, c_zar ho (cc_I h), if_neg (c_nin hk (show 300 ≤ 2147483648 by decide) ho)]
  rw [h2]
  refine congrArg some (c_arr ho ?_ (fun i hi => ccell_I hi))
  rw [cc_I h, cSI_self]
  rfl
theorem c_wB {k v : Nat} (h : ck n o = 13) (ho : o < cF n) (hk : k < n) (hn : n ≤ 6) : zsI (cW S n C ρ) (S + o) 3 (zi k) (zi v) = some (cW S n (cSN C o k v) ρ) := by
  have h2 := zi_nat (a := k) (by omega)
  simp only [zsI, c_zar ho (cc_B h), if_neg (c_nin hk (show n ≤ 2147483648 by omega) ho)]
  rw [h2]
  refine congrArg some (c_arr ho ?_ (fun i hi => ccell_N hi))
  rw [cc_B h, cSN_self]
  refine congrArg (fun f => Sum.inl (3, n, Sum.inl f)) ?_
  funext b
  simp only [upd]
  split <;> rfl
theorem c_wP {k : Nat} {v : Option Nat} (h : ck n o = 14) (ho : o < cF n) (hk : k < n) (hn : n ≤ 6) (hr : zokR (cW S n C ρ) 9 v = true) : zsR (cW S n C ρ) (S + o) 9 (zi k) v = some (cW S n (cSP C o k v) ρ) := by
  have h2 := zi_nat (a := k) (by omega)
  have h3 : ¬ (((zi k < 0 ∨ n ≤ (zi k).toNatClampNeg) ∨ zown (cW S n C ρ) (S + o) = false) ∨ zokR (cW S n C ρ) 9 v = false) := by
    intro h
    rcases h with h | h
    · exact c_nin hk (show n ≤ 2147483648 by omega) ho h
    · rw [hr] at h
      cases h
  simp only [zsR, c_zar ho (cc_P h), if_neg h3]
  rw [h2]
  refine congrArg some (c_arr ho ?_ (fun i hi => ccell_P hi))
  rw [cc_P h, cSP_self]
  rfl
/-! cells outside -/
theorem cW_zupd {a : Nat} {y : zY} (h : a < S ∨ S + cF n ≤ a) : zupd (cW S n C ρ) a y = cW S n C (zupd ρ a y) := by
  unfold zupd cW va_up
  refine congrArg (fun f => (ρ.1, ρ.2.1, f)) ?_
  funext b
  by_cases hb : b = a
  · have h1 : ¬ (S ≤ b ∧ b < S + cF n) := by omega
    simp only [if_pos hb, if_neg h1]
  · simp only [if_neg hb]
theorem cW_znew {k : Nat} {y : zY} (h : S + cF n ≤ ρ.1) : znew (cW S n C ρ) k y = cW S n C (znew ρ k y) := by
  unfold znew cW va_up
  refine congrArg (fun f => (ρ.1 + 1, ρ.2.1 + k, f)) ?_
  funext b
  by_cases hb : b = ρ.1
  · have h1 : ¬ (S ≤ b ∧ b < S + cF n) := by omega
    simp only [if_pos hb, if_neg h1]
  · simp only [if_neg hb]
end CW

