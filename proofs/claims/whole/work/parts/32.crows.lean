section CROWS
variable {S n i s q c k v : Nat} {x : Int32} {y : Int64} {r : Option Nat} {C : cS} {ρ : zS}
theorem x_isBr (hi : i < n) : zis (cW S n C ρ) (S + oBr i) 1 = some () := c_isBr (ck_Br hi) (lt_Br hi)
theorem x_clBr (hi : i < n) : zcls (cW S n C ρ) (S + oBr i) = some 1 := c_clBr (ck_Br hi) (lt_Br hi)
theorem x_gBr0 (hi : i < n) : zgI (cW S n C ρ) (S + oBr i) 1 0 = some (zi i) := by
  rw [c_gBr0 (ck_Br hi) (lt_Br hi), o_Br0]
theorem x_gBr1 (hi : i < n) : zgR (cW S n C ρ) (S + oBr i) 1 1 = some (some (S + oBa i)) := by
  rw [c_gBr1 (ck_Br hi) (lt_Br hi), o_Br1]
theorem x_gBr2 (hi : i < n) : zgR (cW S n C ρ) (S + oBr i) 1 2 = some (C.2.2.2 (oBr i) 2) := c_gBr2 (ck_Br hi) (lt_Br hi)
theorem x_pBr2 (hi : i < n) : zpF (cW S n C ρ) (S + oBr i) 1 2 (va_rf r) = some (cW S n (cSP C (oBr i) 2 r) ρ) := c_pBr2 (ck_Br hi) (lt_Br hi)
theorem x_qBr2 (hi : i < n) : zpF (cW S n C ρ) (S + oBr i) 1 2 (.ref k) = some (cW S n (cSP C (oBr i) 2 (some k)) ρ) := c_pBr2 (v := some k) (ck_Br hi) (lt_Br hi)
theorem x_gBr3 (hi : i < n) : zgI (cW S n C ρ) (S + oBr i) 1 3 = some (zi (C.1 (oBr i) 3)) := c_gBr3 (ck_Br hi) (lt_Br hi)
theorem x_pBr3 (hi : i < n) : zpF (cW S n C ρ) (S + oBr i) 1 3 (.int (zi v)) = some (cW S n (cSN C (oBr i) 3 v) ρ) := c_pBr3 (ck_Br hi) (lt_Br hi)
theorem x_gBr4 (hi : i < n) : zgI (cW S n C ρ) (S + oBr i) 1 4 = some (zi (C.1 (oBr i) 4)) := c_gBr4 (ck_Br hi) (lt_Br hi)
theorem x_pBr4 (hi : i < n) : zpF (cW S n C ρ) (S + oBr i) 1 4 (.int (zi v)) = some (cW S n (cSN C (oBr i) 4 v) ρ) := c_pBr4 (ck_Br hi) (lt_Br hi)
theorem x_gBr5 (hi : i < n) : zgR (cW S n C ρ) (S + oBr i) 1 5 = some (C.2.2.2 (oBr i) 5) := c_gBr5 (ck_Br hi) (lt_Br hi)
theorem x_pBr5 (hi : i < n) : zpF (cW S n C ρ) (S + oBr i) 1 5 (va_rf r) = some (cW S n (cSP C (oBr i) 5 r) ρ) := c_pBr5 (ck_Br hi) (lt_Br hi)
theorem x_qBr5 (hi : i < n) : zpF (cW S n C ρ) (S + oBr i) 1 5 (.ref k) = some (cW S n (cSP C (oBr i) 5 (some k)) ρ) := c_pBr5 (v := some k) (ck_Br hi) (lt_Br hi)
theorem x_gBr6 (hi : i < n) : zgI (cW S n C ρ) (S + oBr i) 1 6 = some (zi (C.1 (oBr i) 6)) := c_gBr6 (ck_Br hi) (lt_Br hi)
theorem x_pBr6 (hi : i < n) : zpF (cW S n C ρ) (S + oBr i) 1 6 (.int (zi v)) = some (cW S n (cSN C (oBr i) 6 v) ρ) := c_pBr6 (ck_Br hi) (lt_Br hi)
theorem x_gBr7 (hi : i < n) : zgI (cW S n C ρ) (S + oBr i) 1 7 = some (zi (C.1 (oBr i) 7)) := c_gBr7 (ck_Br hi) (lt_Br hi)
theorem x_pBr7 (hi : i < n) : zpF (cW S n C ρ) (S + oBr i) 1 7 (.int (zi v)) = some (cW S n (cSN C (oBr i) 7 v) ρ) := c_pBr7 (ck_Br hi) (lt_Br hi)
theorem x_gBr8 (hi : i < n) : zgI (cW S n C ρ) (S + oBr i) 1 8 = some (zi (C.1 (oBr i) 8)) := c_gBr8 (ck_Br hi) (lt_Br hi)
theorem x_pBr8 (hi : i < n) : zpF (cW S n C ρ) (S + oBr i) 1 8 (.int (zi v)) = some (cW S n (cSN C (oBr i) 8 v) ρ) := c_pBr8 (ck_Br hi) (lt_Br hi)
theorem x_isBs (hi : i < n) (hs : s < 3) : zis (cW S n C ρ) (S + oBs i s) 2 = some () := c_isBs (ck_Bs hi hs) (lt_Bs hi hs)
theorem x_clBs (hi : i < n) (hs : s < 3) : zcls (cW S n C ρ) (S + oBs i s) = some 2 := c_clBs (ck_Bs hi hs) (lt_Bs hi hs)
theorem x_gBs0 (hi : i < n) (hs : s < 3) : zgR (cW S n C ρ) (S + oBs i s) 2 0 = some (some (S + oLs i s 0)) := by
  rw [c_gBs0 (ck_Bs hi hs) (lt_Bs hi hs), o_Bs1]
theorem x_gBs1 (hi : i < n) (hs : s < 3) : zgR (cW S n C ρ) (S + oBs i s) 2 1 = some (some (S + oLs i s 1)) := by
  rw [c_gBs1 (ck_Bs hi hs) (lt_Bs hi hs), o_Bs2]
theorem x_gBs2 (hi : i < n) (hs : s < 3) : zgI (cW S n C ρ) (S + oBs i s) 2 2 = some (zi (C.1 (oBs i s) 2)) := c_gBs2 (ck_Bs hi hs) (lt_Bs hi hs)
theorem x_pBs2 (hi : i < n) (hs : s < 3) : zpF (cW S n C ρ) (S + oBs i s) 2 2 (.int (zi v)) = some (cW S n (cSN C (oBs i s) 2 v) ρ) := c_pBs2 (ck_Bs hi hs) (lt_Bs hi hs)
theorem x_gBs3 (hi : i < n) (hs : s < 3) : zgI (cW S n C ρ) (S + oBs i s) 2 3 = some (zi (C.1 (oBs i s) 3)) := c_gBs3 (ck_Bs hi hs) (lt_Bs hi hs)
theorem x_pBs3 (hi : i < n) (hs : s < 3) : zpF (cW S n C ρ) (S + oBs i s) 2 3 (.int (zi v)) = some (cW S n (cSN C (oBs i s) 3 v) ρ) := c_pBs3 (ck_Bs hi hs) (lt_Bs hi hs)
theorem x_gBs4 (hi : i < n) (hs : s < 3) : zgI (cW S n C ρ) (S + oBs i s) 2 4 = some (zi (C.1 (oBs i s) 4)) := c_gBs4 (ck_Bs hi hs) (lt_Bs hi hs)
theorem x_pBs4 (hi : i < n) (hs : s < 3) : zpF (cW S n C ρ) (S + oBs i s) 2 4 (.int (zi v)) = some (cW S n (cSN C (oBs i s) 4 v) ρ) := c_pBs4 (ck_Bs hi hs) (lt_Bs hi hs)
theorem x_gBs5 (hi : i < n) (hs : s < 3) : zgI (cW S n C ρ) (S + oBs i s) 2 5 = some (zi (C.1 (oBs i s) 5)) := c_gBs5 (ck_Bs hi hs) (lt_Bs hi hs)
theorem x_pBs5 (hi : i < n) (hs : s < 3) : zpF (cW S n C ρ) (S + oBs i s) 2 5 (.int (zi v)) = some (cW S n (cSN C (oBs i s) 5 v) ρ) := c_pBs5 (ck_Bs hi hs) (lt_Bs hi hs)
theorem x_gBs6 (hi : i < n) (hs : s < 3) : zgI (cW S n C ρ) (S + oBs i s) 2 6 = some (zi (C.1 (oBs i s) 6)) := c_gBs6 (ck_Bs hi hs) (lt_Bs hi hs)
theorem x_pBs6 (hi : i < n) (hs : s < 3) : zpF (cW S n C ρ) (S + oBs i s) 2 6 (.int (zi v)) = some (cW S n (cSN C (oBs i s) 6 v) ρ) := c_pBs6 (ck_Bs hi hs) (lt_Bs hi hs)
theorem x_gBs7 (hi : i < n) (hs : s < 3) : zgI (cW S n C ρ) (S + oBs i s) 2 7 = some (zi (C.1 (oBs i s) 7)) := c_gBs7 (ck_Bs hi hs) (lt_Bs hi hs)
theorem x_pBs7 (hi : i < n) (hs : s < 3) : zpF (cW S n C ρ) (S + oBs i s) 2 7 (.int (zi v)) = some (cW S n (cSN C (oBs i s) 7 v) ρ) := c_pBs7 (ck_Bs hi hs) (lt_Bs hi hs)
theorem x_gBs8 (hi : i < n) (hs : s < 3) : zgI (cW S n C ρ) (S + oBs i s) 2 8 = some (zi (C.1 (oBs i s) 8)) := c_gBs8 (ck_Bs hi hs) (lt_Bs hi hs)
theorem x_pBs8 (hi : i < n) (hs : s < 3) : zpF (cW S n C ρ) (S + oBs i s) 2 8 (.int (zi v)) = some (cW S n (cSN C (oBs i s) 8 v) ρ) := c_pBs8 (ck_Bs hi hs) (lt_Bs hi hs)
theorem x_gBs9 (hi : i < n) (hs : s < 3) : zgI (cW S n C ρ) (S + oBs i s) 2 9 = some (zi (C.1 (oBs i s) 9)) := c_gBs9 (ck_Bs hi hs) (lt_Bs hi hs)
theorem x_pBs9 (hi : i < n) (hs : s < 3) : zpF (cW S n C ρ) (S + oBs i s) 2 9 (.int (zi v)) = some (cW S n (cSN C (oBs i s) 9 v) ρ) := c_pBs9 (ck_Bs hi hs) (lt_Bs hi hs)
theorem x_isLs (hi : i < n) (hs : s < 3) (hq : q < 2) : zis (cW S n C ρ) (S + oLs i s q) 3 = some () := c_isAl (ck_Ls hi hs hq) (lt_Ls hi hs hq)
theorem x_clLs (hi : i < n) (hs : s < 3) (hq : q < 2) : zcls (cW S n C ρ) (S + oLs i s q) = some 3 := c_clAl (ck_Ls hi hs hq) (lt_Ls hi hs hq)
theorem x_gLs0 (hi : i < n) (hs : s < 3) (hq : q < 2) : zgR (cW S n C ρ) (S + oLs i s q) 3 0 = some (C.2.2.2 (oLs i s q) 0) := c_gAl0 (ck_Ls hi hs hq) (lt_Ls hi hs hq)
theorem x_pLs0 (hi : i < n) (hs : s < 3) (hq : q < 2) : zpF (cW S n C ρ) (S + oLs i s q) 3 0 (va_rf r) = some (cW S n (cSP C (oLs i s q) 0 r) ρ) := c_pAl0 (ck_Ls hi hs hq) (lt_Ls hi hs hq)
theorem x_qLs0 (hi : i < n) (hs : s < 3) (hq : q < 2) : zpF (cW S n C ρ) (S + oLs i s q) 3 0 (.ref k) = some (cW S n (cSP C (oLs i s q) 0 (some k)) ρ) := c_pAl0 (v := some k) (ck_Ls hi hs hq) (lt_Ls hi hs hq)
theorem x_gLs1 (hi : i < n) (hs : s < 3) (hq : q < 2) : zgI (cW S n C ρ) (S + oLs i s q) 3 1 = some (zi (C.1 (oLs i s q) 1)) := c_gAl1 (ck_Ls hi hs hq) (lt_Ls hi hs hq)
theorem x_pLs1 (hi : i < n) (hs : s < 3) (hq : q < 2) : zpF (cW S n C ρ) (S + oLs i s q) 3 1 (.int (zi v)) = some (cW S n (cSN C (oLs i s q) 1 v) ρ) := c_pAl1 (ck_Ls hi hs hq) (lt_Ls hi hs hq)
theorem x_gLs2 (hi : i < n) (hs : s < 3) (hq : q < 2) : zgI (cW S n C ρ) (S + oLs i s q) 3 2 = some (C.2.1 (oLs i s q) 2) := c_gAl2 (ck_Ls hi hs hq) (lt_Ls hi hs hq)
theorem x_pLs2 (hi : i < n) (hs : s < 3) (hq : q < 2) : zpF (cW S n C ρ) (S + oLs i s q) 3 2 (.int x) = some (cW S n (cSI C (oLs i s q) 2 x) ρ) := c_pAl2 (ck_Ls hi hs hq) (lt_Ls hi hs hq)
theorem x_isPo  : zis (cW S n C ρ) (S + oPo n) 3 = some () := c_isAl ck_Po lt_Po
theorem x_clPo  : zcls (cW S n C ρ) (S + oPo n) = some 3 := c_clAl ck_Po lt_Po
theorem x_gPo0  : zgR (cW S n C ρ) (S + oPo n) 3 0 = some (C.2.2.2 (oPo n) 0) := c_gAl0 ck_Po lt_Po
theorem x_pPo0  : zpF (cW S n C ρ) (S + oPo n) 3 0 (va_rf r) = some (cW S n (cSP C (oPo n) 0 r) ρ) := c_pAl0 ck_Po lt_Po
theorem x_qPo0  : zpF (cW S n C ρ) (S + oPo n) 3 0 (.ref k) = some (cW S n (cSP C (oPo n) 0 (some k)) ρ) := c_pAl0 (v := some k) ck_Po lt_Po
theorem x_gPo1  : zgI (cW S n C ρ) (S + oPo n) 3 1 = some (zi (C.1 (oPo n) 1)) := c_gAl1 ck_Po lt_Po
theorem x_pPo1  : zpF (cW S n C ρ) (S + oPo n) 3 1 (.int (zi v)) = some (cW S n (cSN C (oPo n) 1 v) ρ) := c_pAl1 ck_Po lt_Po
theorem x_gPo2  : zgI (cW S n C ρ) (S + oPo n) 3 2 = some (C.2.1 (oPo n) 2) := c_gAl2 ck_Po lt_Po
theorem x_pPo2  : zpF (cW S n C ρ) (S + oPo n) 3 2 (.int x) = some (cW S n (cSI C (oPo n) 2 x) ρ) := c_pAl2 ck_Po lt_Po
theorem x_isOf  : zis (cW S n C ρ) (S + oOf n) 4 = some () := c_isOf ck_Of lt_Of
theorem x_clOf  : zcls (cW S n C ρ) (S + oOf n) = some 4 := c_clOf ck_Of lt_Of
theorem x_gOf0  : zgR (cW S n C ρ) (S + oOf n) 4 0 = some (some (S + oSa n 0)) := c_gOf0 ck_Of lt_Of
theorem x_gOf1  : zgR (cW S n C ρ) (S + oOf n) 4 1 = some (some (S + oSa n 1)) := c_gOf1 ck_Of lt_Of
theorem x_gOf2  : zgR (cW S n C ρ) (S + oOf n) 4 2 = some (some (S + oSt n 0)) := c_gOf2 ck_Of lt_Of
theorem x_gOf3  : zgR (cW S n C ρ) (S + oOf n) 4 3 = some (some (S + oSt n 1)) := c_gOf3 ck_Of lt_Of
theorem x_gOf4  : zgR (cW S n C ρ) (S + oOf n) 4 4 = some (some (S + oAn n 0)) := c_gOf4 ck_Of lt_Of
theorem x_gOf5  : zgR (cW S n C ρ) (S + oOf n) 4 5 = some (some (S + oAn n 1)) := c_gOf5 ck_Of lt_Of
theorem x_gOf6  : zgI (cW S n C ρ) (S + oOf n) 4 6 = some (zi (C.1 (oOf n) 6)) := c_gOf6 ck_Of lt_Of
theorem x_pOf6  : zpF (cW S n C ρ) (S + oOf n) 4 6 (.int (zi v)) = some (cW S n (cSN C (oOf n) 6 v) ρ) := c_pOf6 ck_Of lt_Of
theorem x_isSb (hc : c < 2) (hs : s < 3) : zis (cW S n C ρ) (S + oSb n c s) 5 = some () := c_isSb (ck_Sb hc hs) (lt_Sb hc hs)
theorem x_clSb (hc : c < 2) (hs : s < 3) : zcls (cW S n C ρ) (S + oSb n c s) = some 5 := c_clSb (ck_Sb hc hs) (lt_Sb hc hs)
theorem x_gSb0 (hc : c < 2) (hs : s < 3) : zgI (cW S n C ρ) (S + oSb n c s) 5 0 = some (zi (C.1 (oSb n c s) 0)) := c_gSb0 (ck_Sb hc hs) (lt_Sb hc hs)
theorem x_pSb0 (hc : c < 2) (hs : s < 3) : zpF (cW S n C ρ) (S + oSb n c s) 5 0 (.int (zi v)) = some (cW S n (cSN C (oSb n c s) 0 v) ρ) := c_pSb0 (ck_Sb hc hs) (lt_Sb hc hs)
theorem x_gSb1 (hc : c < 2) (hs : s < 3) : zgI (cW S n C ρ) (S + oSb n c s) 5 1 = some (zi (C.1 (oSb n c s) 1)) := c_gSb1 (ck_Sb hc hs) (lt_Sb hc hs)
theorem x_pSb1 (hc : c < 2) (hs : s < 3) : zpF (cW S n C ρ) (S + oSb n c s) 5 1 (.int (zi v)) = some (cW S n (cSN C (oSb n c s) 1 v) ρ) := c_pSb1 (ck_Sb hc hs) (lt_Sb hc hs)
theorem x_gSb2 (hc : c < 2) (hs : s < 3) : zgI (cW S n C ρ) (S + oSb n c s) 5 2 = some (zi (C.1 (oSb n c s) 2)) := c_gSb2 (ck_Sb hc hs) (lt_Sb hc hs)
theorem x_pSb2 (hc : c < 2) (hs : s < 3) : zpF (cW S n C ρ) (S + oSb n c s) 5 2 (.int (zi v)) = some (cW S n (cSN C (oSb n c s) 2 v) ρ) := c_pSb2 (ck_Sb hc hs) (lt_Sb hc hs)
theorem x_gSb3 (hc : c < 2) (hs : s < 3) : zgR (cW S n C ρ) (S + oSb n c s) 5 3 = some (some (S + oHo n c s)) := by
  rw [c_gSb3 (ck_Sb hc hs) (lt_Sb hc hs), o_Sb1]
theorem x_gSb4 (hc : c < 2) (hs : s < 3) : zgR (cW S n C ρ) (S + oSb n c s) 5 4 = some (some (S + oFa n c s)) := by
  rw [c_gSb4 (ck_Sb hc hs) (lt_Sb hc hs), o_Sb2]
theorem x_gSb5 (hc : c < 2) (hs : s < 3) : zgR (cW S n C ρ) (S + oSb n c s) 5 5 = some (some (S + oCe n c s)) := by
  rw [c_gSb5 (ck_Sb hc hs) (lt_Sb hc hs), o_Sb3]
theorem x_gSb6 (hc : c < 2) (hs : s < 3) : zgR (cW S n C ρ) (S + oSb n c s) 5 6 = some (some (S + oDe n c s)) := by
  rw [c_gSb6 (ck_Sb hc hs) (lt_Sb hc hs), o_Sb4]
theorem x_gSb7 (hc : c < 2) (hs : s < 3) : zgR (cW S n C ρ) (S + oSb n c s) 5 7 = some (C.2.2.2 (oSb n c s) 7) := c_gSb7 (ck_Sb hc hs) (lt_Sb hc hs)
theorem x_pSb7 (hc : c < 2) (hs : s < 3) : zpF (cW S n C ρ) (S + oSb n c s) 5 7 (va_rf r) = some (cW S n (cSP C (oSb n c s) 7 r) ρ) := c_pSb7 (ck_Sb hc hs) (lt_Sb hc hs)
theorem x_qSb7 (hc : c < 2) (hs : s < 3) : zpF (cW S n C ρ) (S + oSb n c s) 5 7 (.ref k) = some (cW S n (cSP C (oSb n c s) 7 (some k)) ρ) := c_pSb7 (v := some k) (ck_Sb hc hs) (lt_Sb hc hs)
theorem x_rHo (hc : c < 2) (hs : s < 3) (hk : k < 300) : zaI (cW S n C ρ) (S + oHo n c s) 0 (zi k) = some (zi (C.1 (oHo n c s) k)) := c_rN (ck_Ho hc hs) (lt_Ho hc hs) hk
theorem x_wHo (hc : c < 2) (hs : s < 3) (hk : k < 300) : zsI (cW S n C ρ) (S + oHo n c s) 0 (zi k) (zi v) = some (cW S n (cSN C (oHo n c s) k v) ρ) := c_wN (ck_Ho hc hs) (lt_Ho hc hs) hk
theorem x_rFa (hc : c < 2) (hs : s < 3) (hk : k < 300) : zaI (cW S n C ρ) (S + oFa n c s) 0 (zi k) = some (zi (C.1 (oFa n c s) k)) := c_rN (ck_Fa hc hs) (lt_Fa hc hs) hk
theorem x_wFa (hc : c < 2) (hs : s < 3) (hk : k < 300) : zsI (cW S n C ρ) (S + oFa n c s) 0 (zi k) (zi v) = some (cW S n (cSN C (oFa n c s) k v) ρ) := c_wN (ck_Fa hc hs) (lt_Fa hc hs) hk
theorem x_rCe (hc : c < 2) (hs : s < 3) (hk : k < 300) : zaL (cW S n C ρ) (S + oCe n c s) 1 (zi k) = some (C.2.2.1 (oCe n c s) k) := c_rL (ck_Ce hc hs) (lt_Ce hc hs) hk
theorem x_wCe (hc : c < 2) (hs : s < 3) (hk : k < 300) : zsL (cW S n C ρ) (S + oCe n c s) 1 (zi k) y = some (cW S n (cSL C (oCe n c s) k y) ρ) := c_wL (ck_Ce hc hs) (lt_Ce hc hs) hk
theorem x_rDe (hc : c < 2) (hs : s < 3) (hk : k < 300) : zaI (cW S n C ρ) (S + oDe n c s) 0 (zi k) = some (C.2.1 (oDe n c s) k) := c_rI (ck_De hc hs) (lt_De hc hs) hk
theorem x_wDe (hc : c < 2) (hs : s < 3) (hk : k < 300) : zsI (cW S n C ρ) (S + oDe n c s) 0 (zi k) x = some (cW S n (cSI C (oDe n c s) k x) ρ) := c_wI (ck_De hc hs) (lt_De hc hs) hk
theorem x_rSt (hc : c < 2) (hk : k < n) (hn : n ≤ 6) : zaI (cW S n C ρ) (S + oSt n c) 3 (zi k) = some (zi (C.1 (oSt n c) k)) := c_rB (ck_St hc) (lt_St hc) hk hn
theorem x_wSt (hc : c < 2) (hk : k < n) (hn : n ≤ 6) : zsI (cW S n C ρ) (S + oSt n c) 3 (zi k) (zi v) = some (cW S n (cSN C (oSt n c) k v) ρ) := c_wB (ck_St hc) (lt_St hc) hk hn
theorem x_lSt (hc : c < 2) : zal (cW S n C ρ) (S + oSt n c) 3 = some (zi n) := c_lB (ck_St hc) (lt_St hc)
theorem x_rAn (hc : c < 2) (hk : k < n) (hn : n ≤ 6) : zaR (cW S n C ρ) (S + oAn n c) 9 (zi k) = some (C.2.2.2 (oAn n c) k) := c_rP (ck_An hc) (lt_An hc) hk hn
end CROWS
theorem zi_lt0 {a : Nat} (h : a < 2147483648) : (zi a < 0) = False := by
  rw [zi_l0, zi_lt h (by decide)]
  exact propext ⟨fun h => Nat.not_lt_zero _ h, fun h => h.elim⟩
theorem zi_ge0 {a : Nat} (h : a < 2147483648) : (0 ≤ zi a) = True := by
  rw [zi_l0, zi_le (by decide) h]
  exact propext ⟨fun _ => trivial, fun _ => Nat.zero_le _⟩
theorem zi_01 {a : Nat} (h : a < 2) : (zi a = 0 ∨ zi a = 1) = True := by
  have h2 : a = 0 ∨ a = 1 := by omega
  rcases h2 with rfl | rfl
  · exact propext ⟨fun _ => trivial, fun _ => Or.inl rfl⟩
  · exact propext ⟨fun _ => trivial, fun _ => Or.inr rfl⟩
