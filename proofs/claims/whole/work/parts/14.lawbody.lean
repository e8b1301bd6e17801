def s_Law_law_1387 (g : zG) (k33 : Option Nat → Option Nat → Option Nat → Option Nat → Int32 → zS → Option (Int32 × zS)) (v0 : Option Nat) (v1 : Option Nat) (v2 : Option Nat) (v3 : Option Nat) (v4 : Int32) (σ : zS) : Option (Int32 × zS) := k33 (v0) (v1) (v2) (v3) (v4 + 6) σ
def s_Law_law_228 (g : zG) (k33 : Option Nat → Option Nat → Option Nat → Option Nat → Int32 → zS → Option (Int32 × zS)) (v0 : Option Nat) (v1 : Option Nat) (v2 : Option Nat) (v3 : Option Nat) (v4 : Int32) (v5 : Int32) (v6 : Int32) (σ : zS) : Option (Int32 × zS) := s_Law_law_1387 g k33 (v0) (v1) (v2) (v3) (v4) σ
def s_Law_law_222 (g : zG) (k33 : Option Nat → Option Nat → Option Nat → Option Nat → Int32 → zS → Option (Int32 × zS)) (v0 : Option Nat) (v1 : Option Nat) (v2 : Option Nat) (v3 : Option Nat) (v4 : Int32) (v5 : Int32) (v6 : Int32) (w0 : Int64) (w1 : Int64) (σ : zS) : Option (Int32 × zS) := if (lg_cmp w1 w0) = 0 then s_Law_law_228 g k33 (v0) (v1) (v2) (v3) (v4) (v5) (v6) σ else some (0, σ)
def s_Law_law_156 (g : zG) (k33 : Option Nat → Option Nat → Option Nat → Option Nat → Int32 → zS → Option (Int32 × zS)) (v0 : Option Nat) (v1 : Option Nat) (v2 : Option Nat) (v3 : Option Nat) (v4 : Int32) (σ : zS) : Option (Int32 × zS) := (v0).bind fun a1 => (zaI σ a1 0 (v4 + 1)).bind fun x2 => (zaI σ a1 0 (v4 + 2)).bind fun x4 => (s_Law_series g v1 x2 x4 v3 σ).bind fun (x8, σ6) => (zaI σ6 a1 0 (v4 + 1)).bind fun x9 => (zaI σ6 a1 0 (v4 + 2)).bind fun x11 => (v2).bind fun a13 => (zis σ6 a13 14).bind fun _ => (s_Mo_series g a13 x9 x11 σ6).bind fun (x16, σ14) => (zis σ14 a13 14).bind fun _ => (s_Mo_thrown g a13  σ14).bind fun (x19, σ17) => if x19 = x8 then if x8 = 0 then (v3).bind fun a22 => (zaL σ17 a22 1 (0)).bind fun x23 => if x16 = 0 then s_Law_law_222 g k33 (some (a1)) (v1) (some (a13)) (some (a22)) (v4) (x8) (x16) (0) (x23) σ17 else s_Law_law_222 g k33 (some (a1)) (v1) (some (a13)) (some (a22)) (v4) (x8) (x16) (1) (x23) σ17 else s_Law_law_228 g k33 (some (a1)) (v1) (some (a13)) (v3) (v4) (x8) (x16) σ17 else some (0, σ17)
def s_Law_law_308 (g : zG) (k33 : Option Nat → Option Nat → Option Nat → Option Nat → Int32 → zS → Option (Int32 × zS)) (v0 : Option Nat) (v1 : Option Nat) (v2 : Option Nat) (v3 : Option Nat) (v4 : Int32) (v5 : Int32) (v6 : Int32) (σ : zS) : Option (Int32 × zS) := s_Law_law_1387 g k33 (v0) (v1) (v2) (v3) (v4) σ
def s_Law_law_231 (g : zG) (k33 : Option Nat → Option Nat → Option Nat → Option Nat → Int32 → zS → Option (Int32 × zS)) (v0 : Option Nat) (v1 : Option Nat) (v2 : Option Nat) (v3 : Option Nat) (v4 : Int32) (σ : zS) : Option (Int32 × zS) := (v0).bind fun a1 => (zaI σ a1 0 (v4 + 1)).bind fun x2 => (zaI σ a1 0 (v4 + 2)).bind fun x4 => (zaI σ a1 0 (v4 + 3)).bind fun x6 => (s_Law_request g v1 x2 x4 x6 v3 σ).bind fun (x10, σ8) => (zaI σ8 a1 0 (v4 + 1)).bind fun x11 => (zaI σ8 a1 0 (v4 + 2)).bind fun x13 => (zaI σ8 a1 0 (v4 + 3)).bind fun x15 => (v2).bind fun a17 => (zis σ8 a17 14).bind fun _ => (s_Mo_request g a17 x11 x13 x15 σ8).bind fun (x20, σ18) => (zis σ18 a17 14).bind fun _ => (s_Mo_thrown g a17  σ18).bind fun (x23, σ21) => if x23 = x10 then if x10 = 0 then (v3).bind fun a26 => (zaL σ21 a26 1 (0)).bind fun x27 => if (lg_cmp x27 (x20.toInt64)) = 0 then s_Law_law_308 g k33 (some (a1)) (v1) (some (a17)) (some (a26)) (v4) (x10) (x20) σ21 else some (0, σ21) else s_Law_law_308 g k33 (some (a1)) (v1) (some (a17)) (v3) (v4) (x10) (x20) σ21 else some (0, σ21)
def s_Law_law_376 (g : zG) (k33 : Option Nat → Option Nat → Option Nat → Option Nat → Int32 → zS → Option (Int32 × zS)) (v0 : Option Nat) (v1 : Option Nat) (v2 : Option Nat) (v3 : Option Nat) (v4 : Int32) (v5 : Int32) (v6 : Int32) (σ : zS) : Option (Int32 × zS) := s_Law_law_1387 g k33 (v0) (v1) (v2) (v3) (v4) σ
def s_Law_law_311 (g : zG) (k33 : Option Nat → Option Nat → Option Nat → Option Nat → Int32 → zS → Option (Int32 × zS)) (v0 : Option Nat) (v1 : Option Nat) (v2 : Option Nat) (v3 : Option Nat) (v4 : Int32) (σ : zS) : Option (Int32 × zS) := (v0).bind fun a1 => (zaI σ a1 0 (v4 + 1)).bind fun x2 => (zaI σ a1 0 (v4 + 2)).bind fun x4 => (s_Law_report g v1 x2 x4 v3 σ).bind fun (x8, σ6) => (zaI σ6 a1 0 (v4 + 1)).bind fun x9 => (zaI σ6 a1 0 (v4 + 2)).bind fun x11 => (v2).bind fun a13 => (zis σ6 a13 14).bind fun _ => (s_Mo_report g a13 x9 x11 σ6).bind fun (x16, σ14) => (zis σ14 a13 14).bind fun _ => (s_Mo_thrown g a13  σ14).bind fun (x19, σ17) => if x19 = x8 then if x8 = 0 then (v3).bind fun a22 => (zaL σ17 a22 1 (0)).bind fun x23 => if (lg_cmp x23 (x16.toInt64)) = 0 then s_Law_law_376 g k33 (some (a1)) (v1) (some (a13)) (some (a22)) (v4) (x8) (x16) σ17 else some (0, σ17) else s_Law_law_376 g k33 (some (a1)) (v1) (some (a13)) (v3) (v4) (x8) (x16) σ17 else some (0, σ17)
def s_Law_law_379 (g : zG) (k33 : Option Nat → Option Nat → Option Nat → Option Nat → Int32 → zS → Option (Int32 × zS)) (v0 : Option Nat) (v1 : Option Nat) (v2 : Option Nat) (v3 : Option Nat) (v4 : Int32) (σ : zS) : Option (Int32 × zS) := (v0).bind fun a1 => (zaI σ a1 0 (v4 + 1)).bind fun x2 => (v1).bind fun a4 => (zis σ a4 0).bind fun _ => (s_No_again g a4 x2 σ).bind fun (x7, σ5) => (zaI σ5 a1 0 (v4 + 1)).bind fun x8 => (v2).bind fun a10 => (zis σ5 a10 14).bind fun _ => (s_Mo_again g a10 x8 σ5).bind fun (x13, σ11) => if x7 = x13 then s_Law_law_1387 g k33 (some (a1)) (some (a4)) (some (a10)) (v3) (v4) σ11 else some (0, σ11)
def s_Law_law_525 (g : zG) (k33 : Option Nat → Option Nat → Option Nat → Option Nat → Int32 → zS → Option (Int32 × zS)) (v0 : Option Nat) (v1 : Option Nat) (v2 : Option Nat) (v3 : Option Nat) (v4 : Int32) (v5 : Int32) (v6 : Int32) (σ : zS) : Option (Int32 × zS) := s_Law_law_1387 g k33 (v0) (v1) (v2) (v3) (v4) σ
def s_Law_law_404 (g : zG) (k33 : Option Nat → Option Nat → Option Nat → Option Nat → Int32 → zS → Option (Int32 × zS)) (v0 : Option Nat) (v1 : Option Nat) (v2 : Option Nat) (v3 : Option Nat) (v4 : Int32) (σ : zS) : Option (Int32 × zS) := (v0).bind fun a1 => (zaI σ a1 0 (v4 + 1)).bind fun x2 => (zaI σ a1 0 (v4 + 2)).bind fun x4 => (zaI σ a1 0 (v4 + 3)).bind fun x6 => (zaI σ a1 0 (v4 + 4)).bind fun x8 => (zaI σ a1 0 (v4 + 5)).bind fun x10 => (s_Law_invoice g v1 x2 x4 (((x6.toInt64) <<< ((32 : Int32).toInt64 &&& 63)) ||| ((x8.toInt64) &&& 4294967295)) x10 v3 σ).bind fun (x14, σ12) => (zaI σ12 a1 0 (v4 + 1)).bind fun x15 => (zaI σ12 a1 0 (v4 + 2)).bind fun x17 => (zaI σ12 a1 0 (v4 + 3)).bind fun x19 => (zaI σ12 a1 0 (v4 + 4)).bind fun x21 => (zaI σ12 a1 0 (v4 + 5)).bind fun x23 => (v2).bind fun a25 => (zis σ12 a25 14).bind fun _ => (s_Mo_invoice g a25 x15 x17 (((x19.toInt64) <<< ((32 : Int32).toInt64 &&& 63)) ||| ((x21.toInt64) &&& 4294967295)) x23 σ12).bind fun (x28, σ26) => (zis σ26 a25 14).bind fun _ => (s_Mo_thrown g a25  σ26).bind fun (x31, σ29) => if x31 = x14 then if x14 = 0 then (v3).bind fun a34 => (zaL σ29 a34 1 (0)).bind fun x35 => if (lg_cmp x35 (x28.toInt64)) = 0 then s_Law_law_525 g k33 (some (a1)) (v1) (some (a25)) (some (a34)) (v4) (x14) (x28) σ29 else some (0, σ29) else s_Law_law_525 g k33 (some (a1)) (v1) (some (a25)) (v3) (v4) (x14) (x28) σ29 else some (0, σ29)
def s_Law_law_605 (g : zG) (k33 : Option Nat → Option Nat → Option Nat → Option Nat → Int32 → zS → Option (Int32 × zS)) (v0 : Option Nat) (v1 : Option Nat) (v2 : Option Nat) (v3 : Option Nat) (v4 : Int32) (v5 : Int32) (v6 : Int32) (σ : zS) : Option (Int32 × zS) := s_Law_law_1387 g k33 (v0) (v1) (v2) (v3) (v4) σ
def s_Law_law_528 (g : zG) (k33 : Option Nat → Option Nat → Option Nat → Option Nat → Int32 → zS → Option (Int32 × zS)) (v0 : Option Nat) (v1 : Option Nat) (v2 : Option Nat) (v3 : Option Nat) (v4 : Int32) (σ : zS) : Option (Int32 × zS) := (v0).bind fun a1 => (zaI σ a1 0 (v4 + 1)).bind fun x2 => (zaI σ a1 0 (v4 + 2)).bind fun x4 => (zaI σ a1 0 (v4 + 3)).bind fun x6 => (s_Law_voidNext g v1 x2 x4 x6 v3 σ).bind fun (x10, σ8) => (zaI σ8 a1 0 (v4 + 1)).bind fun x11 => (zaI σ8 a1 0 (v4 + 2)).bind fun x13 => (zaI σ8 a1 0 (v4 + 3)).bind fun x15 => (v2).bind fun a17 => (zis σ8 a17 14).bind fun _ => (s_Mo_voidNext g a17 x11 x13 x15 σ8).bind fun (x20, σ18) => (zis σ18 a17 14).bind fun _ => (s_Mo_thrown g a17  σ18).bind fun (x23, σ21) => if x23 = x10 then if x10 = 0 then (v3).bind fun a26 => (zaL σ21 a26 1 (0)).bind fun x27 => if (lg_cmp x27 (x20.toInt64)) = 0 then s_Law_law_605 g k33 (some (a1)) (v1) (some (a17)) (some (a26)) (v4) (x10) (x20) σ21 else some (0, σ21) else s_Law_law_605 g k33 (some (a1)) (v1) (some (a17)) (v3) (v4) (x10) (x20) σ21 else some (0, σ21)
def s_Law_law_704 (g : zG) (k33 : Option Nat → Option Nat → Option Nat → Option Nat → Int32 → zS → Option (Int32 × zS)) (v0 : Option Nat) (v1 : Option Nat) (v2 : Option Nat) (v3 : Option Nat) (v4 : Int32) (v5 : Int32) (v6 : Int32) (σ : zS) : Option (Int32 × zS) := s_Law_law_1387 g k33 (v0) (v1) (v2) (v3) (v4) σ
def s_Law_law_698 (g : zG) (k33 : Option Nat → Option Nat → Option Nat → Option Nat → Int32 → zS → Option (Int32 × zS)) (v0 : Option Nat) (v1 : Option Nat) (v2 : Option Nat) (v3 : Option Nat) (v4 : Int32) (v5 : Int32) (v6 : Int32) (w0 : Int64) (w1 : Int64) (σ : zS) : Option (Int32 × zS) := if (lg_cmp w1 w0) = 0 then s_Law_law_704 g k33 (v0) (v1) (v2) (v3) (v4) (v5) (v6) σ else some (0, σ)
def s_Law_law_608 (g : zG) (k33 : Option Nat → Option Nat → Option Nat → Option Nat → Int32 → zS → Option (Int32 × zS)) (v0 : Option Nat) (v1 : Option Nat) (v2 : Option Nat) (v3 : Option Nat) (v4 : Int32) (σ : zS) : Option (Int32 × zS) := (v0).bind fun a1 => (zaI σ a1 0 (v4 + 1)).bind fun x2 => (zaI σ a1 0 (v4 + 2)).bind fun x4 => (zaI σ a1 0 (v4 + 3)).bind fun x6 => (zaI σ a1 0 (v4 + 4)).bind fun x8 => (s_Law_voidUsed g v1 x2 x4 x6 x8 v3 σ).bind fun (x12, σ10) => (zaI σ10 a1 0 (v4 + 1)).bind fun x13 => (zaI σ10 a1 0 (v4 + 2)).bind fun x15 => (zaI σ10 a1 0 (v4 + 3)).bind fun x17 => (zaI σ10 a1 0 (v4 + 4)).bind fun x19 => (v2).bind fun a21 => (zis σ10 a21 14).bind fun _ => (s_Mo_voidUsed g a21 x13 x15 x17 x19 σ10).bind fun (x24, σ22) => (zis σ22 a21 14).bind fun _ => (s_Mo_thrown g a21  σ22).bind fun (x27, σ25) => if x27 = x12 then if x12 = 0 then (v3).bind fun a30 => (zaL σ25 a30 1 (0)).bind fun x31 => if x24 = 0 then s_Law_law_698 g k33 (some (a1)) (v1) (some (a21)) (some (a30)) (v4) (x12) (x24) (0) (x31) σ25 else s_Law_law_698 g k33 (some (a1)) (v1) (some (a21)) (some (a30)) (v4) (x12) (x24) (1) (x31) σ25 else s_Law_law_704 g k33 (some (a1)) (v1) (some (a21)) (v3) (v4) (x12) (x24) σ25 else some (0, σ25)
def s_Law_law_760 (g : zG) (k33 : Option Nat → Option Nat → Option Nat → Option Nat → Int32 → zS → Option (Int32 × zS)) (v0 : Option Nat) (v1 : Option Nat) (v2 : Option Nat) (v3 : Option Nat) (v4 : Int32) (v5 : Int32) (v6 : Int32) (σ : zS) : Option (Int32 × zS) := s_Law_law_1387 g k33 (v0) (v1) (v2) (v3) (v4) σ
def s_Law_law_707 (g : zG) (k33 : Option Nat → Option Nat → Option Nat → Option Nat → Int32 → zS → Option (Int32 × zS)) (v0 : Option Nat) (v1 : Option Nat) (v2 : Option Nat) (v3 : Option Nat) (v4 : Int32) (σ : zS) : Option (Int32 × zS) := (v0).bind fun a1 => (zaI σ a1 0 (v4 + 1)).bind fun x2 => (s_Law_strike g v1 x2 v3 σ).bind fun (x6, σ4) => (zaI σ4 a1 0 (v4 + 1)).bind fun x7 => (v2).bind fun a9 => (zis σ4 a9 14).bind fun _ => (s_Mo_strike g a9 x7 σ4).bind fun (x12, σ10) => (zis σ10 a9 14).bind fun _ => (s_Mo_thrown g a9  σ10).bind fun (x15, σ13) => if x15 = x6 then if x6 = 0 then (v3).bind fun a18 => (zaL σ13 a18 1 (0)).bind fun x19 => if (lg_cmp x19 (x12.toInt64)) = 0 then s_Law_law_760 g k33 (some (a1)) (v1) (some (a9)) (some (a18)) (v4) (x6) (x12) σ13 else some (0, σ13) else s_Law_law_760 g k33 (some (a1)) (v1) (some (a9)) (v3) (v4) (x6) (x12) σ13 else some (0, σ13)
def s_Law_law_816 (g : zG) (k33 : Option Nat → Option Nat → Option Nat → Option Nat → Int32 → zS → Option (Int32 × zS)) (v0 : Option Nat) (v1 : Option Nat) (v2 : Option Nat) (v3 : Option Nat) (v4 : Int32) (v5 : Int32) (v6 : Int32) (σ : zS) : Option (Int32 × zS) := s_Law_law_1387 g k33 (v0) (v1) (v2) (v3) (v4) σ
def s_Law_law_763 (g : zG) (k33 : Option Nat → Option Nat → Option Nat → Option Nat → Int32 → zS → Option (Int32 × zS)) (v0 : Option Nat) (v1 : Option Nat) (v2 : Option Nat) (v3 : Option Nat) (v4 : Int32) (σ : zS) : Option (Int32 × zS) := (v0).bind fun a1 => (zaI σ a1 0 (v4 + 1)).bind fun x2 => (s_Law_close g v1 x2 v3 σ).bind fun (x6, σ4) => (zaI σ4 a1 0 (v4 + 1)).bind fun x7 => (v2).bind fun a9 => (zis σ4 a9 14).bind fun _ => (s_Mo_close g a9 x7 σ4).bind fun (x12, σ10) => (zis σ10 a9 14).bind fun _ => (s_Mo_thrown g a9  σ10).bind fun (x15, σ13) => if x15 = x6 then if x6 = 0 then (v3).bind fun a18 => (zaL σ13 a18 1 (0)).bind fun x19 => if (lg_cmp x19 (x12.toInt64)) = 0 then s_Law_law_816 g k33 (some (a1)) (v1) (some (a9)) (some (a18)) (v4) (x6) (x12) σ13 else some (0, σ13) else s_Law_law_816 g k33 (some (a1)) (v1) (some (a9)) (v3) (v4) (x6) (x12) σ13 else some (0, σ13)
def s_Law_law_819 (g : zG) (k33 : Option Nat → Option Nat → Option Nat → Option Nat → Int32 → zS → Option (Int32 × zS)) (v0 : Option Nat) (v1 : Option Nat) (v2 : Option Nat) (v3 : Option Nat) (v4 : Int32) (σ : zS) : Option (Int32 × zS) := (v0).bind fun a1 => (zaI σ a1 0 (v4 + 1)).bind fun x2 => (v1).bind fun a4 => (zis σ a4 0).bind fun _ => (s_No_crash g a4 x2 σ).bind fun (x7, σ5) => (zaI σ5 a1 0 (v4 + 1)).bind fun x8 => (v2).bind fun a10 => (zis σ5 a10 14).bind fun _ => (s_Mo_crash g a10 x8 σ5).bind fun (x13, σ11) => if x7 = x13 then s_Law_law_1387 g k33 (some (a1)) (some (a4)) (some (a10)) (v3) (v4) σ11 else some (0, σ11)
def s_Law_law_844 (g : zG) (k33 : Option Nat → Option Nat → Option Nat → Option Nat → Int32 → zS → Option (Int32 × zS)) (v0 : Option Nat) (v1 : Option Nat) (v2 : Option Nat) (v3 : Option Nat) (v4 : Int32) (σ : zS) : Option (Int32 × zS) := (v0).bind fun a1 => (zaI σ a1 0 (v4 + 1)).bind fun x2 => (v1).bind fun a4 => (zis σ a4 0).bind fun _ => (s_No_mount g a4 x2 σ).bind fun (x7, σ5) => (zaI σ5 a1 0 (v4 + 1)).bind fun x8 => (v2).bind fun a10 => (zis σ5 a10 14).bind fun _ => (s_Mo_mount g a10 x8 σ5).bind fun (x13, σ11) => if x7 = x13 then s_Law_law_1387 g k33 (some (a1)) (some (a4)) (some (a10)) (v3) (v4) σ11 else some (0, σ11)
def s_Law_law_869 (g : zG) (k33 : Option Nat → Option Nat → Option Nat → Option Nat → Int32 → zS → Option (Int32 × zS)) (v0 : Option Nat) (v1 : Option Nat) (v2 : Option Nat) (v3 : Option Nat) (v4 : Int32) (σ : zS) : Option (Int32 × zS) := (v0).bind fun a1 => (zaI σ a1 0 (v4 + 1)).bind fun x2 => (v1).bind fun a4 => (zis σ a4 0).bind fun _ => (s_No_flush g a4 x2 σ).bind fun (x7, σ5) => (zaI σ5 a1 0 (v4 + 1)).bind fun x8 => (v2).bind fun a10 => (zis σ5 a10 14).bind fun _ => (s_Mo_flush g a10 x8 σ5).bind fun (x13, σ11) => if x7 = x13 then s_Law_law_1387 g k33 (some (a1)) (some (a4)) (some (a10)) (v3) (v4) σ11 else some (0, σ11)
def s_Law_law_894 (g : zG) (k33 : Option Nat → Option Nat → Option Nat → Option Nat → Int32 → zS → Option (Int32 × zS)) (v0 : Option Nat) (v1 : Option Nat) (v2 : Option Nat) (v3 : Option Nat) (v4 : Int32) (σ : zS) : Option (Int32 × zS) := (v1).bind fun a1 => (zis σ a1 0).bind fun _ => (s_No_letters g a1  σ).bind fun (x4, σ2) => (v2).bind fun a5 => (zis σ2 a5 14).bind fun _ => (s_Mo_letters g a5  σ2).bind fun (x8, σ6) => if x4 = x8 then s_Law_law_1387 g k33 (v0) (some (a1)) (some (a5)) (v3) (v4) σ6 else some (0, σ6)
def s_Law_law_907 (g : zG) (k33 : Option Nat → Option Nat → Option Nat → Option Nat → Int32 → zS → Option (Int32 × zS)) (v0 : Option Nat) (v1 : Option Nat) (v2 : Option Nat) (v3 : Option Nat) (v4 : Int32) (σ : zS) : Option (Int32 × zS) := (v0).bind fun a1 => (zaI σ a1 0 (v4 + 1)).bind fun x2 => (zaI σ a1 0 (v4 + 2)).bind fun x4 => (v1).bind fun a6 => (zis σ a6 0).bind fun _ => (s_No_letter g a6 x2 x4 σ).bind fun (x9, σ7) => (zaI σ7 a1 0 (v4 + 1)).bind fun x10 => (zaI σ7 a1 0 (v4 + 2)).bind fun x12 => (v2).bind fun a14 => (zis σ7 a14 14).bind fun _ => (s_Mo_letter g a14 x10 x12 σ7).bind fun (x17, σ15) => if x9 = x17 then s_Law_law_1387 g k33 (some (a1)) (some (a6)) (some (a14)) (v3) (v4) σ15 else some (0, σ15)
def s_Law_law_944 (g : zG) (k33 : Option Nat → Option Nat → Option Nat → Option Nat → Int32 → zS → Option (Int32 × zS)) (v0 : Option Nat) (v1 : Option Nat) (v2 : Option Nat) (v3 : Option Nat) (v4 : Int32) (σ : zS) : Option (Int32 × zS) := (v0).bind fun a1 => (zaI σ a1 0 (v4 + 1)).bind fun x2 => (v1).bind fun a4 => (zis σ a4 0).bind fun _ => (s_No_deliver g a4 x2 σ).bind fun (x7, σ5) => (zaI σ5 a1 0 (v4 + 1)).bind fun x8 => (v2).bind fun a10 => (zis σ5 a10 14).bind fun _ => (s_Mo_deliver g a10 x8 σ5).bind fun (x13, σ11) => if x7 = x13 then s_Law_law_1387 g k33 (some (a1)) (some (a4)) (some (a10)) (v3) (v4) σ11 else some (0, σ11)
def s_Law_law_969 (g : zG) (k33 : Option Nat → Option Nat → Option Nat → Option Nat → Int32 → zS → Option (Int32 × zS)) (v0 : Option Nat) (v1 : Option Nat) (v2 : Option Nat) (v3 : Option Nat) (v4 : Int32) (σ : zS) : Option (Int32 × zS) := (v0).bind fun a1 => (zaI σ a1 0 (v4 + 1)).bind fun x2 => (v1).bind fun a4 => (zis σ a4 0).bind fun _ => (s_No_drop g a4 x2 σ).bind fun (x7, σ5) => (zaI σ5 a1 0 (v4 + 1)).bind fun x8 => (v2).bind fun a10 => (zis σ5 a10 14).bind fun _ => (s_Mo_drop g a10 x8 σ5).bind fun (x13, σ11) => if x7 = x13 then s_Law_law_1387 g k33 (some (a1)) (some (a4)) (some (a10)) (v3) (v4) σ11 else some (0, σ11)
def s_Law_law_994 (g : zG) (k33 : Option Nat → Option Nat → Option Nat → Option Nat → Int32 → zS → Option (Int32 × zS)) (v0 : Option Nat) (v1 : Option Nat) (v2 : Option Nat) (v3 : Option Nat) (v4 : Int32) (σ : zS) : Option (Int32 × zS) := (v0).bind fun a1 => (zaI σ a1 0 (v4 + 1)).bind fun x2 => (v1).bind fun a4 => (zis σ a4 0).bind fun _ => (s_No_twin g a4 x2 σ).bind fun (x7, σ5) => (zaI σ5 a1 0 (v4 + 1)).bind fun x8 => (v2).bind fun a10 => (zis σ5 a10 14).bind fun _ => (s_Mo_twin g a10 x8 σ5).bind fun (x13, σ11) => if x7 = x13 then s_Law_law_1387 g k33 (some (a1)) (some (a4)) (some (a10)) (v3) (v4) σ11 else some (0, σ11)
def s_Law_law_1084 (g : zG) (k33 : Option Nat → Option Nat → Option Nat → Option Nat → Int32 → zS → Option (Int32 × zS)) (v0 : Option Nat) (v1 : Option Nat) (v2 : Option Nat) (v3 : Option Nat) (v4 : Int32) (v5 : Int32) (v6 : Int32) (σ : zS) : Option (Int32 × zS) := s_Law_law_1387 g k33 (v0) (v1) (v2) (v3) (v4) σ
def s_Law_law_1019 (g : zG) (k33 : Option Nat → Option Nat → Option Nat → Option Nat → Int32 → zS → Option (Int32 × zS)) (v0 : Option Nat) (v1 : Option Nat) (v2 : Option Nat) (v3 : Option Nat) (v4 : Int32) (σ : zS) : Option (Int32 × zS) := (v0).bind fun a1 => (zaI σ a1 0 (v4 + 1)).bind fun x2 => (zaI σ a1 0 (v4 + 2)).bind fun x4 => (s_Law_fate g v1 x2 x4 v3 σ).bind fun (x8, σ6) => (zaI σ6 a1 0 (v4 + 1)).bind fun x9 => (zaI σ6 a1 0 (v4 + 2)).bind fun x11 => (v2).bind fun a13 => (zis σ6 a13 14).bind fun _ => (s_Mo_fate g a13 x9 x11 σ6).bind fun (x16, σ14) => (zis σ14 a13 14).bind fun _ => (s_Mo_thrown g a13  σ14).bind fun (x19, σ17) => if x19 = x8 then if x8 = 0 then (v3).bind fun a22 => (zaL σ17 a22 1 (0)).bind fun x23 => if (lg_cmp x23 (x16.toInt64)) = 0 then s_Law_law_1084 g k33 (some (a1)) (v1) (some (a13)) (some (a22)) (v4) (x8) (x16) σ17 else some (0, σ17) else s_Law_law_1084 g k33 (some (a1)) (v1) (some (a13)) (v3) (v4) (x8) (x16) σ17 else some (0, σ17)
def s_Law_law_1163 (g : zG) (k33 : Option Nat → Option Nat → Option Nat → Option Nat → Int32 → zS → Option (Int32 × zS)) (v0 : Option Nat) (v1 : Option Nat) (v2 : Option Nat) (v3 : Option Nat) (v4 : Int32) (v5 : Int32) (v6 : Int64) (σ : zS) : Option (Int32 × zS) := s_Law_law_1387 g k33 (v0) (v1) (v2) (v3) (v4) σ
def s_Law_law_1087 (g : zG) (k33 : Option Nat → Option Nat → Option Nat → Option Nat → Int32 → zS → Option (Int32 × zS)) (v0 : Option Nat) (v1 : Option Nat) (v2 : Option Nat) (v3 : Option Nat) (v4 : Int32) (σ : zS) : Option (Int32 × zS) := (v0).bind fun a1 => (zaI σ a1 0 (v4 + 1)).bind fun x2 => (zaI σ a1 0 (v4 + 2)).bind fun x4 => (zaI σ a1 0 (v4 + 3)).bind fun x6 => (s_Law_invoiceOf g v1 x2 x4 x6 v3 σ).bind fun (x10, σ8) => (zaI σ8 a1 0 (v4 + 1)).bind fun x11 => (zaI σ8 a1 0 (v4 + 2)).bind fun x13 => (zaI σ8 a1 0 (v4 + 3)).bind fun x15 => (v2).bind fun a17 => (zis σ8 a17 14).bind fun _ => (s_Mo_invoiceOf g a17 x11 x13 x15 σ8).bind fun (x20, σ18) => (zis σ18 a17 14).bind fun _ => (s_Mo_thrown g a17  σ18).bind fun (x23, σ21) => if x23 = x10 then if x10 = 0 then (v3).bind fun a26 => (zaL σ21 a26 1 (0)).bind fun x27 => if (lg_cmp x27 x20) = 0 then s_Law_law_1163 g k33 (some (a1)) (v1) (some (a17)) (some (a26)) (v4) (x10) (x20) σ21 else some (0, σ21) else s_Law_law_1163 g k33 (some (a1)) (v1) (some (a17)) (v3) (v4) (x10) (x20) σ21 else some (0, σ21)
def s_Law_law_1230 (g : zG) (k33 : Option Nat → Option Nat → Option Nat → Option Nat → Int32 → zS → Option (Int32 × zS)) (v0 : Option Nat) (v1 : Option Nat) (v2 : Option Nat) (v3 : Option Nat) (v4 : Int32) (v5 : Int32) (v6 : Int64) (σ : zS) : Option (Int32 × zS) := s_Law_law_1387 g k33 (v0) (v1) (v2) (v3) (v4) σ
def s_Law_law_1166 (g : zG) (k33 : Option Nat → Option Nat → Option Nat → Option Nat → Int32 → zS → Option (Int32 × zS)) (v0 : Option Nat) (v1 : Option Nat) (v2 : Option Nat) (v3 : Option Nat) (v4 : Int32) (σ : zS) : Option (Int32 × zS) := (v0).bind fun a1 => (zaI σ a1 0 (v4 + 1)).bind fun x2 => (zaI σ a1 0 (v4 + 2)).bind fun x4 => (s_Law_total g v1 x2 x4 v3 σ).bind fun (x8, σ6) => (zaI σ6 a1 0 (v4 + 1)).bind fun x9 => (zaI σ6 a1 0 (v4 + 2)).bind fun x11 => (v2).bind fun a13 => (zis σ6 a13 14).bind fun _ => (s_Mo_total g a13 x9 x11 σ6).bind fun (x16, σ14) => (zis σ14 a13 14).bind fun _ => (s_Mo_thrown g a13  σ14).bind fun (x19, σ17) => if x19 = x8 then if x8 = 0 then (v3).bind fun a22 => (zaL σ17 a22 1 (0)).bind fun x23 => if (lg_cmp x23 x16) = 0 then s_Law_law_1230 g k33 (some (a1)) (v1) (some (a13)) (some (a22)) (v4) (x8) (x16) σ17 else some (0, σ17) else s_Law_law_1230 g k33 (some (a1)) (v1) (some (a13)) (v3) (v4) (x8) (x16) σ17 else some (0, σ17)
def s_Law_law_1233 (g : zG) (k33 : Option Nat → Option Nat → Option Nat → Option Nat → Int32 → zS → Option (Int32 × zS)) (v0 : Option Nat) (v1 : Option Nat) (v2 : Option Nat) (v3 : Option Nat) (v4 : Int32) (σ : zS) : Option (Int32 × zS) := (v0).bind fun a1 => (zaI σ a1 0 (v4 + 1)).bind fun x2 => (zaI σ a1 0 (v4 + 2)).bind fun x4 => (zaI σ a1 0 (v4 + 3)).bind fun x6 => (v1).bind fun a8 => (zis σ a8 0).bind fun _ => (s_No_branchFate g a8 x2 x4 x6 σ).bind fun (x11, σ9) => (zaI σ9 a1 0 (v4 + 1)).bind fun x12 => (zaI σ9 a1 0 (v4 + 2)).bind fun x14 => (zaI σ9 a1 0 (v4 + 3)).bind fun x16 => (v2).bind fun a18 => (zis σ9 a18 14).bind fun _ => (s_Mo_branchFate g a18 x12 x14 x16 σ9).bind fun (x21, σ19) => if x11 = x21 then s_Law_law_1387 g k33 (some (a1)) (some (a8)) (some (a18)) (v3) (v4) σ19 else some (0, σ19)
def s_Law_law_1282 (g : zG) (k33 : Option Nat → Option Nat → Option Nat → Option Nat → Int32 → zS → Option (Int32 × zS)) (v0 : Option Nat) (v1 : Option Nat) (v2 : Option Nat) (v3 : Option Nat) (v4 : Int32) (σ : zS) : Option (Int32 × zS) := (v0).bind fun a1 => (zaI σ a1 0 (v4 + 1)).bind fun x2 => (zaI σ a1 0 (v4 + 2)).bind fun x4 => (v1).bind fun a6 => (zis σ a6 0).bind fun _ => (s_No_branch g a6 x2 x4 σ).bind fun (x9, σ7) => (zaI σ7 a1 0 (v4 + 1)).bind fun x10 => (zaI σ7 a1 0 (v4 + 2)).bind fun x12 => (v2).bind fun a14 => (zis σ7 a14 14).bind fun _ => (s_Mo_branch g a14 x10 x12 σ7).bind fun (x17, σ15) => if x9 = x17 then s_Law_law_1387 g k33 (some (a1)) (some (a6)) (some (a14)) (v3) (v4) σ15 else some (0, σ15)
def s_Law_law_1384 (g : zG) (k33 : Option Nat → Option Nat → Option Nat → Option Nat → Int32 → zS → Option (Int32 × zS)) (v0 : Option Nat) (v1 : Option Nat) (v2 : Option Nat) (v3 : Option Nat) (v4 : Int32) (v5 : Int32) (v6 : Int32) (σ : zS) : Option (Int32 × zS) := s_Law_law_1387 g k33 (v0) (v1) (v2) (v3) (v4) σ
def s_Law_law_1319 (g : zG) (k33 : Option Nat → Option Nat → Option Nat → Option Nat → Int32 → zS → Option (Int32 × zS)) (v0 : Option Nat) (v1 : Option Nat) (v2 : Option Nat) (v3 : Option Nat) (v4 : Int32) (σ : zS) : Option (Int32 × zS) := (v0).bind fun a1 => (zaI σ a1 0 (v4 + 1)).bind fun x2 => (zaI σ a1 0 (v4 + 2)).bind fun x4 => (s_Law_listByte g v1 x2 x4 v3 σ).bind fun (x8, σ6) => (zaI σ6 a1 0 (v4 + 1)).bind fun x9 => (zaI σ6 a1 0 (v4 + 2)).bind fun x11 => (v2).bind fun a13 => (zis σ6 a13 14).bind fun _ => (s_Mo_listByte g a13 x9 x11 σ6).bind fun (x16, σ14) => (zis σ14 a13 14).bind fun _ => (s_Mo_thrown g a13  σ14).bind fun (x19, σ17) => if x19 = x8 then if x8 = 0 then (v3).bind fun a22 => (zaL σ17 a22 1 (0)).bind fun x23 => if (lg_cmp x23 (x16.toInt64)) = 0 then s_Law_law_1384 g k33 (some (a1)) (v1) (some (a13)) (some (a22)) (v4) (x8) (x16) σ17 else some (0, σ17) else s_Law_law_1384 g k33 (some (a1)) (v1) (some (a13)) (v3) (v4) (x8) (x16) σ17 else some (0, σ17)
def s_Law_law_33 (g : zG)  : Nat → Option Nat → Option Nat → Option Nat → Option Nat → Int32 → zS → Option (Int32 × zS)
  | 0, _, _, _, _, _, _ => none
  | n + 1, v0, v1, v2, v3, v4, σ => (v0).bind fun a1 => (zal σ a1 0).bind fun x2 => if (x2 - 6) < v4 then some (1, σ) else (zaI σ a1 0 (v4)).bind fun x5 => if (x5 &&& 31 : Int32).toInt < 0 ∨ 22 < (x5 &&& 31 : Int32).toInt then s_Law_law_1387 g (fun v0 v1 v2 v3 v4 σ => s_Law_law_33 g  n v0 v1 v2 v3 v4 σ) (some (a1)) (v1) (v2) (v3) (v4) σ else if (x5 &&& 31 : Int32) = 0 then s_Law_law_156 g (fun v0 v1 v2 v3 v4 σ => s_Law_law_33 g  n v0 v1 v2 v3 v4 σ) (some (a1)) (v1) (v2) (v3) (v4) σ else if (x5 &&& 31 : Int32) = 1 then s_Law_law_231 g (fun v0 v1 v2 v3 v4 σ => s_Law_law_33 g  n v0 v1 v2 v3 v4 σ) (some (a1)) (v1) (v2) (v3) (v4) σ else if (x5 &&& 31 : Int32) = 2 then s_Law_law_311 g (fun v0 v1 v2 v3 v4 σ => s_Law_law_33 g  n v0 v1 v2 v3 v4 σ) (some (a1)) (v1) (v2) (v3) (v4) σ else if (x5 &&& 31 : Int32) = 3 then s_Law_law_379 g (fun v0 v1 v2 v3 v4 σ => s_Law_law_33 g  n v0 v1 v2 v3 v4 σ) (some (a1)) (v1) (v2) (v3) (v4) σ else if (x5 &&& 31 : Int32) = 4 then s_Law_law_404 g (fun v0 v1 v2 v3 v4 σ => s_Law_law_33 g  n v0 v1 v2 v3 v4 σ) (some (a1)) (v1) (v2) (v3) (v4) σ else if (x5 &&& 31 : Int32) = 5 then s_Law_law_528 g (fun v0 v1 v2 v3 v4 σ => s_Law_law_33 g  n v0 v1 v2 v3 v4 σ) (some (a1)) (v1) (v2) (v3) (v4) σ else if (x5 &&& 31 : Int32) = 6 then s_Law_law_608 g (fun v0 v1 v2 v3 v4 σ => s_Law_law_33 g  n v0 v1 v2 v3 v4 σ) (some (a1)) (v1) (v2) (v3) (v4) σ else if (x5 &&& 31 : Int32) = 7 then s_Law_law_707 g (fun v0 v1 v2 v3 v4 σ => s_Law_law_33 g  n v0 v1 v2 v3 v4 σ) (some (a1)) (v1) (v2) (v3) (v4) σ else if (x5 &&& 31 : Int32) = 8 then s_Law_law_763 g (fun v0 v1 v2 v3 v4 σ => s_Law_law_33 g  n v0 v1 v2 v3 v4 σ) (some (a1)) (v1) (v2) (v3) (v4) σ else if (x5 &&& 31 : Int32) = 9 then s_Law_law_819 g (fun v0 v1 v2 v3 v4 σ => s_Law_law_33 g  n v0 v1 v2 v3 v4 σ) (some (a1)) (v1) (v2) (v3) (v4) σ else if (x5 &&& 31 : Int32) = 10 then s_Law_law_844 g (fun v0 v1 v2 v3 v4 σ => s_Law_law_33 g  n v0 v1 v2 v3 v4 σ) (some (a1)) (v1) (v2) (v3) (v4) σ else if (x5 &&& 31 : Int32) = 11 then s_Law_law_869 g (fun v0 v1 v2 v3 v4 σ => s_Law_law_33 g  n v0 v1 v2 v3 v4 σ) (some (a1)) (v1) (v2) (v3) (v4) σ else if (x5 &&& 31 : Int32) = 12 then s_Law_law_894 g (fun v0 v1 v2 v3 v4 σ => s_Law_law_33 g  n v0 v1 v2 v3 v4 σ) (some (a1)) (v1) (v2) (v3) (v4) σ else if (x5 &&& 31 : Int32) = 13 then s_Law_law_907 g (fun v0 v1 v2 v3 v4 σ => s_Law_law_33 g  n v0 v1 v2 v3 v4 σ) (some (a1)) (v1) (v2) (v3) (v4) σ else if (x5 &&& 31 : Int32) = 14 then s_Law_law_944 g (fun v0 v1 v2 v3 v4 σ => s_Law_law_33 g  n v0 v1 v2 v3 v4 σ) (some (a1)) (v1) (v2) (v3) (v4) σ else if (x5 &&& 31 : Int32) = 15 then s_Law_law_969 g (fun v0 v1 v2 v3 v4 σ => s_Law_law_33 g  n v0 v1 v2 v3 v4 σ) (some (a1)) (v1) (v2) (v3) (v4) σ else if (x5 &&& 31 : Int32) = 16 then s_Law_law_994 g (fun v0 v1 v2 v3 v4 σ => s_Law_law_33 g  n v0 v1 v2 v3 v4 σ) (some (a1)) (v1) (v2) (v3) (v4) σ else if (x5 &&& 31 : Int32) = 17 then s_Law_law_1019 g (fun v0 v1 v2 v3 v4 σ => s_Law_law_33 g  n v0 v1 v2 v3 v4 σ) (some (a1)) (v1) (v2) (v3) (v4) σ else if (x5 &&& 31 : Int32) = 18 then s_Law_law_1087 g (fun v0 v1 v2 v3 v4 σ => s_Law_law_33 g  n v0 v1 v2 v3 v4 σ) (some (a1)) (v1) (v2) (v3) (v4) σ else if (x5 &&& 31 : Int32) = 19 then s_Law_law_1166 g (fun v0 v1 v2 v3 v4 σ => s_Law_law_33 g  n v0 v1 v2 v3 v4 σ) (some (a1)) (v1) (v2) (v3) (v4) σ else if (x5 &&& 31 : Int32) = 20 then s_Law_law_1233 g (fun v0 v1 v2 v3 v4 σ => s_Law_law_33 g  n v0 v1 v2 v3 v4 σ) (some (a1)) (v1) (v2) (v3) (v4) σ else if (x5 &&& 31 : Int32) = 21 then s_Law_law_1282 g (fun v0 v1 v2 v3 v4 σ => s_Law_law_33 g  n v0 v1 v2 v3 v4 σ) (some (a1)) (v1) (v2) (v3) (v4) σ else if (x5 &&& 31 : Int32) = 22 then s_Law_law_1319 g (fun v0 v1 v2 v3 v4 σ => s_Law_law_33 g  n v0 v1 v2 v3 v4 σ) (some (a1)) (v1) (v2) (v3) (v4) σ else none
def s_Law_law (g : zG) (v0 : Option Nat) (σ : zS) : Option (Int32 × zS) := (some (znew σ 3 (.inr (0, [.null, .null, .null])))).bind fun σ1 => (s_Law_cell g v0 0 σ1).bind fun (x4, σ2) => (s_No_init g (σ.1) x4 σ2).bind fun σ5 => (some (znew σ5 40 (.inr (14, [.int 0, .int 0, .null, .null, .null, .null, .null, .null, .null, .null, .null, .null, .null, .null, .null, .null, .null, .null, .null, .null, .null, .null, .null, .null, .null, .null, .null, .null, .null, .null, .null, .null, .null, .null, .int 0, .null, .null, .int 0, .int 0, .int 0])))).bind fun σ8 => (s_Law_cell g v0 0 σ8).bind fun (x11, σ9) => (s_Mo_init g (σ5.1) x11 σ9).bind fun σ12 => (zlen (1)).bind fun n15 => (some (znew σ12 n15 (.inl (1, (n15, .inr (.inl (fun _ => 0))))))).bind fun σ17 => s_Law_law_33 g  zfuel (v0) (some (σ.1)) (some (σ5.1)) (some (σ12.1)) (1) σ17
set_option maxRecDepth 100000 in
theorem t_Law_law_1387 {l : Launch} {D : zD} {g : zG} (hG : zGok g D) (hl : zLo l) {q : Int32 × zS} (k33 : Option Nat → Option Nat → Option Nat → Option Nat → Int32 → zS → Option (Int32 × zS)) (hk33 : ∀ {v0 : Option Nat} {v1 : Option Nat} {v2 : Option Nat} {v3 : Option Nat} {v4 : Int32} {σ : zS}, k33 v0 v1 v2 v3 v4 σ = some q → Z l D K_Law_law 15 339 (.returned (some (.int q.1)), q.2) 33 [(0, va_rf (v0)), (1, va_rf (v1)), (2, va_rf (v2)), (3, va_rf (v3)), (4, .int (v4))] [] σ) {v0 : Option Nat} {v1 : Option Nat} {v2 : Option Nat} {v3 : Option Nat} {v4 : Int32} {σ : zS} (h : s_Law_law_1387 g k33 v0 v1 v2 v3 v4 σ = some q) : Z l D K_Law_law 15 339 (.returned (some (.int q.1)), q.2) 1387 [(0, va_rf (v0)), (1, va_rf (v1)), (2, va_rf (v2)), (3, va_rf (v3)), (4, .int (v4))] [] σ := by
  unfold s_Law_law_1387 at h
  refine z_iinc (v := v4 + 6) (lv' := [(4, .int (v4 + 6)), (0, va_rf (v0)), (1, va_rf (v1)), (2, va_rf (v2)), (3, va_rf (v3))]) 4 d_Law_law_1387 rfl rfl (by decide) (by simp [z_rfc, z_ci, z_cl, z_cr, z_cn] <;> rfl) ?_
  refine z_goto (tgt := 33) d_Law_law_1390 rfl ?_
  refine z_lv (lv' := [(0, va_rf (v0)), (1, va_rf (v1)), (2, va_rf (v2)), (3, va_rf (v3)), (4, .int (v4 + 6))]) [1, 2, 3, 4, 0] rfl ?_
  exact hk33 h
set_option maxRecDepth 100000 in
theorem t_Law_law_228 {l : Launch} {D : zD} {g : zG} (hG : zGok g D) (hl : zLo l) {q : Int32 × zS} (k33 : Option Nat → Option Nat → Option Nat → Option Nat → Int32 → zS → Option (Int32 × zS)) (hk33 : ∀ {v0 : Option Nat} {v1 : Option Nat} {v2 : Option Nat} {v3 : Option Nat} {v4 : Int32} {σ : zS}, k33 v0 v1 v2 v3 v4 σ = some q → Z l D K_Law_law 15 339 (.returned (some (.int q.1)), q.2) 33 [(0, va_rf (v0)), (1, va_rf (v1)), (2, va_rf (v2)), (3, va_rf (v3)), (4, .int (v4))] [] σ) {v0 : Option Nat} {v1 : Option Nat} {v2 : Option Nat} {v3 : Option Nat} {v4 : Int32} {v5 : Int32} {v6 : Int32} {σ : zS} (h : s_Law_law_228 g k33 v0 v1 v2 v3 v4 v5 v6 σ = some q) : Z l D K_Law_law 15 339 (.returned (some (.int q.1)), q.2) 228 [(0, va_rf (v0)), (1, va_rf (v1)), (2, va_rf (v2)), (3, va_rf (v3)), (4, .int (v4)), (5, .int (v5)), (6, .int (v6))] [] σ := by
  unfold s_Law_law_228 at h
  refine z_goto (tgt := 1387) d_Law_law_228 rfl ?_
  refine z_lv (lv' := [(0, va_rf (v0)), (1, va_rf (v1)), (2, va_rf (v2)), (3, va_rf (v3)), (4, .int (v4))]) [0, 1, 2, 3, 4] rfl ?_
  exact t_Law_law_1387 hG hl _ hk33 h
set_option maxRecDepth 100000 in
theorem t_Law_law_222 {l : Launch} {D : zD} {g : zG} (hG : zGok g D) (hl : zLo l) {q : Int32 × zS} (k33 : Option Nat → Option Nat → Option Nat → Option Nat → Int32 → zS → Option (Int32 × zS)) (hk33 : ∀ {v0 : Option Nat} {v1 : Option Nat} {v2 : Option Nat} {v3 : Option Nat} {v4 : Int32} {σ : zS}, k33 v0 v1 v2 v3 v4 σ = some q → Z l D K_Law_law 15 339 (.returned (some (.int q.1)), q.2) 33 [(0, va_rf (v0)), (1, va_rf (v1)), (2, va_rf (v2)), (3, va_rf (v3)), (4, .int (v4))] [] σ) {v0 : Option Nat} {v1 : Option Nat} {v2 : Option Nat} {v3 : Option Nat} {v4 : Int32} {v5 : Int32} {v6 : Int32} {w0 : Int64} {w1 : Int64} {σ : zS} (h : s_Law_law_222 g k33 v0 v1 v2 v3 v4 v5 v6 w0 w1 σ = some q) : Z l D K_Law_law 15 339 (.returned (some (.int q.1)), q.2) 222 [(0, va_rf (v0)), (1, va_rf (v1)), (2, va_rf (v2)), (3, va_rf (v3)), (4, .int (v4)), (5, .int (v5)), (6, .int (v6))] [.long (w0), .long (w1)] σ := by
  unfold s_Law_law_222 at h
  refine z_lcmp d_Law_law_222 ?_
  refine z_if_eq (tgt := 228) d_Law_law_223 rfl (fun c1 => ?_) (fun c1 => ?_)
  · rw [if_pos c1] at h
    refine z_lv (lv' := [(0, va_rf (v0)), (1, va_rf (v1)), (2, va_rf (v2)), (3, va_rf (v3)), (4, .int (v4)), (5, .int (v5)), (6, .int (v6))]) [0, 1, 2, 3, 4, 5, 6] rfl ?_
    exact t_Law_law_228 hG hl _ hk33 h
  · rw [if_neg c1] at h
    refine z_iconst (v := 0) d_Law_law_226 rfl ?_
    cases h
    exact z_zret rfl rfl rfl d_Law_law_227
set_option maxRecDepth 100000 in
theorem t_Law_law_156 {l : Launch} {D : zD} {g : zG} (hG : zGok g D) (hl : zLo l) {q : Int32 × zS} (k33 : Option Nat → Option Nat → Option Nat → Option Nat → Int32 → zS → Option (Int32 × zS)) (hk33 : ∀ {v0 : Option Nat} {v1 : Option Nat} {v2 : Option Nat} {v3 : Option Nat} {v4 : Int32} {σ : zS}, k33 v0 v1 v2 v3 v4 σ = some q → Z l D K_Law_law 15 339 (.returned (some (.int q.1)), q.2) 33 [(0, va_rf (v0)), (1, va_rf (v1)), (2, va_rf (v2)), (3, va_rf (v3)), (4, .int (v4))] [] σ) {v0 : Option Nat} {v1 : Option Nat} {v2 : Option Nat} {v3 : Option Nat} {v4 : Int32} {σ : zS} (h : s_Law_law_156 g k33 v0 v1 v2 v3 v4 σ = some q) : Z l D K_Law_law 15 339 (.returned (some (.int q.1)), q.2) 156 [(0, va_rf (v0)), (1, va_rf (v1)), (2, va_rf (v2)), (3, va_rf (v3)), (4, .int (v4))] [] σ := by
  unfold s_Law_law_156 at h
  refine z_aload_nR 1 d_Law_law_156 rfl rfl ?_
  refine z_aload_nR 0 d_Law_law_157 rfl rfl ?_
  refine z_iload 4 d_Law_law_158 rfl ?_
  refine z_iconst (v := 1) d_Law_law_160 rfl ?_
  refine z_iadd d_Law_law_161 ?_
  replace h := Option.bind_eq_some_iff.mp h; obtain ⟨a1, rfl, h⟩ := h
  replace h := Option.bind_eq_some_iff.mp h; obtain ⟨x2, e3, h⟩ := h
  refine z_iaload rfl d_Law_law_162 e3 ?_
  refine z_aload_n 0 d_Law_law_163 rfl rfl ?_
  refine z_iload 4 d_Law_law_164 rfl ?_
  refine z_iconst (v := 2) d_Law_law_166 rfl ?_
  refine z_iadd d_Law_law_167 ?_
  replace h := Option.bind_eq_some_iff.mp h; obtain ⟨x4, e5, h⟩ := h
  refine z_iaload rfl d_Law_law_168 e5 ?_
  refine z_aload_nR 3 d_Law_law_169 rfl rfl ?_
  replace h := Option.bind_eq_some_iff.mp h; obtain ⟨⟨x8, σ6⟩, e7, h⟩ := h
  dsimp only at h
  refine z_callS (av := [va_rf (v1), .int (x2), .int (x4), va_rf (v3)]) (st := []) wS_NumberOfficeLaw_67 (t_Law_series hG hl e7) (by decide) (by decide) d_Law_law_170 (by simp [z_rfc, z_ci, z_cl, z_cr, z_cn]) ?_
  show Z _ _ _ _ _ _ 173 [(0, .ref (a1)), (1, va_rf (v1)), (2, va_rf (v2)), (3, va_rf (v3)), (4, .int (v4))] [.int (x8)] _
  refine z_istore (j := 5) (lv' := [(5, .int (x8)), (0, .ref (a1)), (1, va_rf (v1)), (2, va_rf (v2)), (3, va_rf (v3)), (4, .int (v4))]) d_Law_law_173 (by decide) rfl ?_
  refine z_aload_nR 3 d_Law_law_175 rfl rfl ?_
  refine z_aload_n 1 d_Law_law_176 rfl rfl ?_
  refine z_iload 5 d_Law_law_177 rfl ?_
  refine z_iconst (v := 1) d_Law_law_179 rfl ?_
  refine z_iadd d_Law_law_180 ?_
  replace h := Option.bind_eq_some_iff.mp h; obtain ⟨x9, e10, h⟩ := h
  refine z_iaload rfl d_Law_law_181 e10 ?_
  refine z_aload_n 1 d_Law_law_182 rfl rfl ?_
  refine z_iload 5 d_Law_law_183 rfl ?_
  refine z_iconst (v := 2) d_Law_law_185 rfl ?_
  refine z_iadd d_Law_law_186 ?_
  replace h := Option.bind_eq_some_iff.mp h; obtain ⟨x11, e12, h⟩ := h
  refine z_iaload rfl d_Law_law_187 e12 ?_
  replace h := Option.bind_eq_some_iff.mp h; obtain ⟨a13, rfl, h⟩ := h
  replace h := Option.bind_eq_some_iff.mp h; obtain ⟨_, e29, h⟩ := h
  obtain ⟨b30, f31, e29⟩ := zcls_at (zis_at e29)
  replace h := Option.bind_eq_some_iff.mp h; obtain ⟨⟨x16, σ14⟩, e15, h⟩ := h
  dsimp only at h
  refine z_callV (av := [.int (x9), .int (x11)]) (st := []) wV_NumberOfficeLaw_70 e29 (t_Mo_series hG e15) (by decide) (by decide) d_Law_law_188 (by simp [z_rfc, z_ci, z_cl, z_cr, z_cn]) ?_
  show Z _ _ _ _ _ _ 191 [(5, .int (x8)), (0, .ref (a1)), (1, va_rf (v1)), (2, .ref (a13)), (3, va_rf (v3)), (4, .int (v4))] [.int (x16)] _
  refine z_istore (j := 6) (lv' := [(6, .int (x16)), (5, .int (x8)), (0, .ref (a1)), (1, va_rf (v1)), (2, .ref (a13)), (3, va_rf (v3)), (4, .int (v4))]) d_Law_law_191 (by decide) rfl ?_
  refine z_aload_n 4 d_Law_law_193 rfl rfl ?_
  replace h := Option.bind_eq_some_iff.mp h; obtain ⟨_, e26, h⟩ := h
  obtain ⟨b27, f28, e26⟩ := zcls_at (zis_at e26)
  replace h := Option.bind_eq_some_iff.mp h; obtain ⟨⟨x19, σ17⟩, e18, h⟩ := h
  dsimp only at h
  refine z_callV (av := []) (st := []) wV_NumberOfficeLaw_71 e26 (t_Mo_thrown hG e18) (by decide) (by decide) d_Law_law_194 (by simp [z_rfc, z_ci, z_cl, z_cr, z_cn]) ?_
  show Z _ _ _ _ _ _ 197 [(6, .int (x16)), (5, .int (x8)), (0, .ref (a1)), (1, va_rf (v1)), (2, .ref (a13)), (3, va_rf (v3)), (4, .int (v4))] [.int (x19)] _
  refine z_iload 1 d_Law_law_197 rfl ?_
  refine z_icmp_eq (tgt := 204) d_Law_law_199 rfl (fun c20 => ?_) (fun c20 => ?_)
  · rw [if_pos c20] at h
    refine z_iload 1 d_Law_law_204 rfl ?_
    refine z_if_ne (tgt := 228) d_Law_law_206 rfl (fun c21 => ?_) (fun c21 => ?_)
    · rw [if_neg c21] at h
      refine z_lv (lv' := [(0, va_rf (some (a1))), (1, va_rf (v1)), (2, va_rf (some (a13))), (3, va_rf (v3)), (4, .int (v4)), (5, .int (x8)), (6, .int (x16))]) [2, 3, 4, 5, 6, 1, 0] rfl ?_
      exact t_Law_law_228 hG hl _ hk33 h
    · rw [if_pos c21] at h
      refine z_aload_nR 5 d_Law_law_209 rfl rfl ?_
      refine z_iconst (v := 0) d_Law_law_210 rfl ?_
      replace h := Option.bind_eq_some_iff.mp h; obtain ⟨a22, rfl, h⟩ := h
      replace h := Option.bind_eq_some_iff.mp h; obtain ⟨x23, e24, h⟩ := h
      refine z_laload rfl d_Law_law_211 e24 ?_
      refine z_iload 0 d_Law_law_212 rfl ?_
      refine z_if_eq (tgt := 221) d_Law_law_214 rfl (fun c25 => ?_) (fun c25 => ?_)
      · rw [if_pos c25] at h
        refine z_lconst (v := 0) d_Law_law_221 rfl ?_
        refine z_lv (lv' := [(0, va_rf (some (a1))), (1, va_rf (v1)), (2, va_rf (some (a13))), (3, va_rf (some (a22))), (4, .int (v4)), (5, .int (x8)), (6, .int (x16))]) [2, 3, 4, 5, 6, 1, 0] rfl ?_
        exact t_Law_law_222 hG hl _ hk33 h
      · rw [if_neg c25] at h
        refine z_lconst (v := 1) d_Law_law_217 rfl ?_
        refine z_goto (tgt := 222) d_Law_law_218 rfl ?_
        refine z_lv (lv' := [(0, va_rf (some (a1))), (1, va_rf (v1)), (2, va_rf (some (a13))), (3, va_rf (some (a22))), (4, .int (v4)), (5, .int (x8)), (6, .int (x16))]) [2, 3, 4, 5, 6, 1, 0] rfl ?_
        exact t_Law_law_222 hG hl _ hk33 h
  · rw [if_neg c20] at h
    refine z_iconst (v := 0) d_Law_law_202 rfl ?_
    cases h
    exact z_zret rfl rfl rfl d_Law_law_203
set_option maxRecDepth 100000 in
theorem t_Law_law_308 {l : Launch} {D : zD} {g : zG} (hG : zGok g D) (hl : zLo l) {q : Int32 × zS} (k33 : Option Nat → Option Nat → Option Nat → Option Nat → Int32 → zS → Option (Int32 × zS)) (hk33 : ∀ {v0 : Option Nat} {v1 : Option Nat} {v2 : Option Nat} {v3 : Option Nat} {v4 : Int32} {σ : zS}, k33 v0 v1 v2 v3 v4 σ = some q → Z l D K_Law_law 15 339 (.returned (some (.int q.1)), q.2) 33 [(0, va_rf (v0)), (1, va_rf (v1)), (2, va_rf (v2)), (3, va_rf (v3)), (4, .int (v4))] [] σ) {v0 : Option Nat} {v1 : Option Nat} {v2 : Option Nat} {v3 : Option Nat} {v4 : Int32} {v5 : Int32} {v6 : Int32} {σ : zS} (h : s_Law_law_308 g k33 v0 v1 v2 v3 v4 v5 v6 σ = some q) : Z l D K_Law_law 15 339 (.returned (some (.int q.1)), q.2) 308 [(0, va_rf (v0)), (1, va_rf (v1)), (2, va_rf (v2)), (3, va_rf (v3)), (4, .int (v4)), (5, .int (v5)), (6, .int (v6))] [] σ := by
  unfold s_Law_law_308 at h
  refine z_goto (tgt := 1387) d_Law_law_308 rfl ?_
  refine z_lv (lv' := [(0, va_rf (v0)), (1, va_rf (v1)), (2, va_rf (v2)), (3, va_rf (v3)), (4, .int (v4))]) [0, 1, 2, 3, 4] rfl ?_
  exact t_Law_law_1387 hG hl _ hk33 h
set_option maxRecDepth 100000 in
theorem t_Law_law_231 {l : Launch} {D : zD} {g : zG} (hG : zGok g D) (hl : zLo l) {q : Int32 × zS} (k33 : Option Nat → Option Nat → Option Nat → Option Nat → Int32 → zS → Option (Int32 × zS)) (hk33 : ∀ {v0 : Option Nat} {v1 : Option Nat} {v2 : Option Nat} {v3 : Option Nat} {v4 : Int32} {σ : zS}, k33 v0 v1 v2 v3 v4 σ = some q → Z l D K_Law_law 15 339 (.returned (some (.int q.1)), q.2) 33 [(0, va_rf (v0)), (1, va_rf (v1)), (2, va_rf (v2)), (3, va_rf (v3)), (4, .int (v4))] [] σ) {v0 : Option Nat} {v1 : Option Nat} {v2 : Option Nat} {v3 : Option Nat} {v4 : Int32} {σ : zS} (h : s_Law_law_231 g k33 v0 v1 v2 v3 v4 σ = some q) : Z l D K_Law_law 15 339 (.returned (some (.int q.1)), q.2) 231 [(0, va_rf (v0)), (1, va_rf (v1)), (2, va_rf (v2)), (3, va_rf (v3)), (4, .int (v4))] [] σ := by
  unfold s_Law_law_231 at h
  refine z_aload_nR 1 d_Law_law_231 rfl rfl ?_
  refine z_aload_nR 0 d_Law_law_232 rfl rfl ?_
  refine z_iload 4 d_Law_law_233 rfl ?_
  refine z_iconst (v := 1) d_Law_law_235 rfl ?_
  refine z_iadd d_Law_law_236 ?_
  replace h := Option.bind_eq_some_iff.mp h; obtain ⟨a1, rfl, h⟩ := h
  replace h := Option.bind_eq_some_iff.mp h; obtain ⟨x2, e3, h⟩ := h
  refine z_iaload rfl d_Law_law_237 e3 ?_
  refine z_aload_n 0 d_Law_law_238 rfl rfl ?_
  refine z_iload 4 d_Law_law_239 rfl ?_
  refine z_iconst (v := 2) d_Law_law_241 rfl ?_
  refine z_iadd d_Law_law_242 ?_
  replace h := Option.bind_eq_some_iff.mp h; obtain ⟨x4, e5, h⟩ := h
  refine z_iaload rfl d_Law_law_243 e5 ?_
  refine z_aload_n 0 d_Law_law_244 rfl rfl ?_
  refine z_iload 4 d_Law_law_245 rfl ?_
  refine z_iconst (v := 3) d_Law_law_247 rfl ?_
  refine z_iadd d_Law_law_248 ?_
  replace h := Option.bind_eq_some_iff.mp h; obtain ⟨x6, e7, h⟩ := h
  refine z_iaload rfl d_Law_law_249 e7 ?_
  refine z_aload_nR 3 d_Law_law_250 rfl rfl ?_
  replace h := Option.bind_eq_some_iff.mp h; obtain ⟨⟨x10, σ8⟩, e9, h⟩ := h
  dsimp only at h
  refine z_callS (av := [va_rf (v1), .int (x2), .int (x4), .int (x6), va_rf (v3)]) (st := []) wS_NumberOfficeLaw_75 (t_Law_request hG hl e9) (by decide) (by decide) d_Law_law_251 (by simp [z_rfc, z_ci, z_cl, z_cr, z_cn]) ?_
  show Z _ _ _ _ _ _ 254 [(0, .ref (a1)), (1, va_rf (v1)), (2, va_rf (v2)), (3, va_rf (v3)), (4, .int (v4))] [.int (x10)] _
  refine z_istore (j := 5) (lv' := [(5, .int (x10)), (0, .ref (a1)), (1, va_rf (v1)), (2, va_rf (v2)), (3, va_rf (v3)), (4, .int (v4))]) d_Law_law_254 (by decide) rfl ?_
  refine z_aload_nR 3 d_Law_law_256 rfl rfl ?_
  refine z_aload_n 1 d_Law_law_257 rfl rfl ?_
  refine z_iload 5 d_Law_law_258 rfl ?_
  refine z_iconst (v := 1) d_Law_law_260 rfl ?_
  refine z_iadd d_Law_law_261 ?_
  replace h := Option.bind_eq_some_iff.mp h; obtain ⟨x11, e12, h⟩ := h
  refine z_iaload rfl d_Law_law_262 e12 ?_
  refine z_aload_n 1 d_Law_law_263 rfl rfl ?_
  refine z_iload 5 d_Law_law_264 rfl ?_
  refine z_iconst (v := 2) d_Law_law_266 rfl ?_
  refine z_iadd d_Law_law_267 ?_
  replace h := Option.bind_eq_some_iff.mp h; obtain ⟨x13, e14, h⟩ := h
  refine z_iaload rfl d_Law_law_268 e14 ?_
  refine z_aload_n 1 d_Law_law_269 rfl rfl ?_
  refine z_iload 5 d_Law_law_270 rfl ?_
  refine z_iconst (v := 3) d_Law_law_272 rfl ?_
  refine z_iadd d_Law_law_273 ?_
  replace h := Option.bind_eq_some_iff.mp h; obtain ⟨x15, e16, h⟩ := h
  refine z_iaload rfl d_Law_law_274 e16 ?_
  replace h := Option.bind_eq_some_iff.mp h; obtain ⟨a17, rfl, h⟩ := h
  replace h := Option.bind_eq_some_iff.mp h; obtain ⟨_, e33, h⟩ := h
  obtain ⟨b34, f35, e33⟩ := zcls_at (zis_at e33)
  replace h := Option.bind_eq_some_iff.mp h; obtain ⟨⟨x20, σ18⟩, e19, h⟩ := h
  dsimp only at h
  refine z_callV (av := [.int (x11), .int (x13), .int (x15)]) (st := []) wV_NumberOfficeLaw_78 e33 (t_Mo_request hG e19) (by decide) (by decide) d_Law_law_275 (by simp [z_rfc, z_ci, z_cl, z_cr, z_cn]) ?_
  show Z _ _ _ _ _ _ 278 [(5, .int (x10)), (0, .ref (a1)), (1, va_rf (v1)), (2, .ref (a17)), (3, va_rf (v3)), (4, .int (v4))] [.int (x20)] _
  refine z_istore (j := 6) (lv' := [(6, .int (x20)), (5, .int (x10)), (0, .ref (a1)), (1, va_rf (v1)), (2, .ref (a17)), (3, va_rf (v3)), (4, .int (v4))]) d_Law_law_278 (by decide) rfl ?_
  refine z_aload_n 4 d_Law_law_280 rfl rfl ?_
  replace h := Option.bind_eq_some_iff.mp h; obtain ⟨_, e30, h⟩ := h
  obtain ⟨b31, f32, e30⟩ := zcls_at (zis_at e30)
  replace h := Option.bind_eq_some_iff.mp h; obtain ⟨⟨x23, σ21⟩, e22, h⟩ := h
  dsimp only at h
  refine z_callV (av := []) (st := []) wV_NumberOfficeLaw_71 e30 (t_Mo_thrown hG e22) (by decide) (by decide) d_Law_law_281 (by simp [z_rfc, z_ci, z_cl, z_cr, z_cn]) ?_
  show Z _ _ _ _ _ _ 284 [(6, .int (x20)), (5, .int (x10)), (0, .ref (a1)), (1, va_rf (v1)), (2, .ref (a17)), (3, va_rf (v3)), (4, .int (v4))] [.int (x23)] _
  refine z_iload 1 d_Law_law_284 rfl ?_
  refine z_icmp_eq (tgt := 291) d_Law_law_286 rfl (fun c24 => ?_) (fun c24 => ?_)
  · rw [if_pos c24] at h
    refine z_iload 1 d_Law_law_291 rfl ?_
    refine z_if_ne (tgt := 308) d_Law_law_293 rfl (fun c25 => ?_) (fun c25 => ?_)
    · rw [if_neg c25] at h
      refine z_lv (lv' := [(0, va_rf (some (a1))), (1, va_rf (v1)), (2, va_rf (some (a17))), (3, va_rf (v3)), (4, .int (v4)), (5, .int (x10)), (6, .int (x20))]) [2, 3, 4, 5, 6, 1, 0] rfl ?_
      exact t_Law_law_308 hG hl _ hk33 h
    · rw [if_pos c25] at h
      refine z_aload_nR 5 d_Law_law_296 rfl rfl ?_
      refine z_iconst (v := 0) d_Law_law_297 rfl ?_
      replace h := Option.bind_eq_some_iff.mp h; obtain ⟨a26, rfl, h⟩ := h
      replace h := Option.bind_eq_some_iff.mp h; obtain ⟨x27, e28, h⟩ := h
      refine z_laload rfl d_Law_law_298 e28 ?_
      refine z_iload 0 d_Law_law_299 rfl ?_
      refine z_i2l d_Law_law_301 ?_
      refine z_lcmp d_Law_law_302 ?_
      refine z_if_eq (tgt := 308) d_Law_law_303 rfl (fun c29 => ?_) (fun c29 => ?_)
      · rw [if_pos c29] at h
        refine z_lv (lv' := [(0, va_rf (some (a1))), (1, va_rf (v1)), (2, va_rf (some (a17))), (3, va_rf (some (a26))), (4, .int (v4)), (5, .int (x10)), (6, .int (x20))]) [2, 3, 4, 5, 6, 1, 0] rfl ?_
        exact t_Law_law_308 hG hl _ hk33 h
      · rw [if_neg c29] at h
        refine z_iconst (v := 0) d_Law_law_306 rfl ?_
        cases h
        exact z_zret rfl rfl rfl d_Law_law_307
  · rw [if_neg c24] at h
    refine z_iconst (v := 0) d_Law_law_289 rfl ?_
    cases h
    exact z_zret rfl rfl rfl d_Law_law_290
set_option maxRecDepth 100000 in
theorem t_Law_law_376 {l : Launch} {D : zD} {g : zG} (hG : zGok g D) (hl : zLo l) {q : Int32 × zS} (k33 : Option Nat → Option Nat → Option Nat → Option Nat → Int32 → zS → Option (Int32 × zS)) (hk33 : ∀ {v0 : Option Nat} {v1 : Option Nat} {v2 : Option Nat} {v3 : Option Nat} {v4 : Int32} {σ : zS}, k33 v0 v1 v2 v3 v4 σ = some q → Z l D K_Law_law 15 339 (.returned (some (.int q.1)), q.2) 33 [(0, va_rf (v0)), (1, va_rf (v1)), (2, va_rf (v2)), (3, va_rf (v3)), (4, .int (v4))] [] σ) {v0 : Option Nat} {v1 : Option Nat} {v2 : Option Nat} {v3 : Option Nat} {v4 : Int32} {v5 : Int32} {v6 : Int32} {σ : zS} (h : s_Law_law_376 g k33 v0 v1 v2 v3 v4 v5 v6 σ = some q) : Z l D K_Law_law 15 339 (.returned (some (.int q.1)), q.2) 376 [(0, va_rf (v0)), (1, va_rf (v1)), (2, va_rf (v2)), (3, va_rf (v3)), (4, .int (v4)), (5, .int (v5)), (6, .int (v6))] [] σ := by
  unfold s_Law_law_376 at h
  refine z_goto (tgt := 1387) d_Law_law_376 rfl ?_
  refine z_lv (lv' := [(0, va_rf (v0)), (1, va_rf (v1)), (2, va_rf (v2)), (3, va_rf (v3)), (4, .int (v4))]) [0, 1, 2, 3, 4] rfl ?_
  exact t_Law_law_1387 hG hl _ hk33 h
set_option maxRecDepth 100000 in
theorem t_Law_law_311 {l : Launch} {D : zD} {g : zG} (hG : zGok g D) (hl : zLo l) {q : Int32 × zS} (k33 : Option Nat → Option Nat → Option Nat → Option Nat → Int32 → zS → Option (Int32 × zS)) (hk33 : ∀ {v0 : Option Nat} {v1 : Option Nat} {v2 : Option Nat} {v3 : Option Nat} {v4 : Int32} {σ : zS}, k33 v0 v1 v2 v3 v4 σ = some q → Z l D K_Law_law 15 339 (.returned (some (.int q.1)), q.2) 33 [(0, va_rf (v0)), (1, va_rf (v1)), (2, va_rf (v2)), (3, va_rf (v3)), (4, .int (v4))] [] σ) {v0 : Option Nat} {v1 : Option Nat} {v2 : Option Nat} {v3 : Option Nat} {v4 : Int32} {σ : zS} (h : s_Law_law_311 g k33 v0 v1 v2 v3 v4 σ = some q) : Z l D K_Law_law 15 339 (.returned (some (.int q.1)), q.2) 311 [(0, va_rf (v0)), (1, va_rf (v1)), (2, va_rf (v2)), (3, va_rf (v3)), (4, .int (v4))] [] σ := by
  unfold s_Law_law_311 at h
  refine z_aload_nR 1 d_Law_law_311 rfl rfl ?_
  refine z_aload_nR 0 d_Law_law_312 rfl rfl ?_
  refine z_iload 4 d_Law_law_313 rfl ?_
  refine z_iconst (v := 1) d_Law_law_315 rfl ?_
  refine z_iadd d_Law_law_316 ?_
  replace h := Option.bind_eq_some_iff.mp h; obtain ⟨a1, rfl, h⟩ := h
  replace h := Option.bind_eq_some_iff.mp h; obtain ⟨x2, e3, h⟩ := h
  refine z_iaload rfl d_Law_law_317 e3 ?_
  refine z_aload_n 0 d_Law_law_318 rfl rfl ?_
  refine z_iload 4 d_Law_law_319 rfl ?_
  refine z_iconst (v := 2) d_Law_law_321 rfl ?_
  refine z_iadd d_Law_law_322 ?_
  replace h := Option.bind_eq_some_iff.mp h; obtain ⟨x4, e5, h⟩ := h
  refine z_iaload rfl d_Law_law_323 e5 ?_
  refine z_aload_nR 3 d_Law_law_324 rfl rfl ?_
  replace h := Option.bind_eq_some_iff.mp h; obtain ⟨⟨x8, σ6⟩, e7, h⟩ := h
  dsimp only at h
  refine z_callS (av := [va_rf (v1), .int (x2), .int (x4), va_rf (v3)]) (st := []) wS_NumberOfficeLaw_79 (t_Law_report hG hl e7) (by decide) (by decide) d_Law_law_325 (by simp [z_rfc, z_ci, z_cl, z_cr, z_cn]) ?_
  show Z _ _ _ _ _ _ 328 [(0, .ref (a1)), (1, va_rf (v1)), (2, va_rf (v2)), (3, va_rf (v3)), (4, .int (v4))] [.int (x8)] _
  refine z_istore (j := 5) (lv' := [(5, .int (x8)), (0, .ref (a1)), (1, va_rf (v1)), (2, va_rf (v2)), (3, va_rf (v3)), (4, .int (v4))]) d_Law_law_328 (by decide) rfl ?_
  refine z_aload_nR 3 d_Law_law_330 rfl rfl ?_
  refine z_aload_n 1 d_Law_law_331 rfl rfl ?_
  refine z_iload 5 d_Law_law_332 rfl ?_
  refine z_iconst (v := 1) d_Law_law_334 rfl ?_
  refine z_iadd d_Law_law_335 ?_
  replace h := Option.bind_eq_some_iff.mp h; obtain ⟨x9, e10, h⟩ := h
  refine z_iaload rfl d_Law_law_336 e10 ?_
  refine z_aload_n 1 d_Law_law_337 rfl rfl ?_
  refine z_iload 5 d_Law_law_338 rfl ?_
  refine z_iconst (v := 2) d_Law_law_340 rfl ?_
  refine z_iadd d_Law_law_341 ?_
  replace h := Option.bind_eq_some_iff.mp h; obtain ⟨x11, e12, h⟩ := h
  refine z_iaload rfl d_Law_law_342 e12 ?_
  replace h := Option.bind_eq_some_iff.mp h; obtain ⟨a13, rfl, h⟩ := h
  replace h := Option.bind_eq_some_iff.mp h; obtain ⟨_, e29, h⟩ := h
  obtain ⟨b30, f31, e29⟩ := zcls_at (zis_at e29)
  replace h := Option.bind_eq_some_iff.mp h; obtain ⟨⟨x16, σ14⟩, e15, h⟩ := h
  dsimp only at h
  refine z_callV (av := [.int (x9), .int (x11)]) (st := []) wV_NumberOfficeLaw_81 e29 (t_Mo_report hG e15) (by decide) (by decide) d_Law_law_343 (by simp [z_rfc, z_ci, z_cl, z_cr, z_cn]) ?_
  show Z _ _ _ _ _ _ 346 [(5, .int (x8)), (0, .ref (a1)), (1, va_rf (v1)), (2, .ref (a13)), (3, va_rf (v3)), (4, .int (v4))] [.int (x16)] _
  refine z_istore (j := 6) (lv' := [(6, .int (x16)), (5, .int (x8)), (0, .ref (a1)), (1, va_rf (v1)), (2, .ref (a13)), (3, va_rf (v3)), (4, .int (v4))]) d_Law_law_346 (by decide) rfl ?_
  refine z_aload_n 4 d_Law_law_348 rfl rfl ?_
  replace h := Option.bind_eq_some_iff.mp h; obtain ⟨_, e26, h⟩ := h
  obtain ⟨b27, f28, e26⟩ := zcls_at (zis_at e26)
  replace h := Option.bind_eq_some_iff.mp h; obtain ⟨⟨x19, σ17⟩, e18, h⟩ := h
  dsimp only at h
  refine z_callV (av := []) (st := []) wV_NumberOfficeLaw_71 e26 (t_Mo_thrown hG e18) (by decide) (by decide) d_Law_law_349 (by simp [z_rfc, z_ci, z_cl, z_cr, z_cn]) ?_
  show Z _ _ _ _ _ _ 352 [(6, .int (x16)), (5, .int (x8)), (0, .ref (a1)), (1, va_rf (v1)), (2, .ref (a13)), (3, va_rf (v3)), (4, .int (v4))] [.int (x19)] _
  refine z_iload 1 d_Law_law_352 rfl ?_
  refine z_icmp_eq (tgt := 359) d_Law_law_354 rfl (fun c20 => ?_) (fun c20 => ?_)
  · rw [if_pos c20] at h
    refine z_iload 1 d_Law_law_359 rfl ?_
    refine z_if_ne (tgt := 376) d_Law_law_361 rfl (fun c21 => ?_) (fun c21 => ?_)
    · rw [if_neg c21] at h
      refine z_lv (lv' := [(0, va_rf (some (a1))), (1, va_rf (v1)), (2, va_rf (some (a13))), (3, va_rf (v3)), (4, .int (v4)), (5, .int (x8)), (6, .int (x16))]) [2, 3, 4, 5, 6, 1, 0] rfl ?_
      exact t_Law_law_376 hG hl _ hk33 h
    · rw [if_pos c21] at h
      refine z_aload_nR 5 d_Law_law_364 rfl rfl ?_
      refine z_iconst (v := 0) d_Law_law_365 rfl ?_
      replace h := Option.bind_eq_some_iff.mp h; obtain ⟨a22, rfl, h⟩ := h
      replace h := Option.bind_eq_some_iff.mp h; obtain ⟨x23, e24, h⟩ := h
      refine z_laload rfl d_Law_law_366 e24 ?_
      refine z_iload 0 d_Law_law_367 rfl ?_
      refine z_i2l d_Law_law_369 ?_
      refine z_lcmp d_Law_law_370 ?_
      refine z_if_eq (tgt := 376) d_Law_law_371 rfl (fun c25 => ?_) (fun c25 => ?_)
      · rw [if_pos c25] at h
        refine z_lv (lv' := [(0, va_rf (some (a1))), (1, va_rf (v1)), (2, va_rf (some (a13))), (3, va_rf (some (a22))), (4, .int (v4)), (5, .int (x8)), (6, .int (x16))]) [2, 3, 4, 5, 6, 1, 0] rfl ?_
        exact t_Law_law_376 hG hl _ hk33 h
      · rw [if_neg c25] at h
        refine z_iconst (v := 0) d_Law_law_374 rfl ?_
        cases h
        exact z_zret rfl rfl rfl d_Law_law_375
  · rw [if_neg c20] at h
    refine z_iconst (v := 0) d_Law_law_357 rfl ?_
    cases h
    exact z_zret rfl rfl rfl d_Law_law_358
set_option maxRecDepth 100000 in
theorem t_Law_law_379 {l : Launch} {D : zD} {g : zG} (hG : zGok g D) (hl : zLo l) {q : Int32 × zS} (k33 : Option Nat → Option Nat → Option Nat → Option Nat → Int32 → zS → Option (Int32 × zS)) (hk33 : ∀ {v0 : Option Nat} {v1 : Option Nat} {v2 : Option Nat} {v3 : Option Nat} {v4 : Int32} {σ : zS}, k33 v0 v1 v2 v3 v4 σ = some q → Z l D K_Law_law 15 339 (.returned (some (.int q.1)), q.2) 33 [(0, va_rf (v0)), (1, va_rf (v1)), (2, va_rf (v2)), (3, va_rf (v3)), (4, .int (v4))] [] σ) {v0 : Option Nat} {v1 : Option Nat} {v2 : Option Nat} {v3 : Option Nat} {v4 : Int32} {σ : zS} (h : s_Law_law_379 g k33 v0 v1 v2 v3 v4 σ = some q) : Z l D K_Law_law 15 339 (.returned (some (.int q.1)), q.2) 379 [(0, va_rf (v0)), (1, va_rf (v1)), (2, va_rf (v2)), (3, va_rf (v3)), (4, .int (v4))] [] σ := by
  unfold s_Law_law_379 at h
  refine z_aload_nR 1 d_Law_law_379 rfl rfl ?_
  refine z_aload_nR 0 d_Law_law_380 rfl rfl ?_
  refine z_iload 4 d_Law_law_381 rfl ?_
  refine z_iconst (v := 1) d_Law_law_383 rfl ?_
  refine z_iadd d_Law_law_384 ?_
  replace h := Option.bind_eq_some_iff.mp h; obtain ⟨a1, rfl, h⟩ := h
  replace h := Option.bind_eq_some_iff.mp h; obtain ⟨x2, e3, h⟩ := h
  refine z_iaload rfl d_Law_law_385 e3 ?_
  replace h := Option.bind_eq_some_iff.mp h; obtain ⟨a4, rfl, h⟩ := h
  replace h := Option.bind_eq_some_iff.mp h; obtain ⟨_, e18, h⟩ := h
  obtain ⟨b19, f20, e18⟩ := zcls_at (zis_at e18)
  replace h := Option.bind_eq_some_iff.mp h; obtain ⟨⟨x7, σ5⟩, e6, h⟩ := h
  dsimp only at h
  refine z_callV (av := [.int (x2)]) (st := []) wV_NumberOfficeLaw_82 e18 (t_No_again hG e6) (by decide) (by decide) d_Law_law_386 (by simp [z_rfc, z_ci, z_cl, z_cr, z_cn]) ?_
  show Z _ _ _ _ _ _ 389 [(0, .ref (a1)), (1, .ref (a4)), (2, va_rf (v2)), (3, va_rf (v3)), (4, .int (v4))] [.int (x7)] _
  refine z_aload_nR 2 d_Law_law_389 rfl rfl ?_
  refine z_aload_n 0 d_Law_law_390 rfl rfl ?_
  refine z_iload 4 d_Law_law_391 rfl ?_
  refine z_iconst (v := 1) d_Law_law_393 rfl ?_
  refine z_iadd d_Law_law_394 ?_
  replace h := Option.bind_eq_some_iff.mp h; obtain ⟨x8, e9, h⟩ := h
  refine z_iaload rfl d_Law_law_395 e9 ?_
  replace h := Option.bind_eq_some_iff.mp h; obtain ⟨a10, rfl, h⟩ := h
  replace h := Option.bind_eq_some_iff.mp h; obtain ⟨_, e15, h⟩ := h
  obtain ⟨b16, f17, e15⟩ := zcls_at (zis_at e15)
  replace h := Option.bind_eq_some_iff.mp h; obtain ⟨⟨x13, σ11⟩, e12, h⟩ := h
  dsimp only at h
  refine z_callV (av := [.int (x8)]) (st := [.int (x7)]) wV_NumberOfficeLaw_86 e15 (t_Mo_again hG e12) (by decide) (by decide) d_Law_law_396 (by simp [z_rfc, z_ci, z_cl, z_cr, z_cn]) ?_
  show Z _ _ _ _ _ _ 399 [(0, .ref (a1)), (1, .ref (a4)), (2, .ref (a10)), (3, va_rf (v3)), (4, .int (v4))] [.int (x13), .int (x7)] _
  refine z_icmp_eq (tgt := 1387) d_Law_law_399 rfl (fun c14 => ?_) (fun c14 => ?_)
  · rw [if_pos c14] at h
    refine z_lv (lv' := [(0, va_rf (some (a1))), (1, va_rf (some (a4))), (2, va_rf (some (a10))), (3, va_rf (v3)), (4, .int (v4))]) [0, 1, 2, 3, 4] rfl ?_
    exact t_Law_law_1387 hG hl _ hk33 h
  · rw [if_neg c14] at h
    refine z_iconst (v := 0) d_Law_law_402 rfl ?_
    cases h
    exact z_zret rfl rfl rfl d_Law_law_403
set_option maxRecDepth 100000 in
theorem t_Law_law_525 {l : Launch} {D : zD} {g : zG} (hG : zGok g D) (hl : zLo l) {q : Int32 × zS} (k33 : Option Nat → Option Nat → Option Nat → Option Nat → Int32 → zS → Option (Int32 × zS)) (hk33 : ∀ {v0 : Option Nat} {v1 : Option Nat} {v2 : Option Nat} {v3 : Option Nat} {v4 : Int32} {σ : zS}, k33 v0 v1 v2 v3 v4 σ = some q → Z l D K_Law_law 15 339 (.returned (some (.int q.1)), q.2) 33 [(0, va_rf (v0)), (1, va_rf (v1)), (2, va_rf (v2)), (3, va_rf (v3)), (4, .int (v4))] [] σ) {v0 : Option Nat} {v1 : Option Nat} {v2 : Option Nat} {v3 : Option Nat} {v4 : Int32} {v5 : Int32} {v6 : Int32} {σ : zS} (h : s_Law_law_525 g k33 v0 v1 v2 v3 v4 v5 v6 σ = some q) : Z l D K_Law_law 15 339 (.returned (some (.int q.1)), q.2) 525 [(0, va_rf (v0)), (1, va_rf (v1)), (2, va_rf (v2)), (3, va_rf (v3)), (4, .int (v4)), (5, .int (v5)), (6, .int (v6))] [] σ := by
  unfold s_Law_law_525 at h
  refine z_goto (tgt := 1387) d_Law_law_525 rfl ?_
  refine z_lv (lv' := [(0, va_rf (v0)), (1, va_rf (v1)), (2, va_rf (v2)), (3, va_rf (v3)), (4, .int (v4))]) [0, 1, 2, 3, 4] rfl ?_
  exact t_Law_law_1387 hG hl _ hk33 h
set_option maxRecDepth 100000 in
theorem t_Law_law_404 {l : Launch} {D : zD} {g : zG} (hG : zGok g D) (hl : zLo l) {q : Int32 × zS} (k33 : Option Nat → Option Nat → Option Nat → Option Nat → Int32 → zS → Option (Int32 × zS)) (hk33 : ∀ {v0 : Option Nat} {v1 : Option Nat} {v2 : Option Nat} {v3 : Option Nat} {v4 : Int32} {σ : zS}, k33 v0 v1 v2 v3 v4 σ = some q → Z l D K_Law_law 15 339 (.returned (some (.int q.1)), q.2) 33 [(0, va_rf (v0)), (1, va_rf (v1)), (2, va_rf (v2)), (3, va_rf (v3)), (4, .int (v4))] [] σ) {v0 : Option Nat} {v1 : Option Nat} {v2 : Option Nat} {v3 : Option Nat} {v4 : Int32} {σ : zS} (h : s_Law_law_404 g k33 v0 v1 v2 v3 v4 σ = some q) : Z l D K_Law_law 15 339 (.returned (some (.int q.1)), q.2) 404 [(0, va_rf (v0)), (1, va_rf (v1)), (2, va_rf (v2)), (3, va_rf (v3)), (4, .int (v4))] [] σ := by
  unfold s_Law_law_404 at h
  refine z_aload_nR 1 d_Law_law_404 rfl rfl ?_
  refine z_aload_nR 0 d_Law_law_405 rfl rfl ?_
  refine z_iload 4 d_Law_law_406 rfl ?_
  refine z_iconst (v := 1) d_Law_law_408 rfl ?_
  refine z_iadd d_Law_law_409 ?_
  replace h := Option.bind_eq_some_iff.mp h; obtain ⟨a1, rfl, h⟩ := h
  replace h := Option.bind_eq_some_iff.mp h; obtain ⟨x2, e3, h⟩ := h
  refine z_iaload rfl d_Law_law_410 e3 ?_
  refine z_aload_n 0 d_Law_law_411 rfl rfl ?_
  refine z_iload 4 d_Law_law_412 rfl ?_
  refine z_iconst (v := 2) d_Law_law_414 rfl ?_
  refine z_iadd d_Law_law_415 ?_
  replace h := Option.bind_eq_some_iff.mp h; obtain ⟨x4, e5, h⟩ := h
  refine z_iaload rfl d_Law_law_416 e5 ?_
  refine z_aload_n 0 d_Law_law_417 rfl rfl ?_
  refine z_iload 4 d_Law_law_418 rfl ?_
  refine z_iconst (v := 3) d_Law_law_420 rfl ?_
  refine z_iadd d_Law_law_421 ?_
  replace h := Option.bind_eq_some_iff.mp h; obtain ⟨x6, e7, h⟩ := h
  refine z_iaload rfl d_Law_law_422 e7 ?_
  refine z_i2l d_Law_law_423 ?_
  refine z_bipush (v := 32) d_Law_law_424 rfl ?_
  refine z_lshl d_Law_law_426 rfl ?_
  refine z_aload_n 0 d_Law_law_427 rfl rfl ?_
  refine z_iload 4 d_Law_law_428 rfl ?_
  refine z_iconst (v := 4) d_Law_law_430 rfl ?_
  refine z_iadd d_Law_law_431 ?_
  replace h := Option.bind_eq_some_iff.mp h; obtain ⟨x8, e9, h⟩ := h
  refine z_iaload rfl d_Law_law_432 e9 ?_
  refine z_i2l d_Law_law_433 ?_
  refine z_ldc2 (v := 4294967295) wC_NumberOfficeLaw_87 d_Law_law_434 ?_
  refine z_land d_Law_law_437 ?_
  refine z_lor d_Law_law_438 ?_
  refine z_aload_n 0 d_Law_law_439 rfl rfl ?_
  refine z_iload 4 d_Law_law_440 rfl ?_
  refine z_iconst (v := 5) d_Law_law_442 rfl ?_
  refine z_iadd d_Law_law_443 ?_
  replace h := Option.bind_eq_some_iff.mp h; obtain ⟨x10, e11, h⟩ := h
  refine z_iaload rfl d_Law_law_444 e11 ?_
  refine z_aload_nR 3 d_Law_law_445 rfl rfl ?_
  replace h := Option.bind_eq_some_iff.mp h; obtain ⟨⟨x14, σ12⟩, e13, h⟩ := h
  dsimp only at h
  refine z_callS (av := [va_rf (v1), .int (x2), .int (x4), .long (((x6.toInt64) <<< ((32 : Int32).toInt64 &&& 63)) ||| ((x8.toInt64) &&& 4294967295)), .int (x10), va_rf (v3)]) (st := []) wS_NumberOfficeLaw_89 (t_Law_invoice hG hl e13) (by decide) (by decide) d_Law_law_446 (by simp [z_rfc, z_ci, z_cl, z_cr, z_cn]) ?_
  show Z _ _ _ _ _ _ 449 [(0, .ref (a1)), (1, va_rf (v1)), (2, va_rf (v2)), (3, va_rf (v3)), (4, .int (v4))] [.int (x14)] _
  refine z_istore (j := 5) (lv' := [(5, .int (x14)), (0, .ref (a1)), (1, va_rf (v1)), (2, va_rf (v2)), (3, va_rf (v3)), (4, .int (v4))]) d_Law_law_449 (by decide) rfl ?_
  refine z_aload_nR 3 d_Law_law_451 rfl rfl ?_
  refine z_aload_n 1 d_Law_law_452 rfl rfl ?_
  refine z_iload 5 d_Law_law_453 rfl ?_
  refine z_iconst (v := 1) d_Law_law_455 rfl ?_
  refine z_iadd d_Law_law_456 ?_
  replace h := Option.bind_eq_some_iff.mp h; obtain ⟨x15, e16, h⟩ := h
  refine z_iaload rfl d_Law_law_457 e16 ?_
  refine z_aload_n 1 d_Law_law_458 rfl rfl ?_
  refine z_iload 5 d_Law_law_459 rfl ?_
  refine z_iconst (v := 2) d_Law_law_461 rfl ?_
  refine z_iadd d_Law_law_462 ?_
  replace h := Option.bind_eq_some_iff.mp h; obtain ⟨x17, e18, h⟩ := h
  refine z_iaload rfl d_Law_law_463 e18 ?_
  refine z_aload_n 1 d_Law_law_464 rfl rfl ?_
  refine z_iload 5 d_Law_law_465 rfl ?_
  refine z_iconst (v := 3) d_Law_law_467 rfl ?_
  refine z_iadd d_Law_law_468 ?_
  replace h := Option.bind_eq_some_iff.mp h; obtain ⟨x19, e20, h⟩ := h
  refine z_iaload rfl d_Law_law_469 e20 ?_
  refine z_i2l d_Law_law_470 ?_
  refine z_bipush (v := 32) d_Law_law_471 rfl ?_
  refine z_lshl d_Law_law_473 rfl ?_
  refine z_aload_n 1 d_Law_law_474 rfl rfl ?_
  refine z_iload 5 d_Law_law_475 rfl ?_
  refine z_iconst (v := 4) d_Law_law_477 rfl ?_
  refine z_iadd d_Law_law_478 ?_
  replace h := Option.bind_eq_some_iff.mp h; obtain ⟨x21, e22, h⟩ := h
  refine z_iaload rfl d_Law_law_479 e22 ?_
  refine z_i2l d_Law_law_480 ?_
  refine z_ldc2 (v := 4294967295) wC_NumberOfficeLaw_87 d_Law_law_481 ?_
  refine z_land d_Law_law_484 ?_
  refine z_lor d_Law_law_485 ?_
  refine z_aload_n 1 d_Law_law_486 rfl rfl ?_
  refine z_iload 5 d_Law_law_487 rfl ?_
  refine z_iconst (v := 5) d_Law_law_489 rfl ?_
  refine z_iadd d_Law_law_490 ?_
  replace h := Option.bind_eq_some_iff.mp h; obtain ⟨x23, e24, h⟩ := h
  refine z_iaload rfl d_Law_law_491 e24 ?_
  replace h := Option.bind_eq_some_iff.mp h; obtain ⟨a25, rfl, h⟩ := h
  replace h := Option.bind_eq_some_iff.mp h; obtain ⟨_, e41, h⟩ := h
  obtain ⟨b42, f43, e41⟩ := zcls_at (zis_at e41)
  replace h := Option.bind_eq_some_iff.mp h; obtain ⟨⟨x28, σ26⟩, e27, h⟩ := h
  dsimp only at h
  refine z_callV (av := [.int (x15), .int (x17), .long (((x19.toInt64) <<< ((32 : Int32).toInt64 &&& 63)) ||| ((x21.toInt64) &&& 4294967295)), .int (x23)]) (st := []) wV_NumberOfficeLaw_92 e41 (t_Mo_invoice hG e27) (by decide) (by decide) d_Law_law_492 (by simp [z_rfc, z_ci, z_cl, z_cr, z_cn]) ?_
  show Z _ _ _ _ _ _ 495 [(5, .int (x14)), (0, .ref (a1)), (1, va_rf (v1)), (2, .ref (a25)), (3, va_rf (v3)), (4, .int (v4))] [.int (x28)] _
  refine z_istore (j := 6) (lv' := [(6, .int (x28)), (5, .int (x14)), (0, .ref (a1)), (1, va_rf (v1)), (2, .ref (a25)), (3, va_rf (v3)), (4, .int (v4))]) d_Law_law_495 (by decide) rfl ?_
  refine z_aload_n 4 d_Law_law_497 rfl rfl ?_
  replace h := Option.bind_eq_some_iff.mp h; obtain ⟨_, e38, h⟩ := h
  obtain ⟨b39, f40, e38⟩ := zcls_at (zis_at e38)
  replace h := Option.bind_eq_some_iff.mp h; obtain ⟨⟨x31, σ29⟩, e30, h⟩ := h
  dsimp only at h
  refine z_callV (av := []) (st := []) wV_NumberOfficeLaw_71 e38 (t_Mo_thrown hG e30) (by decide) (by decide) d_Law_law_498 (by simp [z_rfc, z_ci, z_cl, z_cr, z_cn]) ?_
  show Z _ _ _ _ _ _ 501 [(6, .int (x28)), (5, .int (x14)), (0, .ref (a1)), (1, va_rf (v1)), (2, .ref (a25)), (3, va_rf (v3)), (4, .int (v4))] [.int (x31)] _
  refine z_iload 1 d_Law_law_501 rfl ?_
  refine z_icmp_eq (tgt := 508) d_Law_law_503 rfl (fun c32 => ?_) (fun c32 => ?_)
  · rw [if_pos c32] at h
    refine z_iload 1 d_Law_law_508 rfl ?_
    refine z_if_ne (tgt := 525) d_Law_law_510 rfl (fun c33 => ?_) (fun c33 => ?_)
    · rw [if_neg c33] at h
      refine z_lv (lv' := [(0, va_rf (some (a1))), (1, va_rf (v1)), (2, va_rf (some (a25))), (3, va_rf (v3)), (4, .int (v4)), (5, .int (x14)), (6, .int (x28))]) [2, 3, 4, 5, 6, 1, 0] rfl ?_
      exact t_Law_law_525 hG hl _ hk33 h
    · rw [if_pos c33] at h
      refine z_aload_nR 5 d_Law_law_513 rfl rfl ?_
      refine z_iconst (v := 0) d_Law_law_514 rfl ?_
      replace h := Option.bind_eq_some_iff.mp h; obtain ⟨a34, rfl, h⟩ := h
      replace h := Option.bind_eq_some_iff.mp h; obtain ⟨x35, e36, h⟩ := h
      refine z_laload rfl d_Law_law_515 e36 ?_
      refine z_iload 0 d_Law_law_516 rfl ?_
      refine z_i2l d_Law_law_518 ?_
      refine z_lcmp d_Law_law_519 ?_
      refine z_if_eq (tgt := 525) d_Law_law_520 rfl (fun c37 => ?_) (fun c37 => ?_)
      · rw [if_pos c37] at h
        refine z_lv (lv' := [(0, va_rf (some (a1))), (1, va_rf (v1)), (2, va_rf (some (a25))), (3, va_rf (some (a34))), (4, .int (v4)), (5, .int (x14)), (6, .int (x28))]) [2, 3, 4, 5, 6, 1, 0] rfl ?_
        exact t_Law_law_525 hG hl _ hk33 h
      · rw [if_neg c37] at h
        refine z_iconst (v := 0) d_Law_law_523 rfl ?_
        cases h
        exact z_zret rfl rfl rfl d_Law_law_524
  · rw [if_neg c32] at h
    refine z_iconst (v := 0) d_Law_law_506 rfl ?_
    cases h
    exact z_zret rfl rfl rfl d_Law_law_507
set_option maxRecDepth 100000 in
theorem t_Law_law_605 {l : Launch} {D : zD} {g : zG} (hG : zGok g D) (hl : zLo l) {q : Int32 × zS} (k33 : Option Nat → Option Nat → Option Nat → Option Nat → Int32 → zS → Option (Int32 × zS)) (hk33 : ∀ {v0 : Option Nat} {v1 : Option Nat} {v2 : Option Nat} {v3 : Option Nat} {v4 : Int32} {σ : zS}, k33 v0 v1 v2 v3 v4 σ = some q → Z l D K_Law_law 15 339 (.returned (some (.int q.1)), q.2) 33 [(0, va_rf (v0)), (1, va_rf (v1)), (2, va_rf (v2)), (3, va_rf (v3)), (4, .int (v4))] [] σ) {v0 : Option Nat} {v1 : Option Nat} {v2 : Option Nat} {v3 : Option Nat} {v4 : Int32} {v5 : Int32} {v6 : Int32} {σ : zS} (h : s_Law_law_605 g k33 v0 v1 v2 v3 v4 v5 v6 σ = some q) : Z l D K_Law_law 15 339 (.returned (some (.int q.1)), q.2) 605 [(0, va_rf (v0)), (1, va_rf (v1)), (2, va_rf (v2)), (3, va_rf (v3)), (4, .int (v4)), (5, .int (v5)), (6, .int (v6))] [] σ := by
  unfold s_Law_law_605 at h
  refine z_goto (tgt := 1387) d_Law_law_605 rfl ?_
  refine z_lv (lv' := [(0, va_rf (v0)), (1, va_rf (v1)), (2, va_rf (v2)), (3, va_rf (v3)), (4, .int (v4))]) [0, 1, 2, 3, 4] rfl ?_
  exact t_Law_law_1387 hG hl _ hk33 h
set_option maxRecDepth 100000 in
theorem t_Law_law_528 {l : Launch} {D : zD} {g : zG} (hG : zGok g D) (hl : zLo l) {q : Int32 × zS} (k33 : Option Nat → Option Nat → Option Nat → Option Nat → Int32 → zS → Option (Int32 × zS)) (hk33 : ∀ {v0 : Option Nat} {v1 : Option Nat} {v2 : Option Nat} {v3 : Option Nat} {v4 : Int32} {σ : zS}, k33 v0 v1 v2 v3 v4 σ = some q → Z l D K_Law_law 15 339 (.returned (some (.int q.1)), q.2) 33 [(0, va_rf (v0)), (1, va_rf (v1)), (2, va_rf (v2)), (3, va_rf (v3)), (4, .int (v4))] [] σ) {v0 : Option Nat} {v1 : Option Nat} {v2 : Option Nat} {v3 : Option Nat} {v4 : Int32} {σ : zS} (h : s_Law_law_528 g k33 v0 v1 v2 v3 v4 σ = some q) : Z l D K_Law_law 15 339 (.returned (some (.int q.1)), q.2) 528 [(0, va_rf (v0)), (1, va_rf (v1)), (2, va_rf (v2)), (3, va_rf (v3)), (4, .int (v4))] [] σ := by
  unfold s_Law_law_528 at h
  refine z_aload_nR 1 d_Law_law_528 rfl rfl ?_
  refine z_aload_nR 0 d_Law_law_529 rfl rfl ?_
  refine z_iload 4 d_Law_law_530 rfl ?_
  refine z_iconst (v := 1) d_Law_law_532 rfl ?_
  refine z_iadd d_Law_law_533 ?_
  replace h := Option.bind_eq_some_iff.mp h; obtain ⟨a1, rfl, h⟩ := h
  replace h := Option.bind_eq_some_iff.mp h; obtain ⟨x2, e3, h⟩ := h
  refine z_iaload rfl d_Law_law_534 e3 ?_
  refine z_aload_n 0 d_Law_law_535 rfl rfl ?_
  refine z_iload 4 d_Law_law_536 rfl ?_
  refine z_iconst (v := 2) d_Law_law_538 rfl ?_
  refine z_iadd d_Law_law_539 ?_
  replace h := Option.bind_eq_some_iff.mp h; obtain ⟨x4, e5, h⟩ := h
  refine z_iaload rfl d_Law_law_540 e5 ?_
  refine z_aload_n 0 d_Law_law_541 rfl rfl ?_
  refine z_iload 4 d_Law_law_542 rfl ?_
  refine z_iconst (v := 3) d_Law_law_544 rfl ?_
  refine z_iadd d_Law_law_545 ?_
  replace h := Option.bind_eq_some_iff.mp h; obtain ⟨x6, e7, h⟩ := h
  refine z_iaload rfl d_Law_law_546 e7 ?_
  refine z_aload_nR 3 d_Law_law_547 rfl rfl ?_
  replace h := Option.bind_eq_some_iff.mp h; obtain ⟨⟨x10, σ8⟩, e9, h⟩ := h
  dsimp only at h
  refine z_callS (av := [va_rf (v1), .int (x2), .int (x4), .int (x6), va_rf (v3)]) (st := []) wS_NumberOfficeLaw_93 (t_Law_voidNext hG hl e9) (by decide) (by decide) d_Law_law_548 (by simp [z_rfc, z_ci, z_cl, z_cr, z_cn]) ?_
  show Z _ _ _ _ _ _ 551 [(0, .ref (a1)), (1, va_rf (v1)), (2, va_rf (v2)), (3, va_rf (v3)), (4, .int (v4))] [.int (x10)] _
  refine z_istore (j := 5) (lv' := [(5, .int (x10)), (0, .ref (a1)), (1, va_rf (v1)), (2, va_rf (v2)), (3, va_rf (v3)), (4, .int (v4))]) d_Law_law_551 (by decide) rfl ?_
  refine z_aload_nR 3 d_Law_law_553 rfl rfl ?_
  refine z_aload_n 1 d_Law_law_554 rfl rfl ?_
  refine z_iload 5 d_Law_law_555 rfl ?_
  refine z_iconst (v := 1) d_Law_law_557 rfl ?_
  refine z_iadd d_Law_law_558 ?_
  replace h := Option.bind_eq_some_iff.mp h; obtain ⟨x11, e12, h⟩ := h
  refine z_iaload rfl d_Law_law_559 e12 ?_
  refine z_aload_n 1 d_Law_law_560 rfl rfl ?_
  refine z_iload 5 d_Law_law_561 rfl ?_
  refine z_iconst (v := 2) d_Law_law_563 rfl ?_
  refine z_iadd d_Law_law_564 ?_
  replace h := Option.bind_eq_some_iff.mp h; obtain ⟨x13, e14, h⟩ := h
  refine z_iaload rfl d_Law_law_565 e14 ?_
  refine z_aload_n 1 d_Law_law_566 rfl rfl ?_
  refine z_iload 5 d_Law_law_567 rfl ?_
  refine z_iconst (v := 3) d_Law_law_569 rfl ?_
  refine z_iadd d_Law_law_570 ?_
  replace h := Option.bind_eq_some_iff.mp h; obtain ⟨x15, e16, h⟩ := h
  refine z_iaload rfl d_Law_law_571 e16 ?_
  replace h := Option.bind_eq_some_iff.mp h; obtain ⟨a17, rfl, h⟩ := h
  replace h := Option.bind_eq_some_iff.mp h; obtain ⟨_, e33, h⟩ := h
  obtain ⟨b34, f35, e33⟩ := zcls_at (zis_at e33)
  replace h := Option.bind_eq_some_iff.mp h; obtain ⟨⟨x20, σ18⟩, e19, h⟩ := h
  dsimp only at h
  refine z_callV (av := [.int (x11), .int (x13), .int (x15)]) (st := []) wV_NumberOfficeLaw_95 e33 (t_Mo_voidNext hG e19) (by decide) (by decide) d_Law_law_572 (by simp [z_rfc, z_ci, z_cl, z_cr, z_cn]) ?_
  show Z _ _ _ _ _ _ 575 [(5, .int (x10)), (0, .ref (a1)), (1, va_rf (v1)), (2, .ref (a17)), (3, va_rf (v3)), (4, .int (v4))] [.int (x20)] _
  refine z_istore (j := 6) (lv' := [(6, .int (x20)), (5, .int (x10)), (0, .ref (a1)), (1, va_rf (v1)), (2, .ref (a17)), (3, va_rf (v3)), (4, .int (v4))]) d_Law_law_575 (by decide) rfl ?_
  refine z_aload_n 4 d_Law_law_577 rfl rfl ?_
  replace h := Option.bind_eq_some_iff.mp h; obtain ⟨_, e30, h⟩ := h
  obtain ⟨b31, f32, e30⟩ := zcls_at (zis_at e30)
  replace h := Option.bind_eq_some_iff.mp h; obtain ⟨⟨x23, σ21⟩, e22, h⟩ := h
  dsimp only at h
  refine z_callV (av := []) (st := []) wV_NumberOfficeLaw_71 e30 (t_Mo_thrown hG e22) (by decide) (by decide) d_Law_law_578 (by simp [z_rfc, z_ci, z_cl, z_cr, z_cn]) ?_
  show Z _ _ _ _ _ _ 581 [(6, .int (x20)), (5, .int (x10)), (0, .ref (a1)), (1, va_rf (v1)), (2, .ref (a17)), (3, va_rf (v3)), (4, .int (v4))] [.int (x23)] _
  refine z_iload 1 d_Law_law_581 rfl ?_
  refine z_icmp_eq (tgt := 588) d_Law_law_583 rfl (fun c24 => ?_) (fun c24 => ?_)
  · rw [if_pos c24] at h
    refine z_iload 1 d_Law_law_588 rfl ?_
    refine z_if_ne (tgt := 605) d_Law_law_590 rfl (fun c25 => ?_) (fun c25 => ?_)
    · rw [if_neg c25] at h
      refine z_lv (lv' := [(0, va_rf (some (a1))), (1, va_rf (v1)), (2, va_rf (some (a17))), (3, va_rf (v3)), (4, .int (v4)), (5, .int (x10)), (6, .int (x20))]) [2, 3, 4, 5, 6, 1, 0] rfl ?_
      exact t_Law_law_605 hG hl _ hk33 h
    · rw [if_pos c25] at h
      refine z_aload_nR 5 d_Law_law_593 rfl rfl ?_
      refine z_iconst (v := 0) d_Law_law_594 rfl ?_
      replace h := Option.bind_eq_some_iff.mp h; obtain ⟨a26, rfl, h⟩ := h
      replace h := Option.bind_eq_some_iff.mp h; obtain ⟨x27, e28, h⟩ := h
      refine z_laload rfl d_Law_law_595 e28 ?_
      refine z_iload 0 d_Law_law_596 rfl ?_
      refine z_i2l d_Law_law_598 ?_
      refine z_lcmp d_Law_law_599 ?_
      refine z_if_eq (tgt := 605) d_Law_law_600 rfl (fun c29 => ?_) (fun c29 => ?_)
      · rw [if_pos c29] at h
        refine z_lv (lv' := [(0, va_rf (some (a1))), (1, va_rf (v1)), (2, va_rf (some (a17))), (3, va_rf (some (a26))), (4, .int (v4)), (5, .int (x10)), (6, .int (x20))]) [2, 3, 4, 5, 6, 1, 0] rfl ?_
        exact t_Law_law_605 hG hl _ hk33 h
      · rw [if_neg c29] at h
        refine z_iconst (v := 0) d_Law_law_603 rfl ?_
        cases h
        exact z_zret rfl rfl rfl d_Law_law_604
  · rw [if_neg c24] at h
    refine z_iconst (v := 0) d_Law_law_586 rfl ?_
    cases h
    exact z_zret rfl rfl rfl d_Law_law_587
set_option maxRecDepth 100000 in
theorem t_Law_law_704 {l : Launch} {D : zD} {g : zG} (hG : zGok g D) (hl : zLo l) {q : Int32 × zS} (k33 : Option Nat → Option Nat → Option Nat → Option Nat → Int32 → zS → Option (Int32 × zS)) (hk33 : ∀ {v0 : Option Nat} {v1 : Option Nat} {v2 : Option Nat} {v3 : Option Nat} {v4 : Int32} {σ : zS}, k33 v0 v1 v2 v3 v4 σ = some q → Z l D K_Law_law 15 339 (.returned (some (.int q.1)), q.2) 33 [(0, va_rf (v0)), (1, va_rf (v1)), (2, va_rf (v2)), (3, va_rf (v3)), (4, .int (v4))] [] σ) {v0 : Option Nat} {v1 : Option Nat} {v2 : Option Nat} {v3 : Option Nat} {v4 : Int32} {v5 : Int32} {v6 : Int32} {σ : zS} (h : s_Law_law_704 g k33 v0 v1 v2 v3 v4 v5 v6 σ = some q) : Z l D K_Law_law 15 339 (.returned (some (.int q.1)), q.2) 704 [(0, va_rf (v0)), (1, va_rf (v1)), (2, va_rf (v2)), (3, va_rf (v3)), (4, .int (v4)), (5, .int (v5)), (6, .int (v6))] [] σ := by
  unfold s_Law_law_704 at h
  refine z_goto (tgt := 1387) d_Law_law_704 rfl ?_
  refine z_lv (lv' := [(0, va_rf (v0)), (1, va_rf (v1)), (2, va_rf (v2)), (3, va_rf (v3)), (4, .int (v4))]) [0, 1, 2, 3, 4] rfl ?_
  exact t_Law_law_1387 hG hl _ hk33 h
set_option maxRecDepth 100000 in
theorem t_Law_law_698 {l : Launch} {D : zD} {g : zG} (hG : zGok g D) (hl : zLo l) {q : Int32 × zS} (k33 : Option Nat → Option Nat → Option Nat → Option Nat → Int32 → zS → Option (Int32 × zS)) (hk33 : ∀ {v0 : Option Nat} {v1 : Option Nat} {v2 : Option Nat} {v3 : Option Nat} {v4 : Int32} {σ : zS}, k33 v0 v1 v2 v3 v4 σ = some q → Z l D K_Law_law 15 339 (.returned (some (.int q.1)), q.2) 33 [(0, va_rf (v0)), (1, va_rf (v1)), (2, va_rf (v2)), (3, va_rf (v3)), (4, .int (v4))] [] σ) {v0 : Option Nat} {v1 : Option Nat} {v2 : Option Nat} {v3 : Option Nat} {v4 : Int32} {v5 : Int32} {v6 : Int32} {w0 : Int64} {w1 : Int64} {σ : zS} (h : s_Law_law_698 g k33 v0 v1 v2 v3 v4 v5 v6 w0 w1 σ = some q) : Z l D K_Law_law 15 339 (.returned (some (.int q.1)), q.2) 698 [(0, va_rf (v0)), (1, va_rf (v1)), (2, va_rf (v2)), (3, va_rf (v3)), (4, .int (v4)), (5, .int (v5)), (6, .int (v6))] [.long (w0), .long (w1)] σ := by
  unfold s_Law_law_698 at h
  refine z_lcmp d_Law_law_698 ?_
  refine z_if_eq (tgt := 704) d_Law_law_699 rfl (fun c1 => ?_) (fun c1 => ?_)
  · rw [if_pos c1] at h
    refine z_lv (lv' := [(0, va_rf (v0)), (1, va_rf (v1)), (2, va_rf (v2)), (3, va_rf (v3)), (4, .int (v4)), (5, .int (v5)), (6, .int (v6))]) [0, 1, 2, 3, 4, 5, 6] rfl ?_
    exact t_Law_law_704 hG hl _ hk33 h
  · rw [if_neg c1] at h
    refine z_iconst (v := 0) d_Law_law_702 rfl ?_
    cases h
    exact z_zret rfl rfl rfl d_Law_law_703
set_option maxRecDepth 100000 in
theorem t_Law_law_608 {l : Launch} {D : zD} {g : zG} (hG : zGok g D) (hl : zLo l) {q : Int32 × zS} (k33 : Option Nat → Option Nat → Option Nat → Option Nat → Int32 → zS → Option (Int32 × zS)) (hk33 : ∀ {v0 : Option Nat} {v1 : Option Nat} {v2 : Option Nat} {v3 : Option Nat} {v4 : Int32} {σ : zS}, k33 v0 v1 v2 v3 v4 σ = some q → Z l D K_Law_law 15 339 (.returned (some (.int q.1)), q.2) 33 [(0, va_rf (v0)), (1, va_rf (v1)), (2, va_rf (v2)), (3, va_rf (v3)), (4, .int (v4))] [] σ) {v0 : Option Nat} {v1 : Option Nat} {v2 : Option Nat} {v3 : Option Nat} {v4 : Int32} {σ : zS} (h : s_Law_law_608 g k33 v0 v1 v2 v3 v4 σ = some q) : Z l D K_Law_law 15 339 (.returned (some (.int q.1)), q.2) 608 [(0, va_rf (v0)), (1, va_rf (v1)), (2, va_rf (v2)), (3, va_rf (v3)), (4, .int (v4))] [] σ := by
  unfold s_Law_law_608 at h
  refine z_aload_nR 1 d_Law_law_608 rfl rfl ?_
  refine z_aload_nR 0 d_Law_law_609 rfl rfl ?_
  refine z_iload 4 d_Law_law_610 rfl ?_
  refine z_iconst (v := 1) d_Law_law_612 rfl ?_
  refine z_iadd d_Law_law_613 ?_
  replace h := Option.bind_eq_some_iff.mp h; obtain ⟨a1, rfl, h⟩ := h
  replace h := Option.bind_eq_some_iff.mp h; obtain ⟨x2, e3, h⟩ := h
  refine z_iaload rfl d_Law_law_614 e3 ?_
  refine z_aload_n 0 d_Law_law_615 rfl rfl ?_
  refine z_iload 4 d_Law_law_616 rfl ?_
  refine z_iconst (v := 2) d_Law_law_618 rfl ?_
  refine z_iadd d_Law_law_619 ?_
  replace h := Option.bind_eq_some_iff.mp h; obtain ⟨x4, e5, h⟩ := h
  refine z_iaload rfl d_Law_law_620 e5 ?_
  refine z_aload_n 0 d_Law_law_621 rfl rfl ?_
  refine z_iload 4 d_Law_law_622 rfl ?_
  refine z_iconst (v := 3) d_Law_law_624 rfl ?_
  refine z_iadd d_Law_law_625 ?_
  replace h := Option.bind_eq_some_iff.mp h; obtain ⟨x6, e7, h⟩ := h
  refine z_iaload rfl d_Law_law_626 e7 ?_
  refine z_aload_n 0 d_Law_law_627 rfl rfl ?_
  refine z_iload 4 d_Law_law_628 rfl ?_
  refine z_iconst (v := 4) d_Law_law_630 rfl ?_
  refine z_iadd d_Law_law_631 ?_
  replace h := Option.bind_eq_some_iff.mp h; obtain ⟨x8, e9, h⟩ := h
  refine z_iaload rfl d_Law_law_632 e9 ?_
  refine z_aload_nR 3 d_Law_law_633 rfl rfl ?_
  replace h := Option.bind_eq_some_iff.mp h; obtain ⟨⟨x12, σ10⟩, e11, h⟩ := h
  dsimp only at h
  refine z_callS (av := [va_rf (v1), .int (x2), .int (x4), .int (x6), .int (x8), va_rf (v3)]) (st := []) wS_NumberOfficeLaw_96 (t_Law_voidUsed hG hl e11) (by decide) (by decide) d_Law_law_634 (by simp [z_rfc, z_ci, z_cl, z_cr, z_cn]) ?_
  show Z _ _ _ _ _ _ 637 [(0, .ref (a1)), (1, va_rf (v1)), (2, va_rf (v2)), (3, va_rf (v3)), (4, .int (v4))] [.int (x12)] _
  refine z_istore (j := 5) (lv' := [(5, .int (x12)), (0, .ref (a1)), (1, va_rf (v1)), (2, va_rf (v2)), (3, va_rf (v3)), (4, .int (v4))]) d_Law_law_637 (by decide) rfl ?_
  refine z_aload_nR 3 d_Law_law_639 rfl rfl ?_
  refine z_aload_n 1 d_Law_law_640 rfl rfl ?_
  refine z_iload 5 d_Law_law_641 rfl ?_
  refine z_iconst (v := 1) d_Law_law_643 rfl ?_
  refine z_iadd d_Law_law_644 ?_
  replace h := Option.bind_eq_some_iff.mp h; obtain ⟨x13, e14, h⟩ := h
  refine z_iaload rfl d_Law_law_645 e14 ?_
  refine z_aload_n 1 d_Law_law_646 rfl rfl ?_
  refine z_iload 5 d_Law_law_647 rfl ?_
  refine z_iconst (v := 2) d_Law_law_649 rfl ?_
  refine z_iadd d_Law_law_650 ?_
  replace h := Option.bind_eq_some_iff.mp h; obtain ⟨x15, e16, h⟩ := h
  refine z_iaload rfl d_Law_law_651 e16 ?_
  refine z_aload_n 1 d_Law_law_652 rfl rfl ?_
  refine z_iload 5 d_Law_law_653 rfl ?_
  refine z_iconst (v := 3) d_Law_law_655 rfl ?_
  refine z_iadd d_Law_law_656 ?_
  replace h := Option.bind_eq_some_iff.mp h; obtain ⟨x17, e18, h⟩ := h
  refine z_iaload rfl d_Law_law_657 e18 ?_
  refine z_aload_n 1 d_Law_law_658 rfl rfl ?_
  refine z_iload 5 d_Law_law_659 rfl ?_
  refine z_iconst (v := 4) d_Law_law_661 rfl ?_
  refine z_iadd d_Law_law_662 ?_
  replace h := Option.bind_eq_some_iff.mp h; obtain ⟨x19, e20, h⟩ := h
  refine z_iaload rfl d_Law_law_663 e20 ?_
  replace h := Option.bind_eq_some_iff.mp h; obtain ⟨a21, rfl, h⟩ := h
  replace h := Option.bind_eq_some_iff.mp h; obtain ⟨_, e37, h⟩ := h
  obtain ⟨b38, f39, e37⟩ := zcls_at (zis_at e37)
  replace h := Option.bind_eq_some_iff.mp h; obtain ⟨⟨x24, σ22⟩, e23, h⟩ := h
  dsimp only at h
  refine z_callV (av := [.int (x13), .int (x15), .int (x17), .int (x19)]) (st := []) wV_NumberOfficeLaw_99 e37 (t_Mo_voidUsed hG e23) (by decide) (by decide) d_Law_law_664 (by simp [z_rfc, z_ci, z_cl, z_cr, z_cn]) ?_
  show Z _ _ _ _ _ _ 667 [(5, .int (x12)), (0, .ref (a1)), (1, va_rf (v1)), (2, .ref (a21)), (3, va_rf (v3)), (4, .int (v4))] [.int (x24)] _
  refine z_istore (j := 6) (lv' := [(6, .int (x24)), (5, .int (x12)), (0, .ref (a1)), (1, va_rf (v1)), (2, .ref (a21)), (3, va_rf (v3)), (4, .int (v4))]) d_Law_law_667 (by decide) rfl ?_
  refine z_aload_n 4 d_Law_law_669 rfl rfl ?_
  replace h := Option.bind_eq_some_iff.mp h; obtain ⟨_, e34, h⟩ := h
  obtain ⟨b35, f36, e34⟩ := zcls_at (zis_at e34)
  replace h := Option.bind_eq_some_iff.mp h; obtain ⟨⟨x27, σ25⟩, e26, h⟩ := h
  dsimp only at h
  refine z_callV (av := []) (st := []) wV_NumberOfficeLaw_71 e34 (t_Mo_thrown hG e26) (by decide) (by decide) d_Law_law_670 (by simp [z_rfc, z_ci, z_cl, z_cr, z_cn]) ?_
  show Z _ _ _ _ _ _ 673 [(6, .int (x24)), (5, .int (x12)), (0, .ref (a1)), (1, va_rf (v1)), (2, .ref (a21)), (3, va_rf (v3)), (4, .int (v4))] [.int (x27)] _
  refine z_iload 1 d_Law_law_673 rfl ?_
  refine z_icmp_eq (tgt := 680) d_Law_law_675 rfl (fun c28 => ?_) (fun c28 => ?_)
  · rw [if_pos c28] at h
    refine z_iload 1 d_Law_law_680 rfl ?_
    refine z_if_ne (tgt := 704) d_Law_law_682 rfl (fun c29 => ?_) (fun c29 => ?_)
    · rw [if_neg c29] at h
      refine z_lv (lv' := [(0, va_rf (some (a1))), (1, va_rf (v1)), (2, va_rf (some (a21))), (3, va_rf (v3)), (4, .int (v4)), (5, .int (x12)), (6, .int (x24))]) [2, 3, 4, 5, 6, 1, 0] rfl ?_
      exact t_Law_law_704 hG hl _ hk33 h
    · rw [if_pos c29] at h
      refine z_aload_nR 5 d_Law_law_685 rfl rfl ?_
      refine z_iconst (v := 0) d_Law_law_686 rfl ?_
      replace h := Option.bind_eq_some_iff.mp h; obtain ⟨a30, rfl, h⟩ := h
      replace h := Option.bind_eq_some_iff.mp h; obtain ⟨x31, e32, h⟩ := h
      refine z_laload rfl d_Law_law_687 e32 ?_
      refine z_iload 0 d_Law_law_688 rfl ?_
      refine z_if_eq (tgt := 697) d_Law_law_690 rfl (fun c33 => ?_) (fun c33 => ?_)
      · rw [if_pos c33] at h
        refine z_lconst (v := 0) d_Law_law_697 rfl ?_
        refine z_lv (lv' := [(0, va_rf (some (a1))), (1, va_rf (v1)), (2, va_rf (some (a21))), (3, va_rf (some (a30))), (4, .int (v4)), (5, .int (x12)), (6, .int (x24))]) [2, 3, 4, 5, 6, 1, 0] rfl ?_
        exact t_Law_law_698 hG hl _ hk33 h
      · rw [if_neg c33] at h
        refine z_lconst (v := 1) d_Law_law_693 rfl ?_
        refine z_goto (tgt := 698) d_Law_law_694 rfl ?_
        refine z_lv (lv' := [(0, va_rf (some (a1))), (1, va_rf (v1)), (2, va_rf (some (a21))), (3, va_rf (some (a30))), (4, .int (v4)), (5, .int (x12)), (6, .int (x24))]) [2, 3, 4, 5, 6, 1, 0] rfl ?_
        exact t_Law_law_698 hG hl _ hk33 h
  · rw [if_neg c28] at h
    refine z_iconst (v := 0) d_Law_law_678 rfl ?_
    cases h
    exact z_zret rfl rfl rfl d_Law_law_679
set_option maxRecDepth 100000 in
theorem t_Law_law_760 {l : Launch} {D : zD} {g : zG} (hG : zGok g D) (hl : zLo l) {q : Int32 × zS} (k33 : Option Nat → Option Nat → Option Nat → Option Nat → Int32 → zS → Option (Int32 × zS)) (hk33 : ∀ {v0 : Option Nat} {v1 : Option Nat} {v2 : Option Nat} {v3 : Option Nat} {v4 : Int32} {σ : zS}, k33 v0 v1 v2 v3 v4 σ = some q → Z l D K_Law_law 15 339 (.returned (some (.int q.1)), q.2) 33 [(0, va_rf (v0)), (1, va_rf (v1)), (2, va_rf (v2)), (3, va_rf (v3)), (4, .int (v4))] [] σ) {v0 : Option Nat} {v1 : Option Nat} {v2 : Option Nat} {v3 : Option Nat} {v4 : Int32} {v5 : Int32} {v6 : Int32} {σ : zS} (h : s_Law_law_760 g k33 v0 v1 v2 v3 v4 v5 v6 σ = some q) : Z l D K_Law_law 15 339 (.returned (some (.int q.1)), q.2) 760 [(0, va_rf (v0)), (1, va_rf (v1)), (2, va_rf (v2)), (3, va_rf (v3)), (4, .int (v4)), (5, .int (v5)), (6, .int (v6))] [] σ := by
  unfold s_Law_law_760 at h
  refine z_goto (tgt := 1387) d_Law_law_760 rfl ?_
  refine z_lv (lv' := [(0, va_rf (v0)), (1, va_rf (v1)), (2, va_rf (v2)), (3, va_rf (v3)), (4, .int (v4))]) [0, 1, 2, 3, 4] rfl ?_
  exact t_Law_law_1387 hG hl _ hk33 h
set_option maxRecDepth 100000 in
theorem t_Law_law_707 {l : Launch} {D : zD} {g : zG} (hG : zGok g D) (hl : zLo l) {q : Int32 × zS} (k33 : Option Nat → Option Nat → Option Nat → Option Nat → Int32 → zS → Option (Int32 × zS)) (hk33 : ∀ {v0 : Option Nat} {v1 : Option Nat} {v2 : Option Nat} {v3 : Option Nat} {v4 : Int32} {σ : zS}, k33 v0 v1 v2 v3 v4 σ = some q → Z l D K_Law_law 15 339 (.returned (some (.int q.1)), q.2) 33 [(0, va_rf (v0)), (1, va_rf (v1)), (2, va_rf (v2)), (3, va_rf (v3)), (4, .int (v4))] [] σ) {v0 : Option Nat} {v1 : Option Nat} {v2 : Option Nat} {v3 : Option Nat} {v4 : Int32} {σ : zS} (h : s_Law_law_707 g k33 v0 v1 v2 v3 v4 σ = some q) : Z l D K_Law_law 15 339 (.returned (some (.int q.1)), q.2) 707 [(0, va_rf (v0)), (1, va_rf (v1)), (2, va_rf (v2)), (3, va_rf (v3)), (4, .int (v4))] [] σ := by
  unfold s_Law_law_707 at h
  refine z_aload_nR 1 d_Law_law_707 rfl rfl ?_
  refine z_aload_nR 0 d_Law_law_708 rfl rfl ?_
  refine z_iload 4 d_Law_law_709 rfl ?_
  refine z_iconst (v := 1) d_Law_law_711 rfl ?_
  refine z_iadd d_Law_law_712 ?_
  replace h := Option.bind_eq_some_iff.mp h; obtain ⟨a1, rfl, h⟩ := h
  replace h := Option.bind_eq_some_iff.mp h; obtain ⟨x2, e3, h⟩ := h
  refine z_iaload rfl d_Law_law_713 e3 ?_
  refine z_aload_nR 3 d_Law_law_714 rfl rfl ?_
  replace h := Option.bind_eq_some_iff.mp h; obtain ⟨⟨x6, σ4⟩, e5, h⟩ := h
  dsimp only at h
  refine z_callS (av := [va_rf (v1), .int (x2), va_rf (v3)]) (st := []) wS_NumberOfficeLaw_100 (t_Law_strike hG hl e5) (by decide) (by decide) d_Law_law_715 (by simp [z_rfc, z_ci, z_cl, z_cr, z_cn]) ?_
  show Z _ _ _ _ _ _ 718 [(0, .ref (a1)), (1, va_rf (v1)), (2, va_rf (v2)), (3, va_rf (v3)), (4, .int (v4))] [.int (x6)] _
  refine z_istore (j := 5) (lv' := [(5, .int (x6)), (0, .ref (a1)), (1, va_rf (v1)), (2, va_rf (v2)), (3, va_rf (v3)), (4, .int (v4))]) d_Law_law_718 (by decide) rfl ?_
  refine z_aload_nR 3 d_Law_law_720 rfl rfl ?_
  refine z_aload_n 1 d_Law_law_721 rfl rfl ?_
  refine z_iload 5 d_Law_law_722 rfl ?_
  refine z_iconst (v := 1) d_Law_law_724 rfl ?_
  refine z_iadd d_Law_law_725 ?_
  replace h := Option.bind_eq_some_iff.mp h; obtain ⟨x7, e8, h⟩ := h
  refine z_iaload rfl d_Law_law_726 e8 ?_
  replace h := Option.bind_eq_some_iff.mp h; obtain ⟨a9, rfl, h⟩ := h
  replace h := Option.bind_eq_some_iff.mp h; obtain ⟨_, e25, h⟩ := h
  obtain ⟨b26, f27, e25⟩ := zcls_at (zis_at e25)
  replace h := Option.bind_eq_some_iff.mp h; obtain ⟨⟨x12, σ10⟩, e11, h⟩ := h
  dsimp only at h
  refine z_callV (av := [.int (x7)]) (st := []) wV_NumberOfficeLaw_103 e25 (t_Mo_strike hG e11) (by decide) (by decide) d_Law_law_727 (by simp [z_rfc, z_ci, z_cl, z_cr, z_cn]) ?_
  show Z _ _ _ _ _ _ 730 [(5, .int (x6)), (0, .ref (a1)), (1, va_rf (v1)), (2, .ref (a9)), (3, va_rf (v3)), (4, .int (v4))] [.int (x12)] _
  refine z_istore (j := 6) (lv' := [(6, .int (x12)), (5, .int (x6)), (0, .ref (a1)), (1, va_rf (v1)), (2, .ref (a9)), (3, va_rf (v3)), (4, .int (v4))]) d_Law_law_730 (by decide) rfl ?_
  refine z_aload_n 4 d_Law_law_732 rfl rfl ?_
  replace h := Option.bind_eq_some_iff.mp h; obtain ⟨_, e22, h⟩ := h
  obtain ⟨b23, f24, e22⟩ := zcls_at (zis_at e22)
  replace h := Option.bind_eq_some_iff.mp h; obtain ⟨⟨x15, σ13⟩, e14, h⟩ := h
  dsimp only at h
  refine z_callV (av := []) (st := []) wV_NumberOfficeLaw_71 e22 (t_Mo_thrown hG e14) (by decide) (by decide) d_Law_law_733 (by simp [z_rfc, z_ci, z_cl, z_cr, z_cn]) ?_
  show Z _ _ _ _ _ _ 736 [(6, .int (x12)), (5, .int (x6)), (0, .ref (a1)), (1, va_rf (v1)), (2, .ref (a9)), (3, va_rf (v3)), (4, .int (v4))] [.int (x15)] _
  refine z_iload 1 d_Law_law_736 rfl ?_
  refine z_icmp_eq (tgt := 743) d_Law_law_738 rfl (fun c16 => ?_) (fun c16 => ?_)
  · rw [if_pos c16] at h
    refine z_iload 1 d_Law_law_743 rfl ?_
    refine z_if_ne (tgt := 760) d_Law_law_745 rfl (fun c17 => ?_) (fun c17 => ?_)
    · rw [if_neg c17] at h
      refine z_lv (lv' := [(0, va_rf (some (a1))), (1, va_rf (v1)), (2, va_rf (some (a9))), (3, va_rf (v3)), (4, .int (v4)), (5, .int (x6)), (6, .int (x12))]) [2, 3, 4, 5, 6, 1, 0] rfl ?_
      exact t_Law_law_760 hG hl _ hk33 h
    · rw [if_pos c17] at h
      refine z_aload_nR 5 d_Law_law_748 rfl rfl ?_
      refine z_iconst (v := 0) d_Law_law_749 rfl ?_
      replace h := Option.bind_eq_some_iff.mp h; obtain ⟨a18, rfl, h⟩ := h
      replace h := Option.bind_eq_some_iff.mp h; obtain ⟨x19, e20, h⟩ := h
      refine z_laload rfl d_Law_law_750 e20 ?_
      refine z_iload 0 d_Law_law_751 rfl ?_
      refine z_i2l d_Law_law_753 ?_
      refine z_lcmp d_Law_law_754 ?_
      refine z_if_eq (tgt := 760) d_Law_law_755 rfl (fun c21 => ?_) (fun c21 => ?_)
      · rw [if_pos c21] at h
        refine z_lv (lv' := [(0, va_rf (some (a1))), (1, va_rf (v1)), (2, va_rf (some (a9))), (3, va_rf (some (a18))), (4, .int (v4)), (5, .int (x6)), (6, .int (x12))]) [2, 3, 4, 5, 6, 1, 0] rfl ?_
        exact t_Law_law_760 hG hl _ hk33 h
      · rw [if_neg c21] at h
        refine z_iconst (v := 0) d_Law_law_758 rfl ?_
        cases h
        exact z_zret rfl rfl rfl d_Law_law_759
  · rw [if_neg c16] at h
    refine z_iconst (v := 0) d_Law_law_741 rfl ?_
    cases h
    exact z_zret rfl rfl rfl d_Law_law_742
set_option maxRecDepth 100000 in
theorem t_Law_law_816 {l : Launch} {D : zD} {g : zG} (hG : zGok g D) (hl : zLo l) {q : Int32 × zS} (k33 : Option Nat → Option Nat → Option Nat → Option Nat → Int32 → zS → Option (Int32 × zS)) (hk33 : ∀ {v0 : Option Nat} {v1 : Option Nat} {v2 : Option Nat} {v3 : Option Nat} {v4 : Int32} {σ : zS}, k33 v0 v1 v2 v3 v4 σ = some q → Z l D K_Law_law 15 339 (.returned (some (.int q.1)), q.2) 33 [(0, va_rf (v0)), (1, va_rf (v1)), (2, va_rf (v2)), (3, va_rf (v3)), (4, .int (v4))] [] σ) {v0 : Option Nat} {v1 : Option Nat} {v2 : Option Nat} {v3 : Option Nat} {v4 : Int32} {v5 : Int32} {v6 : Int32} {σ : zS} (h : s_Law_law_816 g k33 v0 v1 v2 v3 v4 v5 v6 σ = some q) : Z l D K_Law_law 15 339 (.returned (some (.int q.1)), q.2) 816 [(0, va_rf (v0)), (1, va_rf (v1)), (2, va_rf (v2)), (3, va_rf (v3)), (4, .int (v4)), (5, .int (v5)), (6, .int (v6))] [] σ := by
  unfold s_Law_law_816 at h
  refine z_goto (tgt := 1387) d_Law_law_816 rfl ?_
  refine z_lv (lv' := [(0, va_rf (v0)), (1, va_rf (v1)), (2, va_rf (v2)), (3, va_rf (v3)), (4, .int (v4))]) [0, 1, 2, 3, 4] rfl ?_
  exact t_Law_law_1387 hG hl _ hk33 h
set_option maxRecDepth 100000 in
theorem t_Law_law_763 {l : Launch} {D : zD} {g : zG} (hG : zGok g D) (hl : zLo l) {q : Int32 × zS} (k33 : Option Nat → Option Nat → Option Nat → Option Nat → Int32 → zS → Option (Int32 × zS)) (hk33 : ∀ {v0 : Option Nat} {v1 : Option Nat} {v2 : Option Nat} {v3 : Option Nat} {v4 : Int32} {σ : zS}, k33 v0 v1 v2 v3 v4 σ = some q → Z l D K_Law_law 15 339 (.returned (some (.int q.1)), q.2) 33 [(0, va_rf (v0)), (1, va_rf (v1)), (2, va_rf (v2)), (3, va_rf (v3)), (4, .int (v4))] [] σ) {v0 : Option Nat} {v1 : Option Nat} {v2 : Option Nat} {v3 : Option Nat} {v4 : Int32} {σ : zS} (h : s_Law_law_763 g k33 v0 v1 v2 v3 v4 σ = some q) : Z l D K_Law_law 15 339 (.returned (some (.int q.1)), q.2) 763 [(0, va_rf (v0)), (1, va_rf (v1)), (2, va_rf (v2)), (3, va_rf (v3)), (4, .int (v4))] [] σ := by
  unfold s_Law_law_763 at h
  refine z_aload_nR 1 d_Law_law_763 rfl rfl ?_
  refine z_aload_nR 0 d_Law_law_764 rfl rfl ?_
  refine z_iload 4 d_Law_law_765 rfl ?_
  refine z_iconst (v := 1) d_Law_law_767 rfl ?_
  refine z_iadd d_Law_law_768 ?_
  replace h := Option.bind_eq_some_iff.mp h; obtain ⟨a1, rfl, h⟩ := h
  replace h := Option.bind_eq_some_iff.mp h; obtain ⟨x2, e3, h⟩ := h
  refine z_iaload rfl d_Law_law_769 e3 ?_
  refine z_aload_nR 3 d_Law_law_770 rfl rfl ?_
  replace h := Option.bind_eq_some_iff.mp h; obtain ⟨⟨x6, σ4⟩, e5, h⟩ := h
  dsimp only at h
  refine z_callS (av := [va_rf (v1), .int (x2), va_rf (v3)]) (st := []) wS_NumberOfficeLaw_104 (t_Law_close hG hl e5) (by decide) (by decide) d_Law_law_771 (by simp [z_rfc, z_ci, z_cl, z_cr, z_cn]) ?_
  show Z _ _ _ _ _ _ 774 [(0, .ref (a1)), (1, va_rf (v1)), (2, va_rf (v2)), (3, va_rf (v3)), (4, .int (v4))] [.int (x6)] _
  refine z_istore (j := 5) (lv' := [(5, .int (x6)), (0, .ref (a1)), (1, va_rf (v1)), (2, va_rf (v2)), (3, va_rf (v3)), (4, .int (v4))]) d_Law_law_774 (by decide) rfl ?_
  refine z_aload_nR 3 d_Law_law_776 rfl rfl ?_
  refine z_aload_n 1 d_Law_law_777 rfl rfl ?_
  refine z_iload 5 d_Law_law_778 rfl ?_
  refine z_iconst (v := 1) d_Law_law_780 rfl ?_
  refine z_iadd d_Law_law_781 ?_
  replace h := Option.bind_eq_some_iff.mp h; obtain ⟨x7, e8, h⟩ := h
  refine z_iaload rfl d_Law_law_782 e8 ?_
  replace h := Option.bind_eq_some_iff.mp h; obtain ⟨a9, rfl, h⟩ := h
  replace h := Option.bind_eq_some_iff.mp h; obtain ⟨_, e25, h⟩ := h
  obtain ⟨b26, f27, e25⟩ := zcls_at (zis_at e25)
  replace h := Option.bind_eq_some_iff.mp h; obtain ⟨⟨x12, σ10⟩, e11, h⟩ := h
  dsimp only at h
  refine z_callV (av := [.int (x7)]) (st := []) wV_NumberOfficeLaw_106 e25 (t_Mo_close hG e11) (by decide) (by decide) d_Law_law_783 (by simp [z_rfc, z_ci, z_cl, z_cr, z_cn]) ?_
  show Z _ _ _ _ _ _ 786 [(5, .int (x6)), (0, .ref (a1)), (1, va_rf (v1)), (2, .ref (a9)), (3, va_rf (v3)), (4, .int (v4))] [.int (x12)] _
  refine z_istore (j := 6) (lv' := [(6, .int (x12)), (5, .int (x6)), (0, .ref (a1)), (1, va_rf (v1)), (2, .ref (a9)), (3, va_rf (v3)), (4, .int (v4))]) d_Law_law_786 (by decide) rfl ?_
  refine z_aload_n 4 d_Law_law_788 rfl rfl ?_
  replace h := Option.bind_eq_some_iff.mp h; obtain ⟨_, e22, h⟩ := h
  obtain ⟨b23, f24, e22⟩ := zcls_at (zis_at e22)
  replace h := Option.bind_eq_some_iff.mp h; obtain ⟨⟨x15, σ13⟩, e14, h⟩ := h
  dsimp only at h
  refine z_callV (av := []) (st := []) wV_NumberOfficeLaw_71 e22 (t_Mo_thrown hG e14) (by decide) (by decide) d_Law_law_789 (by simp [z_rfc, z_ci, z_cl, z_cr, z_cn]) ?_
  show Z _ _ _ _ _ _ 792 [(6, .int (x12)), (5, .int (x6)), (0, .ref (a1)), (1, va_rf (v1)), (2, .ref (a9)), (3, va_rf (v3)), (4, .int (v4))] [.int (x15)] _
  refine z_iload 1 d_Law_law_792 rfl ?_
  refine z_icmp_eq (tgt := 799) d_Law_law_794 rfl (fun c16 => ?_) (fun c16 => ?_)
  · rw [if_pos c16] at h
    refine z_iload 1 d_Law_law_799 rfl ?_
    refine z_if_ne (tgt := 816) d_Law_law_801 rfl (fun c17 => ?_) (fun c17 => ?_)
    · rw [if_neg c17] at h
      refine z_lv (lv' := [(0, va_rf (some (a1))), (1, va_rf (v1)), (2, va_rf (some (a9))), (3, va_rf (v3)), (4, .int (v4)), (5, .int (x6)), (6, .int (x12))]) [2, 3, 4, 5, 6, 1, 0] rfl ?_
      exact t_Law_law_816 hG hl _ hk33 h
    · rw [if_pos c17] at h
      refine z_aload_nR 5 d_Law_law_804 rfl rfl ?_
      refine z_iconst (v := 0) d_Law_law_805 rfl ?_
      replace h := Option.bind_eq_some_iff.mp h; obtain ⟨a18, rfl, h⟩ := h
      replace h := Option.bind_eq_some_iff.mp h; obtain ⟨x19, e20, h⟩ := h
      refine z_laload rfl d_Law_law_806 e20 ?_
      refine z_iload 0 d_Law_law_807 rfl ?_
      refine z_i2l d_Law_law_809 ?_
      refine z_lcmp d_Law_law_810 ?_
      refine z_if_eq (tgt := 816) d_Law_law_811 rfl (fun c21 => ?_) (fun c21 => ?_)
      · rw [if_pos c21] at h
        refine z_lv (lv' := [(0, va_rf (some (a1))), (1, va_rf (v1)), (2, va_rf (some (a9))), (3, va_rf (some (a18))), (4, .int (v4)), (5, .int (x6)), (6, .int (x12))]) [2, 3, 4, 5, 6, 1, 0] rfl ?_
        exact t_Law_law_816 hG hl _ hk33 h
      · rw [if_neg c21] at h
        refine z_iconst (v := 0) d_Law_law_814 rfl ?_
        cases h
        exact z_zret rfl rfl rfl d_Law_law_815
  · rw [if_neg c16] at h
    refine z_iconst (v := 0) d_Law_law_797 rfl ?_
    cases h
    exact z_zret rfl rfl rfl d_Law_law_798
set_option maxRecDepth 100000 in
theorem t_Law_law_819 {l : Launch} {D : zD} {g : zG} (hG : zGok g D) (hl : zLo l) {q : Int32 × zS} (k33 : Option Nat → Option Nat → Option Nat → Option Nat → Int32 → zS → Option (Int32 × zS)) (hk33 : ∀ {v0 : Option Nat} {v1 : Option Nat} {v2 : Option Nat} {v3 : Option Nat} {v4 : Int32} {σ : zS}, k33 v0 v1 v2 v3 v4 σ = some q → Z l D K_Law_law 15 339 (.returned (some (.int q.1)), q.2) 33 [(0, va_rf (v0)), (1, va_rf (v1)), (2, va_rf (v2)), (3, va_rf (v3)), (4, .int (v4))] [] σ) {v0 : Option Nat} {v1 : Option Nat} {v2 : Option Nat} {v3 : Option Nat} {v4 : Int32} {σ : zS} (h : s_Law_law_819 g k33 v0 v1 v2 v3 v4 σ = some q) : Z l D K_Law_law 15 339 (.returned (some (.int q.1)), q.2) 819 [(0, va_rf (v0)), (1, va_rf (v1)), (2, va_rf (v2)), (3, va_rf (v3)), (4, .int (v4))] [] σ := by
  unfold s_Law_law_819 at h
  refine z_aload_nR 1 d_Law_law_819 rfl rfl ?_
  refine z_aload_nR 0 d_Law_law_820 rfl rfl ?_
  refine z_iload 4 d_Law_law_821 rfl ?_
  refine z_iconst (v := 1) d_Law_law_823 rfl ?_
  refine z_iadd d_Law_law_824 ?_
  replace h := Option.bind_eq_some_iff.mp h; obtain ⟨a1, rfl, h⟩ := h
  replace h := Option.bind_eq_some_iff.mp h; obtain ⟨x2, e3, h⟩ := h
  refine z_iaload rfl d_Law_law_825 e3 ?_
  replace h := Option.bind_eq_some_iff.mp h; obtain ⟨a4, rfl, h⟩ := h
  replace h := Option.bind_eq_some_iff.mp h; obtain ⟨_, e18, h⟩ := h
  obtain ⟨b19, f20, e18⟩ := zcls_at (zis_at e18)
  replace h := Option.bind_eq_some_iff.mp h; obtain ⟨⟨x7, σ5⟩, e6, h⟩ := h
  dsimp only at h
  refine z_callV (av := [.int (x2)]) (st := []) wV_NumberOfficeLaw_107 e18 (t_No_crash hG e6) (by decide) (by decide) d_Law_law_826 (by simp [z_rfc, z_ci, z_cl, z_cr, z_cn]) ?_
  show Z _ _ _ _ _ _ 829 [(0, .ref (a1)), (1, .ref (a4)), (2, va_rf (v2)), (3, va_rf (v3)), (4, .int (v4))] [.int (x7)] _
  refine z_aload_nR 2 d_Law_law_829 rfl rfl ?_
  refine z_aload_n 0 d_Law_law_830 rfl rfl ?_
  refine z_iload 4 d_Law_law_831 rfl ?_
  refine z_iconst (v := 1) d_Law_law_833 rfl ?_
  refine z_iadd d_Law_law_834 ?_
  replace h := Option.bind_eq_some_iff.mp h; obtain ⟨x8, e9, h⟩ := h
  refine z_iaload rfl d_Law_law_835 e9 ?_
  replace h := Option.bind_eq_some_iff.mp h; obtain ⟨a10, rfl, h⟩ := h
  replace h := Option.bind_eq_some_iff.mp h; obtain ⟨_, e15, h⟩ := h
  obtain ⟨b16, f17, e15⟩ := zcls_at (zis_at e15)
  replace h := Option.bind_eq_some_iff.mp h; obtain ⟨⟨x13, σ11⟩, e12, h⟩ := h
  dsimp only at h
  refine z_callV (av := [.int (x8)]) (st := [.int (x7)]) wV_NumberOfficeLaw_110 e15 (t_Mo_crash hG e12) (by decide) (by decide) d_Law_law_836 (by simp [z_rfc, z_ci, z_cl, z_cr, z_cn]) ?_
  show Z _ _ _ _ _ _ 839 [(0, .ref (a1)), (1, .ref (a4)), (2, .ref (a10)), (3, va_rf (v3)), (4, .int (v4))] [.int (x13), .int (x7)] _
  refine z_icmp_eq (tgt := 1387) d_Law_law_839 rfl (fun c14 => ?_) (fun c14 => ?_)
  · rw [if_pos c14] at h
    refine z_lv (lv' := [(0, va_rf (some (a1))), (1, va_rf (some (a4))), (2, va_rf (some (a10))), (3, va_rf (v3)), (4, .int (v4))]) [0, 1, 2, 3, 4] rfl ?_
    exact t_Law_law_1387 hG hl _ hk33 h
  · rw [if_neg c14] at h
    refine z_iconst (v := 0) d_Law_law_842 rfl ?_
    cases h
    exact z_zret rfl rfl rfl d_Law_law_843
set_option maxRecDepth 100000 in
theorem t_Law_law_844 {l : Launch} {D : zD} {g : zG} (hG : zGok g D) (hl : zLo l) {q : Int32 × zS} (k33 : Option Nat → Option Nat → Option Nat → Option Nat → Int32 → zS → Option (Int32 × zS)) (hk33 : ∀ {v0 : Option Nat} {v1 : Option Nat} {v2 : Option Nat} {v3 : Option Nat} {v4 : Int32} {σ : zS}, k33 v0 v1 v2 v3 v4 σ = some q → Z l D K_Law_law 15 339 (.returned (some (.int q.1)), q.2) 33 [(0, va_rf (v0)), (1, va_rf (v1)), (2, va_rf (v2)), (3, va_rf (v3)), (4, .int (v4))] [] σ) {v0 : Option Nat} {v1 : Option Nat} {v2 : Option Nat} {v3 : Option Nat} {v4 : Int32} {σ : zS} (h : s_Law_law_844 g k33 v0 v1 v2 v3 v4 σ = some q) : Z l D K_Law_law 15 339 (.returned (some (.int q.1)), q.2) 844 [(0, va_rf (v0)), (1, va_rf (v1)), (2, va_rf (v2)), (3, va_rf (v3)), (4, .int (v4))] [] σ := by
  unfold s_Law_law_844 at h
  refine z_aload_nR 1 d_Law_law_844 rfl rfl ?_
  refine z_aload_nR 0 d_Law_law_845 rfl rfl ?_
  refine z_iload 4 d_Law_law_846 rfl ?_
  refine z_iconst (v := 1) d_Law_law_848 rfl ?_
  refine z_iadd d_Law_law_849 ?_
  replace h := Option.bind_eq_some_iff.mp h; obtain ⟨a1, rfl, h⟩ := h
  replace h := Option.bind_eq_some_iff.mp h; obtain ⟨x2, e3, h⟩ := h
  refine z_iaload rfl d_Law_law_850 e3 ?_
  replace h := Option.bind_eq_some_iff.mp h; obtain ⟨a4, rfl, h⟩ := h
  replace h := Option.bind_eq_some_iff.mp h; obtain ⟨_, e18, h⟩ := h
  obtain ⟨b19, f20, e18⟩ := zcls_at (zis_at e18)
  replace h := Option.bind_eq_some_iff.mp h; obtain ⟨⟨x7, σ5⟩, e6, h⟩ := h
  dsimp only at h
  refine z_callV (av := [.int (x2)]) (st := []) wV_NumberOfficeLaw_111 e18 (t_No_mount hG e6) (by decide) (by decide) d_Law_law_851 (by simp [z_rfc, z_ci, z_cl, z_cr, z_cn]) ?_
  show Z _ _ _ _ _ _ 854 [(0, .ref (a1)), (1, .ref (a4)), (2, va_rf (v2)), (3, va_rf (v3)), (4, .int (v4))] [.int (x7)] _
  refine z_aload_nR 2 d_Law_law_854 rfl rfl ?_
  refine z_aload_n 0 d_Law_law_855 rfl rfl ?_
  refine z_iload 4 d_Law_law_856 rfl ?_
  refine z_iconst (v := 1) d_Law_law_858 rfl ?_
  refine z_iadd d_Law_law_859 ?_
  replace h := Option.bind_eq_some_iff.mp h; obtain ⟨x8, e9, h⟩ := h
  refine z_iaload rfl d_Law_law_860 e9 ?_
  replace h := Option.bind_eq_some_iff.mp h; obtain ⟨a10, rfl, h⟩ := h
  replace h := Option.bind_eq_some_iff.mp h; obtain ⟨_, e15, h⟩ := h
  obtain ⟨b16, f17, e15⟩ := zcls_at (zis_at e15)
  replace h := Option.bind_eq_some_iff.mp h; obtain ⟨⟨x13, σ11⟩, e12, h⟩ := h
  dsimp only at h
  refine z_callV (av := [.int (x8)]) (st := [.int (x7)]) wV_NumberOfficeLaw_114 e15 (t_Mo_mount hG e12) (by decide) (by decide) d_Law_law_861 (by simp [z_rfc, z_ci, z_cl, z_cr, z_cn]) ?_
  show Z _ _ _ _ _ _ 864 [(0, .ref (a1)), (1, .ref (a4)), (2, .ref (a10)), (3, va_rf (v3)), (4, .int (v4))] [.int (x13), .int (x7)] _
  refine z_icmp_eq (tgt := 1387) d_Law_law_864 rfl (fun c14 => ?_) (fun c14 => ?_)
  · rw [if_pos c14] at h
    refine z_lv (lv' := [(0, va_rf (some (a1))), (1, va_rf (some (a4))), (2, va_rf (some (a10))), (3, va_rf (v3)), (4, .int (v4))]) [0, 1, 2, 3, 4] rfl ?_
    exact t_Law_law_1387 hG hl _ hk33 h
  · rw [if_neg c14] at h
    refine z_iconst (v := 0) d_Law_law_867 rfl ?_
    cases h
    exact z_zret rfl rfl rfl d_Law_law_868
set_option maxRecDepth 100000 in
theorem t_Law_law_869 {l : Launch} {D : zD} {g : zG} (hG : zGok g D) (hl : zLo l) {q : Int32 × zS} (k33 : Option Nat → Option Nat → Option Nat → Option Nat → Int32 → zS → Option (Int32 × zS)) (hk33 : ∀ {v0 : Option Nat} {v1 : Option Nat} {v2 : Option Nat} {v3 : Option Nat} {v4 : Int32} {σ : zS}, k33 v0 v1 v2 v3 v4 σ = some q → Z l D K_Law_law 15 339 (.returned (some (.int q.1)), q.2) 33 [(0, va_rf (v0)), (1, va_rf (v1)), (2, va_rf (v2)), (3, va_rf (v3)), (4, .int (v4))] [] σ) {v0 : Option Nat} {v1 : Option Nat} {v2 : Option Nat} {v3 : Option Nat} {v4 : Int32} {σ : zS} (h : s_Law_law_869 g k33 v0 v1 v2 v3 v4 σ = some q) : Z l D K_Law_law 15 339 (.returned (some (.int q.1)), q.2) 869 [(0, va_rf (v0)), (1, va_rf (v1)), (2, va_rf (v2)), (3, va_rf (v3)), (4, .int (v4))] [] σ := by
  unfold s_Law_law_869 at h
  refine z_aload_nR 1 d_Law_law_869 rfl rfl ?_
  refine z_aload_nR 0 d_Law_law_870 rfl rfl ?_
  refine z_iload 4 d_Law_law_871 rfl ?_
  refine z_iconst (v := 1) d_Law_law_873 rfl ?_
  refine z_iadd d_Law_law_874 ?_
  replace h := Option.bind_eq_some_iff.mp h; obtain ⟨a1, rfl, h⟩ := h
  replace h := Option.bind_eq_some_iff.mp h; obtain ⟨x2, e3, h⟩ := h
  refine z_iaload rfl d_Law_law_875 e3 ?_
  replace h := Option.bind_eq_some_iff.mp h; obtain ⟨a4, rfl, h⟩ := h
  replace h := Option.bind_eq_some_iff.mp h; obtain ⟨_, e18, h⟩ := h
  obtain ⟨b19, f20, e18⟩ := zcls_at (zis_at e18)
  replace h := Option.bind_eq_some_iff.mp h; obtain ⟨⟨x7, σ5⟩, e6, h⟩ := h
  dsimp only at h
  refine z_callV (av := [.int (x2)]) (st := []) wV_NumberOfficeLaw_115 e18 (t_No_flush hG e6) (by decide) (by decide) d_Law_law_876 (by simp [z_rfc, z_ci, z_cl, z_cr, z_cn]) ?_
  show Z _ _ _ _ _ _ 879 [(0, .ref (a1)), (1, .ref (a4)), (2, va_rf (v2)), (3, va_rf (v3)), (4, .int (v4))] [.int (x7)] _
  refine z_aload_nR 2 d_Law_law_879 rfl rfl ?_
  refine z_aload_n 0 d_Law_law_880 rfl rfl ?_
  refine z_iload 4 d_Law_law_881 rfl ?_
  refine z_iconst (v := 1) d_Law_law_883 rfl ?_
  refine z_iadd d_Law_law_884 ?_
  replace h := Option.bind_eq_some_iff.mp h; obtain ⟨x8, e9, h⟩ := h
  refine z_iaload rfl d_Law_law_885 e9 ?_
  replace h := Option.bind_eq_some_iff.mp h; obtain ⟨a10, rfl, h⟩ := h
  replace h := Option.bind_eq_some_iff.mp h; obtain ⟨_, e15, h⟩ := h
  obtain ⟨b16, f17, e15⟩ := zcls_at (zis_at e15)
  replace h := Option.bind_eq_some_iff.mp h; obtain ⟨⟨x13, σ11⟩, e12, h⟩ := h
  dsimp only at h
  refine z_callV (av := [.int (x8)]) (st := [.int (x7)]) wV_NumberOfficeLaw_118 e15 (t_Mo_flush hG e12) (by decide) (by decide) d_Law_law_886 (by simp [z_rfc, z_ci, z_cl, z_cr, z_cn]) ?_
  show Z _ _ _ _ _ _ 889 [(0, .ref (a1)), (1, .ref (a4)), (2, .ref (a10)), (3, va_rf (v3)), (4, .int (v4))] [.int (x13), .int (x7)] _
  refine z_icmp_eq (tgt := 1387) d_Law_law_889 rfl (fun c14 => ?_) (fun c14 => ?_)
  · rw [if_pos c14] at h
    refine z_lv (lv' := [(0, va_rf (some (a1))), (1, va_rf (some (a4))), (2, va_rf (some (a10))), (3, va_rf (v3)), (4, .int (v4))]) [0, 1, 2, 3, 4] rfl ?_
    exact t_Law_law_1387 hG hl _ hk33 h
  · rw [if_neg c14] at h
    refine z_iconst (v := 0) d_Law_law_892 rfl ?_
    cases h
    exact z_zret rfl rfl rfl d_Law_law_893
set_option maxRecDepth 100000 in
theorem t_Law_law_894 {l : Launch} {D : zD} {g : zG} (hG : zGok g D) (hl : zLo l) {q : Int32 × zS} (k33 : Option Nat → Option Nat → Option Nat → Option Nat → Int32 → zS → Option (Int32 × zS)) (hk33 : ∀ {v0 : Option Nat} {v1 : Option Nat} {v2 : Option Nat} {v3 : Option Nat} {v4 : Int32} {σ : zS}, k33 v0 v1 v2 v3 v4 σ = some q → Z l D K_Law_law 15 339 (.returned (some (.int q.1)), q.2) 33 [(0, va_rf (v0)), (1, va_rf (v1)), (2, va_rf (v2)), (3, va_rf (v3)), (4, .int (v4))] [] σ) {v0 : Option Nat} {v1 : Option Nat} {v2 : Option Nat} {v3 : Option Nat} {v4 : Int32} {σ : zS} (h : s_Law_law_894 g k33 v0 v1 v2 v3 v4 σ = some q) : Z l D K_Law_law 15 339 (.returned (some (.int q.1)), q.2) 894 [(0, va_rf (v0)), (1, va_rf (v1)), (2, va_rf (v2)), (3, va_rf (v3)), (4, .int (v4))] [] σ := by
  unfold s_Law_law_894 at h
  refine z_aload_nR 1 d_Law_law_894 rfl rfl ?_
  replace h := Option.bind_eq_some_iff.mp h; obtain ⟨a1, rfl, h⟩ := h
  replace h := Option.bind_eq_some_iff.mp h; obtain ⟨_, e13, h⟩ := h
  obtain ⟨b14, f15, e13⟩ := zcls_at (zis_at e13)
  replace h := Option.bind_eq_some_iff.mp h; obtain ⟨⟨x4, σ2⟩, e3, h⟩ := h
  dsimp only at h
  refine z_callV (av := []) (st := []) wV_NumberOfficeLaw_119 e13 (t_No_letters hG e3) (by decide) (by decide) d_Law_law_895 (by simp [z_rfc, z_ci, z_cl, z_cr, z_cn]) ?_
  show Z _ _ _ _ _ _ 898 [(0, va_rf (v0)), (1, .ref (a1)), (2, va_rf (v2)), (3, va_rf (v3)), (4, .int (v4))] [.int (x4)] _
  refine z_aload_nR 2 d_Law_law_898 rfl rfl ?_
  replace h := Option.bind_eq_some_iff.mp h; obtain ⟨a5, rfl, h⟩ := h
  replace h := Option.bind_eq_some_iff.mp h; obtain ⟨_, e10, h⟩ := h
  obtain ⟨b11, f12, e10⟩ := zcls_at (zis_at e10)
  replace h := Option.bind_eq_some_iff.mp h; obtain ⟨⟨x8, σ6⟩, e7, h⟩ := h
  dsimp only at h
  refine z_callV (av := []) (st := [.int (x4)]) wV_NumberOfficeLaw_122 e10 (t_Mo_letters hG e7) (by decide) (by decide) d_Law_law_899 (by simp [z_rfc, z_ci, z_cl, z_cr, z_cn]) ?_
  show Z _ _ _ _ _ _ 902 [(0, va_rf (v0)), (1, .ref (a1)), (2, .ref (a5)), (3, va_rf (v3)), (4, .int (v4))] [.int (x8), .int (x4)] _
  refine z_icmp_eq (tgt := 1387) d_Law_law_902 rfl (fun c9 => ?_) (fun c9 => ?_)
  · rw [if_pos c9] at h
    refine z_lv (lv' := [(0, va_rf (v0)), (1, va_rf (some (a1))), (2, va_rf (some (a5))), (3, va_rf (v3)), (4, .int (v4))]) [0, 1, 2, 3, 4] rfl ?_
    exact t_Law_law_1387 hG hl _ hk33 h
  · rw [if_neg c9] at h
    refine z_iconst (v := 0) d_Law_law_905 rfl ?_
    cases h
    exact z_zret rfl rfl rfl d_Law_law_906
set_option maxRecDepth 100000 in
theorem t_Law_law_907 {l : Launch} {D : zD} {g : zG} (hG : zGok g D) (hl : zLo l) {q : Int32 × zS} (k33 : Option Nat → Option Nat → Option Nat → Option Nat → Int32 → zS → Option (Int32 × zS)) (hk33 : ∀ {v0 : Option Nat} {v1 : Option Nat} {v2 : Option Nat} {v3 : Option Nat} {v4 : Int32} {σ : zS}, k33 v0 v1 v2 v3 v4 σ = some q → Z l D K_Law_law 15 339 (.returned (some (.int q.1)), q.2) 33 [(0, va_rf (v0)), (1, va_rf (v1)), (2, va_rf (v2)), (3, va_rf (v3)), (4, .int (v4))] [] σ) {v0 : Option Nat} {v1 : Option Nat} {v2 : Option Nat} {v3 : Option Nat} {v4 : Int32} {σ : zS} (h : s_Law_law_907 g k33 v0 v1 v2 v3 v4 σ = some q) : Z l D K_Law_law 15 339 (.returned (some (.int q.1)), q.2) 907 [(0, va_rf (v0)), (1, va_rf (v1)), (2, va_rf (v2)), (3, va_rf (v3)), (4, .int (v4))] [] σ := by
  unfold s_Law_law_907 at h
  refine z_aload_nR 1 d_Law_law_907 rfl rfl ?_
  refine z_aload_nR 0 d_Law_law_908 rfl rfl ?_
  refine z_iload 4 d_Law_law_909 rfl ?_
  refine z_iconst (v := 1) d_Law_law_911 rfl ?_
  refine z_iadd d_Law_law_912 ?_
  replace h := Option.bind_eq_some_iff.mp h; obtain ⟨a1, rfl, h⟩ := h
  replace h := Option.bind_eq_some_iff.mp h; obtain ⟨x2, e3, h⟩ := h
  refine z_iaload rfl d_Law_law_913 e3 ?_
  refine z_aload_n 0 d_Law_law_914 rfl rfl ?_
  refine z_iload 4 d_Law_law_915 rfl ?_
  refine z_iconst (v := 2) d_Law_law_917 rfl ?_
  refine z_iadd d_Law_law_918 ?_
  replace h := Option.bind_eq_some_iff.mp h; obtain ⟨x4, e5, h⟩ := h
  refine z_iaload rfl d_Law_law_919 e5 ?_
  replace h := Option.bind_eq_some_iff.mp h; obtain ⟨a6, rfl, h⟩ := h
  replace h := Option.bind_eq_some_iff.mp h; obtain ⟨_, e22, h⟩ := h
  obtain ⟨b23, f24, e22⟩ := zcls_at (zis_at e22)
  replace h := Option.bind_eq_some_iff.mp h; obtain ⟨⟨x9, σ7⟩, e8, h⟩ := h
  dsimp only at h
  refine z_callV (av := [.int (x2), .int (x4)]) (st := []) wV_NumberOfficeLaw_123 e22 (t_No_letter hG e8) (by decide) (by decide) d_Law_law_920 (by simp [z_rfc, z_ci, z_cl, z_cr, z_cn]) ?_
  show Z _ _ _ _ _ _ 923 [(0, .ref (a1)), (1, .ref (a6)), (2, va_rf (v2)), (3, va_rf (v3)), (4, .int (v4))] [.int (x9)] _
  refine z_aload_nR 2 d_Law_law_923 rfl rfl ?_
  refine z_aload_n 0 d_Law_law_924 rfl rfl ?_
  refine z_iload 4 d_Law_law_925 rfl ?_
  refine z_iconst (v := 1) d_Law_law_927 rfl ?_
  refine z_iadd d_Law_law_928 ?_
  replace h := Option.bind_eq_some_iff.mp h; obtain ⟨x10, e11, h⟩ := h
  refine z_iaload rfl d_Law_law_929 e11 ?_
  refine z_aload_n 0 d_Law_law_930 rfl rfl ?_
  refine z_iload 4 d_Law_law_931 rfl ?_
  refine z_iconst (v := 2) d_Law_law_933 rfl ?_
  refine z_iadd d_Law_law_934 ?_
  replace h := Option.bind_eq_some_iff.mp h; obtain ⟨x12, e13, h⟩ := h
  refine z_iaload rfl d_Law_law_935 e13 ?_
  replace h := Option.bind_eq_some_iff.mp h; obtain ⟨a14, rfl, h⟩ := h
  replace h := Option.bind_eq_some_iff.mp h; obtain ⟨_, e19, h⟩ := h
  obtain ⟨b20, f21, e19⟩ := zcls_at (zis_at e19)
  replace h := Option.bind_eq_some_iff.mp h; obtain ⟨⟨x17, σ15⟩, e16, h⟩ := h
  dsimp only at h
  refine z_callV (av := [.int (x10), .int (x12)]) (st := [.int (x9)]) wV_NumberOfficeLaw_126 e19 (t_Mo_letter hG e16) (by decide) (by decide) d_Law_law_936 (by simp [z_rfc, z_ci, z_cl, z_cr, z_cn]) ?_
  show Z _ _ _ _ _ _ 939 [(0, .ref (a1)), (1, .ref (a6)), (2, .ref (a14)), (3, va_rf (v3)), (4, .int (v4))] [.int (x17), .int (x9)] _
  refine z_icmp_eq (tgt := 1387) d_Law_law_939 rfl (fun c18 => ?_) (fun c18 => ?_)
  · rw [if_pos c18] at h
    refine z_lv (lv' := [(0, va_rf (some (a1))), (1, va_rf (some (a6))), (2, va_rf (some (a14))), (3, va_rf (v3)), (4, .int (v4))]) [0, 1, 2, 3, 4] rfl ?_
    exact t_Law_law_1387 hG hl _ hk33 h
  · rw [if_neg c18] at h
    refine z_iconst (v := 0) d_Law_law_942 rfl ?_
    cases h
    exact z_zret rfl rfl rfl d_Law_law_943
set_option maxRecDepth 100000 in
theorem t_Law_law_944 {l : Launch} {D : zD} {g : zG} (hG : zGok g D) (hl : zLo l) {q : Int32 × zS} (k33 : Option Nat → Option Nat → Option Nat → Option Nat → Int32 → zS → Option (Int32 × zS)) (hk33 : ∀ {v0 : Option Nat} {v1 : Option Nat} {v2 : Option Nat} {v3 : Option Nat} {v4 : Int32} {σ : zS}, k33 v0 v1 v2 v3 v4 σ = some q → Z l D K_Law_law 15 339 (.returned (some (.int q.1)), q.2) 33 [(0, va_rf (v0)), (1, va_rf (v1)), (2, va_rf (v2)), (3, va_rf (v3)), (4, .int (v4))] [] σ) {v0 : Option Nat} {v1 : Option Nat} {v2 : Option Nat} {v3 : Option Nat} {v4 : Int32} {σ : zS} (h : s_Law_law_944 g k33 v0 v1 v2 v3 v4 σ = some q) : Z l D K_Law_law 15 339 (.returned (some (.int q.1)), q.2) 944 [(0, va_rf (v0)), (1, va_rf (v1)), (2, va_rf (v2)), (3, va_rf (v3)), (4, .int (v4))] [] σ := by
  unfold s_Law_law_944 at h
  refine z_aload_nR 1 d_Law_law_944 rfl rfl ?_
  refine z_aload_nR 0 d_Law_law_945 rfl rfl ?_
  refine z_iload 4 d_Law_law_946 rfl ?_
  refine z_iconst (v := 1) d_Law_law_948 rfl ?_
  refine z_iadd d_Law_law_949 ?_
  replace h := Option.bind_eq_some_iff.mp h; obtain ⟨a1, rfl, h⟩ := h
  replace h := Option.bind_eq_some_iff.mp h; obtain ⟨x2, e3, h⟩ := h
  refine z_iaload rfl d_Law_law_950 e3 ?_
  replace h := Option.bind_eq_some_iff.mp h; obtain ⟨a4, rfl, h⟩ := h
  replace h := Option.bind_eq_some_iff.mp h; obtain ⟨_, e18, h⟩ := h
  obtain ⟨b19, f20, e18⟩ := zcls_at (zis_at e18)
  replace h := Option.bind_eq_some_iff.mp h; obtain ⟨⟨x7, σ5⟩, e6, h⟩ := h
  dsimp only at h
  refine z_callV (av := [.int (x2)]) (st := []) wV_NumberOfficeLaw_127 e18 (t_No_deliver hG e6) (by decide) (by decide) d_Law_law_951 (by simp [z_rfc, z_ci, z_cl, z_cr, z_cn]) ?_
  show Z _ _ _ _ _ _ 954 [(0, .ref (a1)), (1, .ref (a4)), (2, va_rf (v2)), (3, va_rf (v3)), (4, .int (v4))] [.int (x7)] _
  refine z_aload_nR 2 d_Law_law_954 rfl rfl ?_
  refine z_aload_n 0 d_Law_law_955 rfl rfl ?_
  refine z_iload 4 d_Law_law_956 rfl ?_
  refine z_iconst (v := 1) d_Law_law_958 rfl ?_
  refine z_iadd d_Law_law_959 ?_
  replace h := Option.bind_eq_some_iff.mp h; obtain ⟨x8, e9, h⟩ := h
  refine z_iaload rfl d_Law_law_960 e9 ?_
  replace h := Option.bind_eq_some_iff.mp h; obtain ⟨a10, rfl, h⟩ := h
  replace h := Option.bind_eq_some_iff.mp h; obtain ⟨_, e15, h⟩ := h
  obtain ⟨b16, f17, e15⟩ := zcls_at (zis_at e15)
  replace h := Option.bind_eq_some_iff.mp h; obtain ⟨⟨x13, σ11⟩, e12, h⟩ := h
  dsimp only at h
  refine z_callV (av := [.int (x8)]) (st := [.int (x7)]) wV_NumberOfficeLaw_130 e15 (t_Mo_deliver hG e12) (by decide) (by decide) d_Law_law_961 (by simp [z_rfc, z_ci, z_cl, z_cr, z_cn]) ?_
  show Z _ _ _ _ _ _ 964 [(0, .ref (a1)), (1, .ref (a4)), (2, .ref (a10)), (3, va_rf (v3)), (4, .int (v4))] [.int (x13), .int (x7)] _
  refine z_icmp_eq (tgt := 1387) d_Law_law_964 rfl (fun c14 => ?_) (fun c14 => ?_)
  · rw [if_pos c14] at h
    refine z_lv (lv' := [(0, va_rf (some (a1))), (1, va_rf (some (a4))), (2, va_rf (some (a10))), (3, va_rf (v3)), (4, .int (v4))]) [0, 1, 2, 3, 4] rfl ?_
    exact t_Law_law_1387 hG hl _ hk33 h
  · rw [if_neg c14] at h
    refine z_iconst (v := 0) d_Law_law_967 rfl ?_
    cases h
    exact z_zret rfl rfl rfl d_Law_law_968
set_option maxRecDepth 100000 in
theorem t_Law_law_969 {l : Launch} {D : zD} {g : zG} (hG : zGok g D) (hl : zLo l) {q : Int32 × zS} (k33 : Option Nat → Option Nat → Option Nat → Option Nat → Int32 → zS → Option (Int32 × zS)) (hk33 : ∀ {v0 : Option Nat} {v1 : Option Nat} {v2 : Option Nat} {v3 : Option Nat} {v4 : Int32} {σ : zS}, k33 v0 v1 v2 v3 v4 σ = some q → Z l D K_Law_law 15 339 (.returned (some (.int q.1)), q.2) 33 [(0, va_rf (v0)), (1, va_rf (v1)), (2, va_rf (v2)), (3, va_rf (v3)), (4, .int (v4))] [] σ) {v0 : Option Nat} {v1 : Option Nat} {v2 : Option Nat} {v3 : Option Nat} {v4 : Int32} {σ : zS} (h : s_Law_law_969 g k33 v0 v1 v2 v3 v4 σ = some q) : Z l D K_Law_law 15 339 (.returned (some (.int q.1)), q.2) 969 [(0, va_rf (v0)), (1, va_rf (v1)), (2, va_rf (v2)), (3, va_rf (v3)), (4, .int (v4))] [] σ := by
  unfold s_Law_law_969 at h
  refine z_aload_nR 1 d_Law_law_969 rfl rfl ?_
  refine z_aload_nR 0 d_Law_law_970 rfl rfl ?_
  refine z_iload 4 d_Law_law_971 rfl ?_
  refine z_iconst (v := 1) d_Law_law_973 rfl ?_
  refine z_iadd d_Law_law_974 ?_
  replace h := Option.bind_eq_some_iff.mp h; obtain ⟨a1, rfl, h⟩ := h
  replace h := Option.bind_eq_some_iff.mp h; obtain ⟨x2, e3, h⟩ := h
  refine z_iaload rfl d_Law_law_975 e3 ?_
  replace h := Option.bind_eq_some_iff.mp h; obtain ⟨a4, rfl, h⟩ := h
  replace h := Option.bind_eq_some_iff.mp h; obtain ⟨_, e18, h⟩ := h
  obtain ⟨b19, f20, e18⟩ := zcls_at (zis_at e18)
  replace h := Option.bind_eq_some_iff.mp h; obtain ⟨⟨x7, σ5⟩, e6, h⟩ := h
  dsimp only at h
  refine z_callV (av := [.int (x2)]) (st := []) wV_NumberOfficeLaw_131 e18 (t_No_drop hG e6) (by decide) (by decide) d_Law_law_976 (by simp [z_rfc, z_ci, z_cl, z_cr, z_cn]) ?_
  show Z _ _ _ _ _ _ 979 [(0, .ref (a1)), (1, .ref (a4)), (2, va_rf (v2)), (3, va_rf (v3)), (4, .int (v4))] [.int (x7)] _
  refine z_aload_nR 2 d_Law_law_979 rfl rfl ?_
  refine z_aload_n 0 d_Law_law_980 rfl rfl ?_
  refine z_iload 4 d_Law_law_981 rfl ?_
  refine z_iconst (v := 1) d_Law_law_983 rfl ?_
  refine z_iadd d_Law_law_984 ?_
  replace h := Option.bind_eq_some_iff.mp h; obtain ⟨x8, e9, h⟩ := h
  refine z_iaload rfl d_Law_law_985 e9 ?_
  replace h := Option.bind_eq_some_iff.mp h; obtain ⟨a10, rfl, h⟩ := h
  replace h := Option.bind_eq_some_iff.mp h; obtain ⟨_, e15, h⟩ := h
  obtain ⟨b16, f17, e15⟩ := zcls_at (zis_at e15)
  replace h := Option.bind_eq_some_iff.mp h; obtain ⟨⟨x13, σ11⟩, e12, h⟩ := h
  dsimp only at h
  refine z_callV (av := [.int (x8)]) (st := [.int (x7)]) wV_NumberOfficeLaw_134 e15 (t_Mo_drop hG e12) (by decide) (by decide) d_Law_law_986 (by simp [z_rfc, z_ci, z_cl, z_cr, z_cn]) ?_
  show Z _ _ _ _ _ _ 989 [(0, .ref (a1)), (1, .ref (a4)), (2, .ref (a10)), (3, va_rf (v3)), (4, .int (v4))] [.int (x13), .int (x7)] _
  refine z_icmp_eq (tgt := 1387) d_Law_law_989 rfl (fun c14 => ?_) (fun c14 => ?_)
  · rw [if_pos c14] at h
    refine z_lv (lv' := [(0, va_rf (some (a1))), (1, va_rf (some (a4))), (2, va_rf (some (a10))), (3, va_rf (v3)), (4, .int (v4))]) [0, 1, 2, 3, 4] rfl ?_
    exact t_Law_law_1387 hG hl _ hk33 h
  · rw [if_neg c14] at h
    refine z_iconst (v := 0) d_Law_law_992 rfl ?_
    cases h
    exact z_zret rfl rfl rfl d_Law_law_993
set_option maxRecDepth 100000 in
theorem t_Law_law_994 {l : Launch} {D : zD} {g : zG} (hG : zGok g D) (hl : zLo l) {q : Int32 × zS} (k33 : Option Nat → Option Nat → Option Nat → Option Nat → Int32 → zS → Option (Int32 × zS)) (hk33 : ∀ {v0 : Option Nat} {v1 : Option Nat} {v2 : Option Nat} {v3 : Option Nat} {v4 : Int32} {σ : zS}, k33 v0 v1 v2 v3 v4 σ = some q → Z l D K_Law_law 15 339 (.returned (some (.int q.1)), q.2) 33 [(0, va_rf (v0)), (1, va_rf (v1)), (2, va_rf (v2)), (3, va_rf (v3)), (4, .int (v4))] [] σ) {v0 : Option Nat} {v1 : Option Nat} {v2 : Option Nat} {v3 : Option Nat} {v4 : Int32} {σ : zS} (h : s_Law_law_994 g k33 v0 v1 v2 v3 v4 σ = some q) : Z l D K_Law_law 15 339 (.returned (some (.int q.1)), q.2) 994 [(0, va_rf (v0)), (1, va_rf (v1)), (2, va_rf (v2)), (3, va_rf (v3)), (4, .int (v4))] [] σ := by
  unfold s_Law_law_994 at h
  refine z_aload_nR 1 d_Law_law_994 rfl rfl ?_
  refine z_aload_nR 0 d_Law_law_995 rfl rfl ?_
  refine z_iload 4 d_Law_law_996 rfl ?_
  refine z_iconst (v := 1) d_Law_law_998 rfl ?_
  refine z_iadd d_Law_law_999 ?_
  replace h := Option.bind_eq_some_iff.mp h; obtain ⟨a1, rfl, h⟩ := h
  replace h := Option.bind_eq_some_iff.mp h; obtain ⟨x2, e3, h⟩ := h
  refine z_iaload rfl d_Law_law_1000 e3 ?_
  replace h := Option.bind_eq_some_iff.mp h; obtain ⟨a4, rfl, h⟩ := h
  replace h := Option.bind_eq_some_iff.mp h; obtain ⟨_, e18, h⟩ := h
  obtain ⟨b19, f20, e18⟩ := zcls_at (zis_at e18)
  replace h := Option.bind_eq_some_iff.mp h; obtain ⟨⟨x7, σ5⟩, e6, h⟩ := h
  dsimp only at h
  refine z_callV (av := [.int (x2)]) (st := []) wV_NumberOfficeLaw_135 e18 (t_No_twin hG e6) (by decide) (by decide) d_Law_law_1001 (by simp [z_rfc, z_ci, z_cl, z_cr, z_cn]) ?_
  show Z _ _ _ _ _ _ 1004 [(0, .ref (a1)), (1, .ref (a4)), (2, va_rf (v2)), (3, va_rf (v3)), (4, .int (v4))] [.int (x7)] _
  refine z_aload_nR 2 d_Law_law_1004 rfl rfl ?_
  refine z_aload_n 0 d_Law_law_1005 rfl rfl ?_
  refine z_iload 4 d_Law_law_1006 rfl ?_
  refine z_iconst (v := 1) d_Law_law_1008 rfl ?_
  refine z_iadd d_Law_law_1009 ?_
  replace h := Option.bind_eq_some_iff.mp h; obtain ⟨x8, e9, h⟩ := h
  refine z_iaload rfl d_Law_law_1010 e9 ?_
  replace h := Option.bind_eq_some_iff.mp h; obtain ⟨a10, rfl, h⟩ := h
  replace h := Option.bind_eq_some_iff.mp h; obtain ⟨_, e15, h⟩ := h
  obtain ⟨b16, f17, e15⟩ := zcls_at (zis_at e15)
  replace h := Option.bind_eq_some_iff.mp h; obtain ⟨⟨x13, σ11⟩, e12, h⟩ := h
  dsimp only at h
  refine z_callV (av := [.int (x8)]) (st := [.int (x7)]) wV_NumberOfficeLaw_138 e15 (t_Mo_twin hG e12) (by decide) (by decide) d_Law_law_1011 (by simp [z_rfc, z_ci, z_cl, z_cr, z_cn]) ?_
  show Z _ _ _ _ _ _ 1014 [(0, .ref (a1)), (1, .ref (a4)), (2, .ref (a10)), (3, va_rf (v3)), (4, .int (v4))] [.int (x13), .int (x7)] _
  refine z_icmp_eq (tgt := 1387) d_Law_law_1014 rfl (fun c14 => ?_) (fun c14 => ?_)
  · rw [if_pos c14] at h
    refine z_lv (lv' := [(0, va_rf (some (a1))), (1, va_rf (some (a4))), (2, va_rf (some (a10))), (3, va_rf (v3)), (4, .int (v4))]) [0, 1, 2, 3, 4] rfl ?_
    exact t_Law_law_1387 hG hl _ hk33 h
  · rw [if_neg c14] at h
    refine z_iconst (v := 0) d_Law_law_1017 rfl ?_
    cases h
    exact z_zret rfl rfl rfl d_Law_law_1018
set_option maxRecDepth 100000 in
theorem t_Law_law_1084 {l : Launch} {D : zD} {g : zG} (hG : zGok g D) (hl : zLo l) {q : Int32 × zS} (k33 : Option Nat → Option Nat → Option Nat → Option Nat → Int32 → zS → Option (Int32 × zS)) (hk33 : ∀ {v0 : Option Nat} {v1 : Option Nat} {v2 : Option Nat} {v3 : Option Nat} {v4 : Int32} {σ : zS}, k33 v0 v1 v2 v3 v4 σ = some q → Z l D K_Law_law 15 339 (.returned (some (.int q.1)), q.2) 33 [(0, va_rf (v0)), (1, va_rf (v1)), (2, va_rf (v2)), (3, va_rf (v3)), (4, .int (v4))] [] σ) {v0 : Option Nat} {v1 : Option Nat} {v2 : Option Nat} {v3 : Option Nat} {v4 : Int32} {v5 : Int32} {v6 : Int32} {σ : zS} (h : s_Law_law_1084 g k33 v0 v1 v2 v3 v4 v5 v6 σ = some q) : Z l D K_Law_law 15 339 (.returned (some (.int q.1)), q.2) 1084 [(0, va_rf (v0)), (1, va_rf (v1)), (2, va_rf (v2)), (3, va_rf (v3)), (4, .int (v4)), (5, .int (v5)), (6, .int (v6))] [] σ := by
  unfold s_Law_law_1084 at h
  refine z_goto (tgt := 1387) d_Law_law_1084 rfl ?_
  refine z_lv (lv' := [(0, va_rf (v0)), (1, va_rf (v1)), (2, va_rf (v2)), (3, va_rf (v3)), (4, .int (v4))]) [0, 1, 2, 3, 4] rfl ?_
  exact t_Law_law_1387 hG hl _ hk33 h
set_option maxRecDepth 100000 in
theorem t_Law_law_1019 {l : Launch} {D : zD} {g : zG} (hG : zGok g D) (hl : zLo l) {q : Int32 × zS} (k33 : Option Nat → Option Nat → Option Nat → Option Nat → Int32 → zS → Option (Int32 × zS)) (hk33 : ∀ {v0 : Option Nat} {v1 : Option Nat} {v2 : Option Nat} {v3 : Option Nat} {v4 : Int32} {σ : zS}, k33 v0 v1 v2 v3 v4 σ = some q → Z l D K_Law_law 15 339 (.returned (some (.int q.1)), q.2) 33 [(0, va_rf (v0)), (1, va_rf (v1)), (2, va_rf (v2)), (3, va_rf (v3)), (4, .int (v4))] [] σ) {v0 : Option Nat} {v1 : Option Nat} {v2 : Option Nat} {v3 : Option Nat} {v4 : Int32} {σ : zS} (h : s_Law_law_1019 g k33 v0 v1 v2 v3 v4 σ = some q) : Z l D K_Law_law 15 339 (.returned (some (.int q.1)), q.2) 1019 [(0, va_rf (v0)), (1, va_rf (v1)), (2, va_rf (v2)), (3, va_rf (v3)), (4, .int (v4))] [] σ := by
  unfold s_Law_law_1019 at h
  refine z_aload_nR 1 d_Law_law_1019 rfl rfl ?_
  refine z_aload_nR 0 d_Law_law_1020 rfl rfl ?_
  refine z_iload 4 d_Law_law_1021 rfl ?_
  refine z_iconst (v := 1) d_Law_law_1023 rfl ?_
  refine z_iadd d_Law_law_1024 ?_
  replace h := Option.bind_eq_some_iff.mp h; obtain ⟨a1, rfl, h⟩ := h
  replace h := Option.bind_eq_some_iff.mp h; obtain ⟨x2, e3, h⟩ := h
  refine z_iaload rfl d_Law_law_1025 e3 ?_
  refine z_aload_n 0 d_Law_law_1026 rfl rfl ?_
  refine z_iload 4 d_Law_law_1027 rfl ?_
  refine z_iconst (v := 2) d_Law_law_1029 rfl ?_
  refine z_iadd d_Law_law_1030 ?_
  replace h := Option.bind_eq_some_iff.mp h; obtain ⟨x4, e5, h⟩ := h
  refine z_iaload rfl d_Law_law_1031 e5 ?_
  refine z_aload_nR 3 d_Law_law_1032 rfl rfl ?_
  replace h := Option.bind_eq_some_iff.mp h; obtain ⟨⟨x8, σ6⟩, e7, h⟩ := h
  dsimp only at h
  refine z_callS (av := [va_rf (v1), .int (x2), .int (x4), va_rf (v3)]) (st := []) wS_NumberOfficeLaw_139 (t_Law_fate hG hl e7) (by decide) (by decide) d_Law_law_1033 (by simp [z_rfc, z_ci, z_cl, z_cr, z_cn]) ?_
  show Z _ _ _ _ _ _ 1036 [(0, .ref (a1)), (1, va_rf (v1)), (2, va_rf (v2)), (3, va_rf (v3)), (4, .int (v4))] [.int (x8)] _
  refine z_istore (j := 5) (lv' := [(5, .int (x8)), (0, .ref (a1)), (1, va_rf (v1)), (2, va_rf (v2)), (3, va_rf (v3)), (4, .int (v4))]) d_Law_law_1036 (by decide) rfl ?_
  refine z_aload_nR 3 d_Law_law_1038 rfl rfl ?_
  refine z_aload_n 1 d_Law_law_1039 rfl rfl ?_
  refine z_iload 5 d_Law_law_1040 rfl ?_
  refine z_iconst (v := 1) d_Law_law_1042 rfl ?_
  refine z_iadd d_Law_law_1043 ?_
  replace h := Option.bind_eq_some_iff.mp h; obtain ⟨x9, e10, h⟩ := h
  refine z_iaload rfl d_Law_law_1044 e10 ?_
  refine z_aload_n 1 d_Law_law_1045 rfl rfl ?_
  refine z_iload 5 d_Law_law_1046 rfl ?_
  refine z_iconst (v := 2) d_Law_law_1048 rfl ?_
  refine z_iadd d_Law_law_1049 ?_
  replace h := Option.bind_eq_some_iff.mp h; obtain ⟨x11, e12, h⟩ := h
  refine z_iaload rfl d_Law_law_1050 e12 ?_
  replace h := Option.bind_eq_some_iff.mp h; obtain ⟨a13, rfl, h⟩ := h
  replace h := Option.bind_eq_some_iff.mp h; obtain ⟨_, e29, h⟩ := h
  obtain ⟨b30, f31, e29⟩ := zcls_at (zis_at e29)
  replace h := Option.bind_eq_some_iff.mp h; obtain ⟨⟨x16, σ14⟩, e15, h⟩ := h
  dsimp only at h
  refine z_callV (av := [.int (x9), .int (x11)]) (st := []) wV_NumberOfficeLaw_141 e29 (t_Mo_fate hG e15) (by decide) (by decide) d_Law_law_1051 (by simp [z_rfc, z_ci, z_cl, z_cr, z_cn]) ?_
  show Z _ _ _ _ _ _ 1054 [(5, .int (x8)), (0, .ref (a1)), (1, va_rf (v1)), (2, .ref (a13)), (3, va_rf (v3)), (4, .int (v4))] [.int (x16)] _
  refine z_istore (j := 6) (lv' := [(6, .int (x16)), (5, .int (x8)), (0, .ref (a1)), (1, va_rf (v1)), (2, .ref (a13)), (3, va_rf (v3)), (4, .int (v4))]) d_Law_law_1054 (by decide) rfl ?_
  refine z_aload_n 4 d_Law_law_1056 rfl rfl ?_
  replace h := Option.bind_eq_some_iff.mp h; obtain ⟨_, e26, h⟩ := h
  obtain ⟨b27, f28, e26⟩ := zcls_at (zis_at e26)
  replace h := Option.bind_eq_some_iff.mp h; obtain ⟨⟨x19, σ17⟩, e18, h⟩ := h
  dsimp only at h
  refine z_callV (av := []) (st := []) wV_NumberOfficeLaw_71 e26 (t_Mo_thrown hG e18) (by decide) (by decide) d_Law_law_1057 (by simp [z_rfc, z_ci, z_cl, z_cr, z_cn]) ?_
  show Z _ _ _ _ _ _ 1060 [(6, .int (x16)), (5, .int (x8)), (0, .ref (a1)), (1, va_rf (v1)), (2, .ref (a13)), (3, va_rf (v3)), (4, .int (v4))] [.int (x19)] _
  refine z_iload 1 d_Law_law_1060 rfl ?_
  refine z_icmp_eq (tgt := 1067) d_Law_law_1062 rfl (fun c20 => ?_) (fun c20 => ?_)
  · rw [if_pos c20] at h
    refine z_iload 1 d_Law_law_1067 rfl ?_
    refine z_if_ne (tgt := 1084) d_Law_law_1069 rfl (fun c21 => ?_) (fun c21 => ?_)
    · rw [if_neg c21] at h
      refine z_lv (lv' := [(0, va_rf (some (a1))), (1, va_rf (v1)), (2, va_rf (some (a13))), (3, va_rf (v3)), (4, .int (v4)), (5, .int (x8)), (6, .int (x16))]) [2, 3, 4, 5, 6, 1, 0] rfl ?_
      exact t_Law_law_1084 hG hl _ hk33 h
    · rw [if_pos c21] at h
      refine z_aload_nR 5 d_Law_law_1072 rfl rfl ?_
      refine z_iconst (v := 0) d_Law_law_1073 rfl ?_
      replace h := Option.bind_eq_some_iff.mp h; obtain ⟨a22, rfl, h⟩ := h
      replace h := Option.bind_eq_some_iff.mp h; obtain ⟨x23, e24, h⟩ := h
      refine z_laload rfl d_Law_law_1074 e24 ?_
      refine z_iload 0 d_Law_law_1075 rfl ?_
      refine z_i2l d_Law_law_1077 ?_
      refine z_lcmp d_Law_law_1078 ?_
      refine z_if_eq (tgt := 1084) d_Law_law_1079 rfl (fun c25 => ?_) (fun c25 => ?_)
      · rw [if_pos c25] at h
        refine z_lv (lv' := [(0, va_rf (some (a1))), (1, va_rf (v1)), (2, va_rf (some (a13))), (3, va_rf (some (a22))), (4, .int (v4)), (5, .int (x8)), (6, .int (x16))]) [2, 3, 4, 5, 6, 1, 0] rfl ?_
        exact t_Law_law_1084 hG hl _ hk33 h
      · rw [if_neg c25] at h
        refine z_iconst (v := 0) d_Law_law_1082 rfl ?_
        cases h
        exact z_zret rfl rfl rfl d_Law_law_1083
  · rw [if_neg c20] at h
    refine z_iconst (v := 0) d_Law_law_1065 rfl ?_
    cases h
    exact z_zret rfl rfl rfl d_Law_law_1066
set_option maxRecDepth 100000 in
theorem t_Law_law_1163 {l : Launch} {D : zD} {g : zG} (hG : zGok g D) (hl : zLo l) {q : Int32 × zS} (k33 : Option Nat → Option Nat → Option Nat → Option Nat → Int32 → zS → Option (Int32 × zS)) (hk33 : ∀ {v0 : Option Nat} {v1 : Option Nat} {v2 : Option Nat} {v3 : Option Nat} {v4 : Int32} {σ : zS}, k33 v0 v1 v2 v3 v4 σ = some q → Z l D K_Law_law 15 339 (.returned (some (.int q.1)), q.2) 33 [(0, va_rf (v0)), (1, va_rf (v1)), (2, va_rf (v2)), (3, va_rf (v3)), (4, .int (v4))] [] σ) {v0 : Option Nat} {v1 : Option Nat} {v2 : Option Nat} {v3 : Option Nat} {v4 : Int32} {v5 : Int32} {v6 : Int64} {σ : zS} (h : s_Law_law_1163 g k33 v0 v1 v2 v3 v4 v5 v6 σ = some q) : Z l D K_Law_law 15 339 (.returned (some (.int q.1)), q.2) 1163 [(0, va_rf (v0)), (1, va_rf (v1)), (2, va_rf (v2)), (3, va_rf (v3)), (4, .int (v4)), (5, .int (v5)), (6, .long (v6))] [] σ := by
  unfold s_Law_law_1163 at h
  refine z_goto (tgt := 1387) d_Law_law_1163 rfl ?_
  refine z_lv (lv' := [(0, va_rf (v0)), (1, va_rf (v1)), (2, va_rf (v2)), (3, va_rf (v3)), (4, .int (v4))]) [0, 1, 2, 3, 4] rfl ?_
  exact t_Law_law_1387 hG hl _ hk33 h
set_option maxRecDepth 100000 in
theorem t_Law_law_1087 {l : Launch} {D : zD} {g : zG} (hG : zGok g D) (hl : zLo l) {q : Int32 × zS} (k33 : Option Nat → Option Nat → Option Nat → Option Nat → Int32 → zS → Option (Int32 × zS)) (hk33 : ∀ {v0 : Option Nat} {v1 : Option Nat} {v2 : Option Nat} {v3 : Option Nat} {v4 : Int32} {σ : zS}, k33 v0 v1 v2 v3 v4 σ = some q → Z l D K_Law_law 15 339 (.returned (some (.int q.1)), q.2) 33 [(0, va_rf (v0)), (1, va_rf (v1)), (2, va_rf (v2)), (3, va_rf (v3)), (4, .int (v4))] [] σ) {v0 : Option Nat} {v1 : Option Nat} {v2 : Option Nat} {v3 : Option Nat} {v4 : Int32} {σ : zS} (h : s_Law_law_1087 g k33 v0 v1 v2 v3 v4 σ = some q) : Z l D K_Law_law 15 339 (.returned (some (.int q.1)), q.2) 1087 [(0, va_rf (v0)), (1, va_rf (v1)), (2, va_rf (v2)), (3, va_rf (v3)), (4, .int (v4))] [] σ := by
  unfold s_Law_law_1087 at h
  refine z_aload_nR 1 d_Law_law_1087 rfl rfl ?_
  refine z_aload_nR 0 d_Law_law_1088 rfl rfl ?_
  refine z_iload 4 d_Law_law_1089 rfl ?_
  refine z_iconst (v := 1) d_Law_law_1091 rfl ?_
  refine z_iadd d_Law_law_1092 ?_
  replace h := Option.bind_eq_some_iff.mp h; obtain ⟨a1, rfl, h⟩ := h
  replace h := Option.bind_eq_some_iff.mp h; obtain ⟨x2, e3, h⟩ := h
  refine z_iaload rfl d_Law_law_1093 e3 ?_
  refine z_aload_n 0 d_Law_law_1094 rfl rfl ?_
  refine z_iload 4 d_Law_law_1095 rfl ?_
  refine z_iconst (v := 2) d_Law_law_1097 rfl ?_
  refine z_iadd d_Law_law_1098 ?_
  replace h := Option.bind_eq_some_iff.mp h; obtain ⟨x4, e5, h⟩ := h
  refine z_iaload rfl d_Law_law_1099 e5 ?_
  refine z_aload_n 0 d_Law_law_1100 rfl rfl ?_
  refine z_iload 4 d_Law_law_1101 rfl ?_
  refine z_iconst (v := 3) d_Law_law_1103 rfl ?_
  refine z_iadd d_Law_law_1104 ?_
  replace h := Option.bind_eq_some_iff.mp h; obtain ⟨x6, e7, h⟩ := h
  refine z_iaload rfl d_Law_law_1105 e7 ?_
  refine z_aload_nR 3 d_Law_law_1106 rfl rfl ?_
  replace h := Option.bind_eq_some_iff.mp h; obtain ⟨⟨x10, σ8⟩, e9, h⟩ := h
  dsimp only at h
  refine z_callS (av := [va_rf (v1), .int (x2), .int (x4), .int (x6), va_rf (v3)]) (st := []) wS_NumberOfficeLaw_142 (t_Law_invoiceOf hG hl e9) (by decide) (by decide) d_Law_law_1107 (by simp [z_rfc, z_ci, z_cl, z_cr, z_cn]) ?_
  show Z _ _ _ _ _ _ 1110 [(0, .ref (a1)), (1, va_rf (v1)), (2, va_rf (v2)), (3, va_rf (v3)), (4, .int (v4))] [.int (x10)] _
  refine z_istore (j := 5) (lv' := [(5, .int (x10)), (0, .ref (a1)), (1, va_rf (v1)), (2, va_rf (v2)), (3, va_rf (v3)), (4, .int (v4))]) d_Law_law_1110 (by decide) rfl ?_
  refine z_aload_nR 3 d_Law_law_1112 rfl rfl ?_
  refine z_aload_n 1 d_Law_law_1113 rfl rfl ?_
  refine z_iload 5 d_Law_law_1114 rfl ?_
  refine z_iconst (v := 1) d_Law_law_1116 rfl ?_
  refine z_iadd d_Law_law_1117 ?_
  replace h := Option.bind_eq_some_iff.mp h; obtain ⟨x11, e12, h⟩ := h
  refine z_iaload rfl d_Law_law_1118 e12 ?_
  refine z_aload_n 1 d_Law_law_1119 rfl rfl ?_
  refine z_iload 5 d_Law_law_1120 rfl ?_
  refine z_iconst (v := 2) d_Law_law_1122 rfl ?_
  refine z_iadd d_Law_law_1123 ?_
  replace h := Option.bind_eq_some_iff.mp h; obtain ⟨x13, e14, h⟩ := h
  refine z_iaload rfl d_Law_law_1124 e14 ?_
  refine z_aload_n 1 d_Law_law_1125 rfl rfl ?_
  refine z_iload 5 d_Law_law_1126 rfl ?_
  refine z_iconst (v := 3) d_Law_law_1128 rfl ?_
  refine z_iadd d_Law_law_1129 ?_
  replace h := Option.bind_eq_some_iff.mp h; obtain ⟨x15, e16, h⟩ := h
  refine z_iaload rfl d_Law_law_1130 e16 ?_
  replace h := Option.bind_eq_some_iff.mp h; obtain ⟨a17, rfl, h⟩ := h
  replace h := Option.bind_eq_some_iff.mp h; obtain ⟨_, e33, h⟩ := h
  obtain ⟨b34, f35, e33⟩ := zcls_at (zis_at e33)
  replace h := Option.bind_eq_some_iff.mp h; obtain ⟨⟨x20, σ18⟩, e19, h⟩ := h
  dsimp only at h
  refine z_callV (av := [.int (x11), .int (x13), .int (x15)]) (st := []) wV_NumberOfficeLaw_144 e33 (t_Mo_invoiceOf hG e19) (by decide) (by decide) d_Law_law_1131 (by simp [z_rfc, z_ci, z_cl, z_cr, z_cn]) ?_
  show Z _ _ _ _ _ _ 1134 [(5, .int (x10)), (0, .ref (a1)), (1, va_rf (v1)), (2, .ref (a17)), (3, va_rf (v3)), (4, .int (v4))] [.long (x20)] _
  refine z_lstore (j := 6) (lv' := [(6, .long (x20)), (5, .int (x10)), (0, .ref (a1)), (1, va_rf (v1)), (2, .ref (a17)), (3, va_rf (v3)), (4, .int (v4))]) d_Law_law_1134 (by decide) rfl ?_
  refine z_aload_n 4 d_Law_law_1136 rfl rfl ?_
  replace h := Option.bind_eq_some_iff.mp h; obtain ⟨_, e30, h⟩ := h
  obtain ⟨b31, f32, e30⟩ := zcls_at (zis_at e30)
  replace h := Option.bind_eq_some_iff.mp h; obtain ⟨⟨x23, σ21⟩, e22, h⟩ := h
  dsimp only at h
  refine z_callV (av := []) (st := []) wV_NumberOfficeLaw_71 e30 (t_Mo_thrown hG e22) (by decide) (by decide) d_Law_law_1137 (by simp [z_rfc, z_ci, z_cl, z_cr, z_cn]) ?_
  show Z _ _ _ _ _ _ 1140 [(6, .long (x20)), (5, .int (x10)), (0, .ref (a1)), (1, va_rf (v1)), (2, .ref (a17)), (3, va_rf (v3)), (4, .int (v4))] [.int (x23)] _
  refine z_iload 1 d_Law_law_1140 rfl ?_
  refine z_icmp_eq (tgt := 1147) d_Law_law_1142 rfl (fun c24 => ?_) (fun c24 => ?_)
  · rw [if_pos c24] at h
    refine z_iload 1 d_Law_law_1147 rfl ?_
    refine z_if_ne (tgt := 1163) d_Law_law_1149 rfl (fun c25 => ?_) (fun c25 => ?_)
    · rw [if_neg c25] at h
      refine z_lv (lv' := [(0, va_rf (some (a1))), (1, va_rf (v1)), (2, va_rf (some (a17))), (3, va_rf (v3)), (4, .int (v4)), (5, .int (x10)), (6, .long (x20))]) [2, 3, 4, 5, 6, 1, 0] rfl ?_
      exact t_Law_law_1163 hG hl _ hk33 h
    · rw [if_pos c25] at h
      refine z_aload_nR 5 d_Law_law_1152 rfl rfl ?_
      refine z_iconst (v := 0) d_Law_law_1153 rfl ?_
      replace h := Option.bind_eq_some_iff.mp h; obtain ⟨a26, rfl, h⟩ := h
      replace h := Option.bind_eq_some_iff.mp h; obtain ⟨x27, e28, h⟩ := h
      refine z_laload rfl d_Law_law_1154 e28 ?_
      refine z_lload 0 d_Law_law_1155 rfl ?_
      refine z_lcmp d_Law_law_1157 ?_
      refine z_if_eq (tgt := 1163) d_Law_law_1158 rfl (fun c29 => ?_) (fun c29 => ?_)
      · rw [if_pos c29] at h
        refine z_lv (lv' := [(0, va_rf (some (a1))), (1, va_rf (v1)), (2, va_rf (some (a17))), (3, va_rf (some (a26))), (4, .int (v4)), (5, .int (x10)), (6, .long (x20))]) [2, 3, 4, 5, 6, 1, 0] rfl ?_
        exact t_Law_law_1163 hG hl _ hk33 h
      · rw [if_neg c29] at h
        refine z_iconst (v := 0) d_Law_law_1161 rfl ?_
        cases h
        exact z_zret rfl rfl rfl d_Law_law_1162
  · rw [if_neg c24] at h
    refine z_iconst (v := 0) d_Law_law_1145 rfl ?_
    cases h
    exact z_zret rfl rfl rfl d_Law_law_1146
set_option maxRecDepth 100000 in
theorem t_Law_law_1230 {l : Launch} {D : zD} {g : zG} (hG : zGok g D) (hl : zLo l) {q : Int32 × zS} (k33 : Option Nat → Option Nat → Option Nat → Option Nat → Int32 → zS → Option (Int32 × zS)) (hk33 : ∀ {v0 : Option Nat} {v1 : Option Nat} {v2 : Option Nat} {v3 : Option Nat} {v4 : Int32} {σ : zS}, k33 v0 v1 v2 v3 v4 σ = some q → Z l D K_Law_law 15 339 (.returned (some (.int q.1)), q.2) 33 [(0, va_rf (v0)), (1, va_rf (v1)), (2, va_rf (v2)), (3, va_rf (v3)), (4, .int (v4))] [] σ) {v0 : Option Nat} {v1 : Option Nat} {v2 : Option Nat} {v3 : Option Nat} {v4 : Int32} {v5 : Int32} {v6 : Int64} {σ : zS} (h : s_Law_law_1230 g k33 v0 v1 v2 v3 v4 v5 v6 σ = some q) : Z l D K_Law_law 15 339 (.returned (some (.int q.1)), q.2) 1230 [(0, va_rf (v0)), (1, va_rf (v1)), (2, va_rf (v2)), (3, va_rf (v3)), (4, .int (v4)), (5, .int (v5)), (6, .long (v6))] [] σ := by
  unfold s_Law_law_1230 at h
  refine z_goto (tgt := 1387) d_Law_law_1230 rfl ?_
  refine z_lv (lv' := [(0, va_rf (v0)), (1, va_rf (v1)), (2, va_rf (v2)), (3, va_rf (v3)), (4, .int (v4))]) [0, 1, 2, 3, 4] rfl ?_
  exact t_Law_law_1387 hG hl _ hk33 h
set_option maxRecDepth 100000 in
theorem t_Law_law_1166 {l : Launch} {D : zD} {g : zG} (hG : zGok g D) (hl : zLo l) {q : Int32 × zS} (k33 : Option Nat → Option Nat → Option Nat → Option Nat → Int32 → zS → Option (Int32 × zS)) (hk33 : ∀ {v0 : Option Nat} {v1 : Option Nat} {v2 : Option Nat} {v3 : Option Nat} {v4 : Int32} {σ : zS}, k33 v0 v1 v2 v3 v4 σ = some q → Z l D K_Law_law 15 339 (.returned (some (.int q.1)), q.2) 33 [(0, va_rf (v0)), (1, va_rf (v1)), (2, va_rf (v2)), (3, va_rf (v3)), (4, .int (v4))] [] σ) {v0 : Option Nat} {v1 : Option Nat} {v2 : Option Nat} {v3 : Option Nat} {v4 : Int32} {σ : zS} (h : s_Law_law_1166 g k33 v0 v1 v2 v3 v4 σ = some q) : Z l D K_Law_law 15 339 (.returned (some (.int q.1)), q.2) 1166 [(0, va_rf (v0)), (1, va_rf (v1)), (2, va_rf (v2)), (3, va_rf (v3)), (4, .int (v4))] [] σ := by
  unfold s_Law_law_1166 at h
  refine z_aload_nR 1 d_Law_law_1166 rfl rfl ?_
  refine z_aload_nR 0 d_Law_law_1167 rfl rfl ?_
  refine z_iload 4 d_Law_law_1168 rfl ?_
  refine z_iconst (v := 1) d_Law_law_1170 rfl ?_
  refine z_iadd d_Law_law_1171 ?_
  replace h := Option.bind_eq_some_iff.mp h; obtain ⟨a1, rfl, h⟩ := h
  replace h := Option.bind_eq_some_iff.mp h; obtain ⟨x2, e3, h⟩ := h
  refine z_iaload rfl d_Law_law_1172 e3 ?_
  refine z_aload_n 0 d_Law_law_1173 rfl rfl ?_
  refine z_iload 4 d_Law_law_1174 rfl ?_
  refine z_iconst (v := 2) d_Law_law_1176 rfl ?_
  refine z_iadd d_Law_law_1177 ?_
  replace h := Option.bind_eq_some_iff.mp h; obtain ⟨x4, e5, h⟩ := h
  refine z_iaload rfl d_Law_law_1178 e5 ?_
  refine z_aload_nR 3 d_Law_law_1179 rfl rfl ?_
  replace h := Option.bind_eq_some_iff.mp h; obtain ⟨⟨x8, σ6⟩, e7, h⟩ := h
  dsimp only at h
  refine z_callS (av := [va_rf (v1), .int (x2), .int (x4), va_rf (v3)]) (st := []) wS_NumberOfficeLaw_145 (t_Law_total hG hl e7) (by decide) (by decide) d_Law_law_1180 (by simp [z_rfc, z_ci, z_cl, z_cr, z_cn]) ?_
  show Z _ _ _ _ _ _ 1183 [(0, .ref (a1)), (1, va_rf (v1)), (2, va_rf (v2)), (3, va_rf (v3)), (4, .int (v4))] [.int (x8)] _
  refine z_istore (j := 5) (lv' := [(5, .int (x8)), (0, .ref (a1)), (1, va_rf (v1)), (2, va_rf (v2)), (3, va_rf (v3)), (4, .int (v4))]) d_Law_law_1183 (by decide) rfl ?_
  refine z_aload_nR 3 d_Law_law_1185 rfl rfl ?_
  refine z_aload_n 1 d_Law_law_1186 rfl rfl ?_
  refine z_iload 5 d_Law_law_1187 rfl ?_
  refine z_iconst (v := 1) d_Law_law_1189 rfl ?_
  refine z_iadd d_Law_law_1190 ?_
  replace h := Option.bind_eq_some_iff.mp h; obtain ⟨x9, e10, h⟩ := h
  refine z_iaload rfl d_Law_law_1191 e10 ?_
  refine z_aload_n 1 d_Law_law_1192 rfl rfl ?_
  refine z_iload 5 d_Law_law_1193 rfl ?_
  refine z_iconst (v := 2) d_Law_law_1195 rfl ?_
  refine z_iadd d_Law_law_1196 ?_
  replace h := Option.bind_eq_some_iff.mp h; obtain ⟨x11, e12, h⟩ := h
  refine z_iaload rfl d_Law_law_1197 e12 ?_
  replace h := Option.bind_eq_some_iff.mp h; obtain ⟨a13, rfl, h⟩ := h
  replace h := Option.bind_eq_some_iff.mp h; obtain ⟨_, e29, h⟩ := h
  obtain ⟨b30, f31, e29⟩ := zcls_at (zis_at e29)
  replace h := Option.bind_eq_some_iff.mp h; obtain ⟨⟨x16, σ14⟩, e15, h⟩ := h
  dsimp only at h
  refine z_callV (av := [.int (x9), .int (x11)]) (st := []) wV_NumberOfficeLaw_147 e29 (t_Mo_total hG e15) (by decide) (by decide) d_Law_law_1198 (by simp [z_rfc, z_ci, z_cl, z_cr, z_cn]) ?_
  show Z _ _ _ _ _ _ 1201 [(5, .int (x8)), (0, .ref (a1)), (1, va_rf (v1)), (2, .ref (a13)), (3, va_rf (v3)), (4, .int (v4))] [.long (x16)] _
  refine z_lstore (j := 6) (lv' := [(6, .long (x16)), (5, .int (x8)), (0, .ref (a1)), (1, va_rf (v1)), (2, .ref (a13)), (3, va_rf (v3)), (4, .int (v4))]) d_Law_law_1201 (by decide) rfl ?_
  refine z_aload_n 4 d_Law_law_1203 rfl rfl ?_
  replace h := Option.bind_eq_some_iff.mp h; obtain ⟨_, e26, h⟩ := h
  obtain ⟨b27, f28, e26⟩ := zcls_at (zis_at e26)
  replace h := Option.bind_eq_some_iff.mp h; obtain ⟨⟨x19, σ17⟩, e18, h⟩ := h
  dsimp only at h
  refine z_callV (av := []) (st := []) wV_NumberOfficeLaw_71 e26 (t_Mo_thrown hG e18) (by decide) (by decide) d_Law_law_1204 (by simp [z_rfc, z_ci, z_cl, z_cr, z_cn]) ?_
  show Z _ _ _ _ _ _ 1207 [(6, .long (x16)), (5, .int (x8)), (0, .ref (a1)), (1, va_rf (v1)), (2, .ref (a13)), (3, va_rf (v3)), (4, .int (v4))] [.int (x19)] _
  refine z_iload 1 d_Law_law_1207 rfl ?_
  refine z_icmp_eq (tgt := 1214) d_Law_law_1209 rfl (fun c20 => ?_) (fun c20 => ?_)
  · rw [if_pos c20] at h
    refine z_iload 1 d_Law_law_1214 rfl ?_
    refine z_if_ne (tgt := 1230) d_Law_law_1216 rfl (fun c21 => ?_) (fun c21 => ?_)
    · rw [if_neg c21] at h
      refine z_lv (lv' := [(0, va_rf (some (a1))), (1, va_rf (v1)), (2, va_rf (some (a13))), (3, va_rf (v3)), (4, .int (v4)), (5, .int (x8)), (6, .long (x16))]) [2, 3, 4, 5, 6, 1, 0] rfl ?_
      exact t_Law_law_1230 hG hl _ hk33 h
    · rw [if_pos c21] at h
      refine z_aload_nR 5 d_Law_law_1219 rfl rfl ?_
      refine z_iconst (v := 0) d_Law_law_1220 rfl ?_
      replace h := Option.bind_eq_some_iff.mp h; obtain ⟨a22, rfl, h⟩ := h
      replace h := Option.bind_eq_some_iff.mp h; obtain ⟨x23, e24, h⟩ := h
      refine z_laload rfl d_Law_law_1221 e24 ?_
      refine z_lload 0 d_Law_law_1222 rfl ?_
      refine z_lcmp d_Law_law_1224 ?_
      refine z_if_eq (tgt := 1230) d_Law_law_1225 rfl (fun c25 => ?_) (fun c25 => ?_)
      · rw [if_pos c25] at h
        refine z_lv (lv' := [(0, va_rf (some (a1))), (1, va_rf (v1)), (2, va_rf (some (a13))), (3, va_rf (some (a22))), (4, .int (v4)), (5, .int (x8)), (6, .long (x16))]) [2, 3, 4, 5, 6, 1, 0] rfl ?_
        exact t_Law_law_1230 hG hl _ hk33 h
      · rw [if_neg c25] at h
        refine z_iconst (v := 0) d_Law_law_1228 rfl ?_
        cases h
        exact z_zret rfl rfl rfl d_Law_law_1229
  · rw [if_neg c20] at h
    refine z_iconst (v := 0) d_Law_law_1212 rfl ?_
    cases h
    exact z_zret rfl rfl rfl d_Law_law_1213
set_option maxRecDepth 100000 in
theorem t_Law_law_1233 {l : Launch} {D : zD} {g : zG} (hG : zGok g D) (hl : zLo l) {q : Int32 × zS} (k33 : Option Nat → Option Nat → Option Nat → Option Nat → Int32 → zS → Option (Int32 × zS)) (hk33 : ∀ {v0 : Option Nat} {v1 : Option Nat} {v2 : Option Nat} {v3 : Option Nat} {v4 : Int32} {σ : zS}, k33 v0 v1 v2 v3 v4 σ = some q → Z l D K_Law_law 15 339 (.returned (some (.int q.1)), q.2) 33 [(0, va_rf (v0)), (1, va_rf (v1)), (2, va_rf (v2)), (3, va_rf (v3)), (4, .int (v4))] [] σ) {v0 : Option Nat} {v1 : Option Nat} {v2 : Option Nat} {v3 : Option Nat} {v4 : Int32} {σ : zS} (h : s_Law_law_1233 g k33 v0 v1 v2 v3 v4 σ = some q) : Z l D K_Law_law 15 339 (.returned (some (.int q.1)), q.2) 1233 [(0, va_rf (v0)), (1, va_rf (v1)), (2, va_rf (v2)), (3, va_rf (v3)), (4, .int (v4))] [] σ := by
  unfold s_Law_law_1233 at h
  refine z_aload_nR 1 d_Law_law_1233 rfl rfl ?_
  refine z_aload_nR 0 d_Law_law_1234 rfl rfl ?_
  refine z_iload 4 d_Law_law_1235 rfl ?_
  refine z_iconst (v := 1) d_Law_law_1237 rfl ?_
  refine z_iadd d_Law_law_1238 ?_
  replace h := Option.bind_eq_some_iff.mp h; obtain ⟨a1, rfl, h⟩ := h
  replace h := Option.bind_eq_some_iff.mp h; obtain ⟨x2, e3, h⟩ := h
  refine z_iaload rfl d_Law_law_1239 e3 ?_
  refine z_aload_n 0 d_Law_law_1240 rfl rfl ?_
  refine z_iload 4 d_Law_law_1241 rfl ?_
  refine z_iconst (v := 2) d_Law_law_1243 rfl ?_
  refine z_iadd d_Law_law_1244 ?_
  replace h := Option.bind_eq_some_iff.mp h; obtain ⟨x4, e5, h⟩ := h
  refine z_iaload rfl d_Law_law_1245 e5 ?_
  refine z_aload_n 0 d_Law_law_1246 rfl rfl ?_
  refine z_iload 4 d_Law_law_1247 rfl ?_
  refine z_iconst (v := 3) d_Law_law_1249 rfl ?_
  refine z_iadd d_Law_law_1250 ?_
  replace h := Option.bind_eq_some_iff.mp h; obtain ⟨x6, e7, h⟩ := h
  refine z_iaload rfl d_Law_law_1251 e7 ?_
  replace h := Option.bind_eq_some_iff.mp h; obtain ⟨a8, rfl, h⟩ := h
  replace h := Option.bind_eq_some_iff.mp h; obtain ⟨_, e26, h⟩ := h
  obtain ⟨b27, f28, e26⟩ := zcls_at (zis_at e26)
  replace h := Option.bind_eq_some_iff.mp h; obtain ⟨⟨x11, σ9⟩, e10, h⟩ := h
  dsimp only at h
  refine z_callV (av := [.int (x2), .int (x4), .int (x6)]) (st := []) wV_NumberOfficeLaw_148 e26 (t_No_branchFate hG e10) (by decide) (by decide) d_Law_law_1252 (by simp [z_rfc, z_ci, z_cl, z_cr, z_cn]) ?_
  show Z _ _ _ _ _ _ 1255 [(0, .ref (a1)), (1, .ref (a8)), (2, va_rf (v2)), (3, va_rf (v3)), (4, .int (v4))] [.int (x11)] _
  refine z_aload_nR 2 d_Law_law_1255 rfl rfl ?_
  refine z_aload_n 0 d_Law_law_1256 rfl rfl ?_
  refine z_iload 4 d_Law_law_1257 rfl ?_
  refine z_iconst (v := 1) d_Law_law_1259 rfl ?_
  refine z_iadd d_Law_law_1260 ?_
  replace h := Option.bind_eq_some_iff.mp h; obtain ⟨x12, e13, h⟩ := h
  refine z_iaload rfl d_Law_law_1261 e13 ?_
  refine z_aload_n 0 d_Law_law_1262 rfl rfl ?_
  refine z_iload 4 d_Law_law_1263 rfl ?_
  refine z_iconst (v := 2) d_Law_law_1265 rfl ?_
  refine z_iadd d_Law_law_1266 ?_
  replace h := Option.bind_eq_some_iff.mp h; obtain ⟨x14, e15, h⟩ := h
  refine z_iaload rfl d_Law_law_1267 e15 ?_
  refine z_aload_n 0 d_Law_law_1268 rfl rfl ?_
  refine z_iload 4 d_Law_law_1269 rfl ?_
  refine z_iconst (v := 3) d_Law_law_1271 rfl ?_
  refine z_iadd d_Law_law_1272 ?_
  replace h := Option.bind_eq_some_iff.mp h; obtain ⟨x16, e17, h⟩ := h
  refine z_iaload rfl d_Law_law_1273 e17 ?_
  replace h := Option.bind_eq_some_iff.mp h; obtain ⟨a18, rfl, h⟩ := h
  replace h := Option.bind_eq_some_iff.mp h; obtain ⟨_, e23, h⟩ := h
  obtain ⟨b24, f25, e23⟩ := zcls_at (zis_at e23)
  replace h := Option.bind_eq_some_iff.mp h; obtain ⟨⟨x21, σ19⟩, e20, h⟩ := h
  dsimp only at h
  refine z_callV (av := [.int (x12), .int (x14), .int (x16)]) (st := [.int (x11)]) wV_NumberOfficeLaw_151 e23 (t_Mo_branchFate hG e20) (by decide) (by decide) d_Law_law_1274 (by simp [z_rfc, z_ci, z_cl, z_cr, z_cn]) ?_
  show Z _ _ _ _ _ _ 1277 [(0, .ref (a1)), (1, .ref (a8)), (2, .ref (a18)), (3, va_rf (v3)), (4, .int (v4))] [.int (x21), .int (x11)] _
  refine z_icmp_eq (tgt := 1387) d_Law_law_1277 rfl (fun c22 => ?_) (fun c22 => ?_)
  · rw [if_pos c22] at h
    refine z_lv (lv' := [(0, va_rf (some (a1))), (1, va_rf (some (a8))), (2, va_rf (some (a18))), (3, va_rf (v3)), (4, .int (v4))]) [0, 1, 2, 3, 4] rfl ?_
    exact t_Law_law_1387 hG hl _ hk33 h
  · rw [if_neg c22] at h
    refine z_iconst (v := 0) d_Law_law_1280 rfl ?_
    cases h
    exact z_zret rfl rfl rfl d_Law_law_1281
set_option maxRecDepth 100000 in
theorem t_Law_law_1282 {l : Launch} {D : zD} {g : zG} (hG : zGok g D) (hl : zLo l) {q : Int32 × zS} (k33 : Option Nat → Option Nat → Option Nat → Option Nat → Int32 → zS → Option (Int32 × zS)) (hk33 : ∀ {v0 : Option Nat} {v1 : Option Nat} {v2 : Option Nat} {v3 : Option Nat} {v4 : Int32} {σ : zS}, k33 v0 v1 v2 v3 v4 σ = some q → Z l D K_Law_law 15 339 (.returned (some (.int q.1)), q.2) 33 [(0, va_rf (v0)), (1, va_rf (v1)), (2, va_rf (v2)), (3, va_rf (v3)), (4, .int (v4))] [] σ) {v0 : Option Nat} {v1 : Option Nat} {v2 : Option Nat} {v3 : Option Nat} {v4 : Int32} {σ : zS} (h : s_Law_law_1282 g k33 v0 v1 v2 v3 v4 σ = some q) : Z l D K_Law_law 15 339 (.returned (some (.int q.1)), q.2) 1282 [(0, va_rf (v0)), (1, va_rf (v1)), (2, va_rf (v2)), (3, va_rf (v3)), (4, .int (v4))] [] σ := by
  unfold s_Law_law_1282 at h
  refine z_aload_nR 1 d_Law_law_1282 rfl rfl ?_
  refine z_aload_nR 0 d_Law_law_1283 rfl rfl ?_
  refine z_iload 4 d_Law_law_1284 rfl ?_
  refine z_iconst (v := 1) d_Law_law_1286 rfl ?_
  refine z_iadd d_Law_law_1287 ?_
  replace h := Option.bind_eq_some_iff.mp h; obtain ⟨a1, rfl, h⟩ := h
  replace h := Option.bind_eq_some_iff.mp h; obtain ⟨x2, e3, h⟩ := h
  refine z_iaload rfl d_Law_law_1288 e3 ?_
  refine z_aload_n 0 d_Law_law_1289 rfl rfl ?_
  refine z_iload 4 d_Law_law_1290 rfl ?_
  refine z_iconst (v := 2) d_Law_law_1292 rfl ?_
  refine z_iadd d_Law_law_1293 ?_
  replace h := Option.bind_eq_some_iff.mp h; obtain ⟨x4, e5, h⟩ := h
  refine z_iaload rfl d_Law_law_1294 e5 ?_
  replace h := Option.bind_eq_some_iff.mp h; obtain ⟨a6, rfl, h⟩ := h
  replace h := Option.bind_eq_some_iff.mp h; obtain ⟨_, e22, h⟩ := h
  obtain ⟨b23, f24, e22⟩ := zcls_at (zis_at e22)
  replace h := Option.bind_eq_some_iff.mp h; obtain ⟨⟨x9, σ7⟩, e8, h⟩ := h
  dsimp only at h
  refine z_callV (av := [.int (x2), .int (x4)]) (st := []) wV_NumberOfficeLaw_152 e22 (t_No_branch hG e8) (by decide) (by decide) d_Law_law_1295 (by simp [z_rfc, z_ci, z_cl, z_cr, z_cn]) ?_
  show Z _ _ _ _ _ _ 1298 [(0, .ref (a1)), (1, .ref (a6)), (2, va_rf (v2)), (3, va_rf (v3)), (4, .int (v4))] [.int (x9)] _
  refine z_aload_nR 2 d_Law_law_1298 rfl rfl ?_
  refine z_aload_n 0 d_Law_law_1299 rfl rfl ?_
  refine z_iload 4 d_Law_law_1300 rfl ?_
  refine z_iconst (v := 1) d_Law_law_1302 rfl ?_
  refine z_iadd d_Law_law_1303 ?_
  replace h := Option.bind_eq_some_iff.mp h; obtain ⟨x10, e11, h⟩ := h
  refine z_iaload rfl d_Law_law_1304 e11 ?_
  refine z_aload_n 0 d_Law_law_1305 rfl rfl ?_
  refine z_iload 4 d_Law_law_1306 rfl ?_
  refine z_iconst (v := 2) d_Law_law_1308 rfl ?_
  refine z_iadd d_Law_law_1309 ?_
  replace h := Option.bind_eq_some_iff.mp h; obtain ⟨x12, e13, h⟩ := h
  refine z_iaload rfl d_Law_law_1310 e13 ?_
  replace h := Option.bind_eq_some_iff.mp h; obtain ⟨a14, rfl, h⟩ := h
  replace h := Option.bind_eq_some_iff.mp h; obtain ⟨_, e19, h⟩ := h
  obtain ⟨b20, f21, e19⟩ := zcls_at (zis_at e19)
  replace h := Option.bind_eq_some_iff.mp h; obtain ⟨⟨x17, σ15⟩, e16, h⟩ := h
  dsimp only at h
  refine z_callV (av := [.int (x10), .int (x12)]) (st := [.int (x9)]) wV_NumberOfficeLaw_155 e19 (t_Mo_branch hG e16) (by decide) (by decide) d_Law_law_1311 (by simp [z_rfc, z_ci, z_cl, z_cr, z_cn]) ?_
  show Z _ _ _ _ _ _ 1314 [(0, .ref (a1)), (1, .ref (a6)), (2, .ref (a14)), (3, va_rf (v3)), (4, .int (v4))] [.int (x17), .int (x9)] _
  refine z_icmp_eq (tgt := 1387) d_Law_law_1314 rfl (fun c18 => ?_) (fun c18 => ?_)
  · rw [if_pos c18] at h
    refine z_lv (lv' := [(0, va_rf (some (a1))), (1, va_rf (some (a6))), (2, va_rf (some (a14))), (3, va_rf (v3)), (4, .int (v4))]) [0, 1, 2, 3, 4] rfl ?_
    exact t_Law_law_1387 hG hl _ hk33 h
  · rw [if_neg c18] at h
    refine z_iconst (v := 0) d_Law_law_1317 rfl ?_
    cases h
    exact z_zret rfl rfl rfl d_Law_law_1318
set_option maxRecDepth 100000 in
theorem t_Law_law_1384 {l : Launch} {D : zD} {g : zG} (hG : zGok g D) (hl : zLo l) {q : Int32 × zS} (k33 : Option Nat → Option Nat → Option Nat → Option Nat → Int32 → zS → Option (Int32 × zS)) (hk33 : ∀ {v0 : Option Nat} {v1 : Option Nat} {v2 : Option Nat} {v3 : Option Nat} {v4 : Int32} {σ : zS}, k33 v0 v1 v2 v3 v4 σ = some q → Z l D K_Law_law 15 339 (.returned (some (.int q.1)), q.2) 33 [(0, va_rf (v0)), (1, va_rf (v1)), (2, va_rf (v2)), (3, va_rf (v3)), (4, .int (v4))] [] σ) {v0 : Option Nat} {v1 : Option Nat} {v2 : Option Nat} {v3 : Option Nat} {v4 : Int32} {v5 : Int32} {v6 : Int32} {σ : zS} (h : s_Law_law_1384 g k33 v0 v1 v2 v3 v4 v5 v6 σ = some q) : Z l D K_Law_law 15 339 (.returned (some (.int q.1)), q.2) 1384 [(0, va_rf (v0)), (1, va_rf (v1)), (2, va_rf (v2)), (3, va_rf (v3)), (4, .int (v4)), (5, .int (v5)), (6, .int (v6))] [] σ := by
  unfold s_Law_law_1384 at h
  refine z_goto (tgt := 1387) d_Law_law_1384 rfl ?_
  refine z_lv (lv' := [(0, va_rf (v0)), (1, va_rf (v1)), (2, va_rf (v2)), (3, va_rf (v3)), (4, .int (v4))]) [0, 1, 2, 3, 4] rfl ?_
  exact t_Law_law_1387 hG hl _ hk33 h
set_option maxRecDepth 100000 in
theorem t_Law_law_1319 {l : Launch} {D : zD} {g : zG} (hG : zGok g D) (hl : zLo l) {q : Int32 × zS} (k33 : Option Nat → Option Nat → Option Nat → Option Nat → Int32 → zS → Option (Int32 × zS)) (hk33 : ∀ {v0 : Option Nat} {v1 : Option Nat} {v2 : Option Nat} {v3 : Option Nat} {v4 : Int32} {σ : zS}, k33 v0 v1 v2 v3 v4 σ = some q → Z l D K_Law_law 15 339 (.returned (some (.int q.1)), q.2) 33 [(0, va_rf (v0)), (1, va_rf (v1)), (2, va_rf (v2)), (3, va_rf (v3)), (4, .int (v4))] [] σ) {v0 : Option Nat} {v1 : Option Nat} {v2 : Option Nat} {v3 : Option Nat} {v4 : Int32} {σ : zS} (h : s_Law_law_1319 g k33 v0 v1 v2 v3 v4 σ = some q) : Z l D K_Law_law 15 339 (.returned (some (.int q.1)), q.2) 1319 [(0, va_rf (v0)), (1, va_rf (v1)), (2, va_rf (v2)), (3, va_rf (v3)), (4, .int (v4))] [] σ := by
  unfold s_Law_law_1319 at h
  refine z_aload_nR 1 d_Law_law_1319 rfl rfl ?_
  refine z_aload_nR 0 d_Law_law_1320 rfl rfl ?_
  refine z_iload 4 d_Law_law_1321 rfl ?_
  refine z_iconst (v := 1) d_Law_law_1323 rfl ?_
  refine z_iadd d_Law_law_1324 ?_
  replace h := Option.bind_eq_some_iff.mp h; obtain ⟨a1, rfl, h⟩ := h
  replace h := Option.bind_eq_some_iff.mp h; obtain ⟨x2, e3, h⟩ := h
  refine z_iaload rfl d_Law_law_1325 e3 ?_
  refine z_aload_n 0 d_Law_law_1326 rfl rfl ?_
  refine z_iload 4 d_Law_law_1327 rfl ?_
  refine z_iconst (v := 2) d_Law_law_1329 rfl ?_
  refine z_iadd d_Law_law_1330 ?_
  replace h := Option.bind_eq_some_iff.mp h; obtain ⟨x4, e5, h⟩ := h
  refine z_iaload rfl d_Law_law_1331 e5 ?_
  refine z_aload_nR 3 d_Law_law_1332 rfl rfl ?_
  replace h := Option.bind_eq_some_iff.mp h; obtain ⟨⟨x8, σ6⟩, e7, h⟩ := h
  dsimp only at h
  refine z_callS (av := [va_rf (v1), .int (x2), .int (x4), va_rf (v3)]) (st := []) wS_NumberOfficeLaw_156 (t_Law_listByte hG hl e7) (by decide) (by decide) d_Law_law_1333 (by simp [z_rfc, z_ci, z_cl, z_cr, z_cn]) ?_
  show Z _ _ _ _ _ _ 1336 [(0, .ref (a1)), (1, va_rf (v1)), (2, va_rf (v2)), (3, va_rf (v3)), (4, .int (v4))] [.int (x8)] _
  refine z_istore (j := 5) (lv' := [(5, .int (x8)), (0, .ref (a1)), (1, va_rf (v1)), (2, va_rf (v2)), (3, va_rf (v3)), (4, .int (v4))]) d_Law_law_1336 (by decide) rfl ?_
  refine z_aload_nR 3 d_Law_law_1338 rfl rfl ?_
  refine z_aload_n 1 d_Law_law_1339 rfl rfl ?_
  refine z_iload 5 d_Law_law_1340 rfl ?_
  refine z_iconst (v := 1) d_Law_law_1342 rfl ?_
  refine z_iadd d_Law_law_1343 ?_
  replace h := Option.bind_eq_some_iff.mp h; obtain ⟨x9, e10, h⟩ := h
  refine z_iaload rfl d_Law_law_1344 e10 ?_
  refine z_aload_n 1 d_Law_law_1345 rfl rfl ?_
  refine z_iload 5 d_Law_law_1346 rfl ?_
  refine z_iconst (v := 2) d_Law_law_1348 rfl ?_
  refine z_iadd d_Law_law_1349 ?_
  replace h := Option.bind_eq_some_iff.mp h; obtain ⟨x11, e12, h⟩ := h
  refine z_iaload rfl d_Law_law_1350 e12 ?_
  replace h := Option.bind_eq_some_iff.mp h; obtain ⟨a13, rfl, h⟩ := h
  replace h := Option.bind_eq_some_iff.mp h; obtain ⟨_, e29, h⟩ := h
  obtain ⟨b30, f31, e29⟩ := zcls_at (zis_at e29)
  replace h := Option.bind_eq_some_iff.mp h; obtain ⟨⟨x16, σ14⟩, e15, h⟩ := h
  dsimp only at h
  refine z_callV (av := [.int (x9), .int (x11)]) (st := []) wV_NumberOfficeLaw_158 e29 (t_Mo_listByte hG e15) (by decide) (by decide) d_Law_law_1351 (by simp [z_rfc, z_ci, z_cl, z_cr, z_cn]) ?_
  show Z _ _ _ _ _ _ 1354 [(5, .int (x8)), (0, .ref (a1)), (1, va_rf (v1)), (2, .ref (a13)), (3, va_rf (v3)), (4, .int (v4))] [.int (x16)] _
  refine z_istore (j := 6) (lv' := [(6, .int (x16)), (5, .int (x8)), (0, .ref (a1)), (1, va_rf (v1)), (2, .ref (a13)), (3, va_rf (v3)), (4, .int (v4))]) d_Law_law_1354 (by decide) rfl ?_
  refine z_aload_n 4 d_Law_law_1356 rfl rfl ?_
  replace h := Option.bind_eq_some_iff.mp h; obtain ⟨_, e26, h⟩ := h
  obtain ⟨b27, f28, e26⟩ := zcls_at (zis_at e26)
  replace h := Option.bind_eq_some_iff.mp h; obtain ⟨⟨x19, σ17⟩, e18, h⟩ := h
  dsimp only at h
  refine z_callV (av := []) (st := []) wV_NumberOfficeLaw_71 e26 (t_Mo_thrown hG e18) (by decide) (by decide) d_Law_law_1357 (by simp [z_rfc, z_ci, z_cl, z_cr, z_cn]) ?_
  show Z _ _ _ _ _ _ 1360 [(6, .int (x16)), (5, .int (x8)), (0, .ref (a1)), (1, va_rf (v1)), (2, .ref (a13)), (3, va_rf (v3)), (4, .int (v4))] [.int (x19)] _
  refine z_iload 1 d_Law_law_1360 rfl ?_
  refine z_icmp_eq (tgt := 1367) d_Law_law_1362 rfl (fun c20 => ?_) (fun c20 => ?_)
  · rw [if_pos c20] at h
    refine z_iload 1 d_Law_law_1367 rfl ?_
    refine z_if_ne (tgt := 1384) d_Law_law_1369 rfl (fun c21 => ?_) (fun c21 => ?_)
    · rw [if_neg c21] at h
      refine z_lv (lv' := [(0, va_rf (some (a1))), (1, va_rf (v1)), (2, va_rf (some (a13))), (3, va_rf (v3)), (4, .int (v4)), (5, .int (x8)), (6, .int (x16))]) [2, 3, 4, 5, 6, 1, 0] rfl ?_
      exact t_Law_law_1384 hG hl _ hk33 h
    · rw [if_pos c21] at h
      refine z_aload_nR 5 d_Law_law_1372 rfl rfl ?_
      refine z_iconst (v := 0) d_Law_law_1373 rfl ?_
      replace h := Option.bind_eq_some_iff.mp h; obtain ⟨a22, rfl, h⟩ := h
      replace h := Option.bind_eq_some_iff.mp h; obtain ⟨x23, e24, h⟩ := h
      refine z_laload rfl d_Law_law_1374 e24 ?_
      refine z_iload 0 d_Law_law_1375 rfl ?_
      refine z_i2l d_Law_law_1377 ?_
      refine z_lcmp d_Law_law_1378 ?_
      refine z_if_eq (tgt := 1384) d_Law_law_1379 rfl (fun c25 => ?_) (fun c25 => ?_)
      · rw [if_pos c25] at h
        refine z_lv (lv' := [(0, va_rf (some (a1))), (1, va_rf (v1)), (2, va_rf (some (a13))), (3, va_rf (some (a22))), (4, .int (v4)), (5, .int (x8)), (6, .int (x16))]) [2, 3, 4, 5, 6, 1, 0] rfl ?_
        exact t_Law_law_1384 hG hl _ hk33 h
      · rw [if_neg c25] at h
        refine z_iconst (v := 0) d_Law_law_1382 rfl ?_
        cases h
        exact z_zret rfl rfl rfl d_Law_law_1383
  · rw [if_neg c20] at h
    refine z_iconst (v := 0) d_Law_law_1365 rfl ?_
    cases h
    exact z_zret rfl rfl rfl d_Law_law_1366
set_option maxRecDepth 100000 in
theorem t_Law_law_33 {l : Launch} {D : zD} {g : zG} (hG : zGok g D) (hl : zLo l) {q : Int32 × zS}   : ∀ (n : Nat) {v0 : Option Nat} {v1 : Option Nat} {v2 : Option Nat} {v3 : Option Nat} {v4 : Int32} {σ : zS}, s_Law_law_33 g  n v0 v1 v2 v3 v4 σ = some q → Z l D K_Law_law 15 339 (.returned (some (.int q.1)), q.2) 33 [(0, va_rf (v0)), (1, va_rf (v1)), (2, va_rf (v2)), (3, va_rf (v3)), (4, .int (v4))] [] σ := by
  intro n
  induction n with
  | zero =>
    intro v0 v1 v2 v3 v4 σ h
    cases h
  | succ n ih =>
    intro v0 v1 v2 v3 v4 σ h
    first | rw [s_Law_law_33] at h | (unfold s_Law_law_33 at h; dsimp only at h)
    refine z_iload 4 d_Law_law_33 rfl ?_
    refine z_aload_nR 0 d_Law_law_35 rfl rfl ?_
    replace h := Option.bind_eq_some_iff.mp h; obtain ⟨a1, rfl, h⟩ := h
    replace h := Option.bind_eq_some_iff.mp h; obtain ⟨x2, e3, h⟩ := h
    refine z_alen (t := 0) rfl d_Law_law_36 e3 ?_
    refine z_bipush (v := 6) d_Law_law_37 rfl ?_
    refine z_isub d_Law_law_39 ?_
    refine z_icmp_gt (tgt := 1393) d_Law_law_40 rfl (fun c4 => ?_) (fun c4 => ?_)
    · rw [if_pos c4] at h
      refine z_iconst (v := 1) d_Law_law_1393 rfl ?_
      cases h
      exact z_zret rfl rfl rfl d_Law_law_1394
    · rw [if_neg c4] at h
      refine z_aload_n 0 d_Law_law_43 rfl rfl ?_
      refine z_iload 4 d_Law_law_44 rfl ?_
      replace h := Option.bind_eq_some_iff.mp h; obtain ⟨x5, e6, h⟩ := h
      refine z_iaload rfl d_Law_law_46 e6 ?_
      refine z_bipush (v := 31) d_Law_law_47 rfl ?_
      refine z_iand d_Law_law_49 ?_
      by_cases c7 : (x5 &&& 31 : Int32).toInt < 0 ∨ 22 < (x5 &&& 31 : Int32).toInt
      · rw [if_pos c7] at h
        refine z_tableOut (tgt := 1387) d_Law_law_50 c7 rfl ?_
        refine z_lv (lv' := [(0, va_rf (some (a1))), (1, va_rf (v1)), (2, va_rf (v2)), (3, va_rf (v3)), (4, .int (v4))]) [0, 1, 2, 3, 4] rfl ?_
        exact t_Law_law_1387 hG hl _ (fun h => ih h) h
      · rw [if_neg c7] at h
        by_cases c30 : (x5 &&& 31 : Int32) = 0
        · rw [if_pos c30] at h
          refine z_tableIn (off := 106) (tgt := 156) d_Law_law_50 (by rw [c30]; decide) (by rw [c30]; decide) (by rw [c30]; rfl) rfl ?_
          refine z_lv (lv' := [(0, va_rf (some (a1))), (1, va_rf (v1)), (2, va_rf (v2)), (3, va_rf (v3)), (4, .int (v4))]) [0, 1, 2, 3, 4] rfl ?_
          exact t_Law_law_156 hG hl _ (fun h => ih h) h
        · rw [if_neg c30] at h
          by_cases c29 : (x5 &&& 31 : Int32) = 1
          · rw [if_pos c29] at h
            refine z_tableIn (off := 181) (tgt := 231) d_Law_law_50 (by rw [c29]; decide) (by rw [c29]; decide) (by rw [c29]; rfl) rfl ?_
            refine z_lv (lv' := [(0, va_rf (some (a1))), (1, va_rf (v1)), (2, va_rf (v2)), (3, va_rf (v3)), (4, .int (v4))]) [0, 1, 2, 3, 4] rfl ?_
            exact t_Law_law_231 hG hl _ (fun h => ih h) h
          · rw [if_neg c29] at h
            by_cases c28 : (x5 &&& 31 : Int32) = 2
            · rw [if_pos c28] at h
              refine z_tableIn (off := 261) (tgt := 311) d_Law_law_50 (by rw [c28]; decide) (by rw [c28]; decide) (by rw [c28]; rfl) rfl ?_
              refine z_lv (lv' := [(0, va_rf (some (a1))), (1, va_rf (v1)), (2, va_rf (v2)), (3, va_rf (v3)), (4, .int (v4))]) [0, 1, 2, 3, 4] rfl ?_
              exact t_Law_law_311 hG hl _ (fun h => ih h) h
            · rw [if_neg c28] at h
              by_cases c27 : (x5 &&& 31 : Int32) = 3
              · rw [if_pos c27] at h
                refine z_tableIn (off := 329) (tgt := 379) d_Law_law_50 (by rw [c27]; decide) (by rw [c27]; decide) (by rw [c27]; rfl) rfl ?_
                refine z_lv (lv' := [(0, va_rf (some (a1))), (1, va_rf (v1)), (2, va_rf (v2)), (3, va_rf (v3)), (4, .int (v4))]) [0, 1, 2, 3, 4] rfl ?_
                exact t_Law_law_379 hG hl _ (fun h => ih h) h
              · rw [if_neg c27] at h
                by_cases c26 : (x5 &&& 31 : Int32) = 4
                · rw [if_pos c26] at h
                  refine z_tableIn (off := 354) (tgt := 404) d_Law_law_50 (by rw [c26]; decide) (by rw [c26]; decide) (by rw [c26]; rfl) rfl ?_
                  refine z_lv (lv' := [(0, va_rf (some (a1))), (1, va_rf (v1)), (2, va_rf (v2)), (3, va_rf (v3)), (4, .int (v4))]) [0, 1, 2, 3, 4] rfl ?_
                  exact t_Law_law_404 hG hl _ (fun h => ih h) h
                · rw [if_neg c26] at h
                  by_cases c25 : (x5 &&& 31 : Int32) = 5
                  · rw [if_pos c25] at h
                    refine z_tableIn (off := 478) (tgt := 528) d_Law_law_50 (by rw [c25]; decide) (by rw [c25]; decide) (by rw [c25]; rfl) rfl ?_
                    refine z_lv (lv' := [(0, va_rf (some (a1))), (1, va_rf (v1)), (2, va_rf (v2)), (3, va_rf (v3)), (4, .int (v4))]) [0, 1, 2, 3, 4] rfl ?_
                    exact t_Law_law_528 hG hl _ (fun h => ih h) h
                  · rw [if_neg c25] at h
                    by_cases c24 : (x5 &&& 31 : Int32) = 6
                    · rw [if_pos c24] at h
                      refine z_tableIn (off := 558) (tgt := 608) d_Law_law_50 (by rw [c24]; decide) (by rw [c24]; decide) (by rw [c24]; rfl) rfl ?_
                      refine z_lv (lv' := [(0, va_rf (some (a1))), (1, va_rf (v1)), (2, va_rf (v2)), (3, va_rf (v3)), (4, .int (v4))]) [0, 1, 2, 3, 4] rfl ?_
                      exact t_Law_law_608 hG hl _ (fun h => ih h) h
                    · rw [if_neg c24] at h
                      by_cases c23 : (x5 &&& 31 : Int32) = 7
                      · rw [if_pos c23] at h
                        refine z_tableIn (off := 657) (tgt := 707) d_Law_law_50 (by rw [c23]; decide) (by rw [c23]; decide) (by rw [c23]; rfl) rfl ?_
                        refine z_lv (lv' := [(0, va_rf (some (a1))), (1, va_rf (v1)), (2, va_rf (v2)), (3, va_rf (v3)), (4, .int (v4))]) [0, 1, 2, 3, 4] rfl ?_
                        exact t_Law_law_707 hG hl _ (fun h => ih h) h
                      · rw [if_neg c23] at h
                        by_cases c22 : (x5 &&& 31 : Int32) = 8
                        · rw [if_pos c22] at h
                          refine z_tableIn (off := 713) (tgt := 763) d_Law_law_50 (by rw [c22]; decide) (by rw [c22]; decide) (by rw [c22]; rfl) rfl ?_
                          refine z_lv (lv' := [(0, va_rf (some (a1))), (1, va_rf (v1)), (2, va_rf (v2)), (3, va_rf (v3)), (4, .int (v4))]) [0, 1, 2, 3, 4] rfl ?_
                          exact t_Law_law_763 hG hl _ (fun h => ih h) h
                        · rw [if_neg c22] at h
                          by_cases c21 : (x5 &&& 31 : Int32) = 9
                          · rw [if_pos c21] at h
                            refine z_tableIn (off := 769) (tgt := 819) d_Law_law_50 (by rw [c21]; decide) (by rw [c21]; decide) (by rw [c21]; rfl) rfl ?_
                            refine z_lv (lv' := [(0, va_rf (some (a1))), (1, va_rf (v1)), (2, va_rf (v2)), (3, va_rf (v3)), (4, .int (v4))]) [0, 1, 2, 3, 4] rfl ?_
                            exact t_Law_law_819 hG hl _ (fun h => ih h) h
                          · rw [if_neg c21] at h
                            by_cases c20 : (x5 &&& 31 : Int32) = 10
                            · rw [if_pos c20] at h
                              refine z_tableIn (off := 794) (tgt := 844) d_Law_law_50 (by rw [c20]; decide) (by rw [c20]; decide) (by rw [c20]; rfl) rfl ?_
                              refine z_lv (lv' := [(0, va_rf (some (a1))), (1, va_rf (v1)), (2, va_rf (v2)), (3, va_rf (v3)), (4, .int (v4))]) [0, 1, 2, 3, 4] rfl ?_
                              exact t_Law_law_844 hG hl _ (fun h => ih h) h
                            · rw [if_neg c20] at h
                              by_cases c19 : (x5 &&& 31 : Int32) = 11
                              · rw [if_pos c19] at h
                                refine z_tableIn (off := 819) (tgt := 869) d_Law_law_50 (by rw [c19]; decide) (by rw [c19]; decide) (by rw [c19]; rfl) rfl ?_
                                refine z_lv (lv' := [(0, va_rf (some (a1))), (1, va_rf (v1)), (2, va_rf (v2)), (3, va_rf (v3)), (4, .int (v4))]) [0, 1, 2, 3, 4] rfl ?_
                                exact t_Law_law_869 hG hl _ (fun h => ih h) h
                              · rw [if_neg c19] at h
                                by_cases c18 : (x5 &&& 31 : Int32) = 12
                                · rw [if_pos c18] at h
                                  refine z_tableIn (off := 844) (tgt := 894) d_Law_law_50 (by rw [c18]; decide) (by rw [c18]; decide) (by rw [c18]; rfl) rfl ?_
                                  refine z_lv (lv' := [(0, va_rf (some (a1))), (1, va_rf (v1)), (2, va_rf (v2)), (3, va_rf (v3)), (4, .int (v4))]) [0, 1, 2, 3, 4] rfl ?_
                                  exact t_Law_law_894 hG hl _ (fun h => ih h) h
                                · rw [if_neg c18] at h
                                  by_cases c17 : (x5 &&& 31 : Int32) = 13
                                  · rw [if_pos c17] at h
                                    refine z_tableIn (off := 857) (tgt := 907) d_Law_law_50 (by rw [c17]; decide) (by rw [c17]; decide) (by rw [c17]; rfl) rfl ?_
                                    refine z_lv (lv' := [(0, va_rf (some (a1))), (1, va_rf (v1)), (2, va_rf (v2)), (3, va_rf (v3)), (4, .int (v4))]) [0, 1, 2, 3, 4] rfl ?_
                                    exact t_Law_law_907 hG hl _ (fun h => ih h) h
                                  · rw [if_neg c17] at h
                                    by_cases c16 : (x5 &&& 31 : Int32) = 14
                                    · rw [if_pos c16] at h
                                      refine z_tableIn (off := 894) (tgt := 944) d_Law_law_50 (by rw [c16]; decide) (by rw [c16]; decide) (by rw [c16]; rfl) rfl ?_
                                      refine z_lv (lv' := [(0, va_rf (some (a1))), (1, va_rf (v1)), (2, va_rf (v2)), (3, va_rf (v3)), (4, .int (v4))]) [0, 1, 2, 3, 4] rfl ?_
                                      exact t_Law_law_944 hG hl _ (fun h => ih h) h
                                    · rw [if_neg c16] at h
                                      by_cases c15 : (x5 &&& 31 : Int32) = 15
                                      · rw [if_pos c15] at h
                                        refine z_tableIn (off := 919) (tgt := 969) d_Law_law_50 (by rw [c15]; decide) (by rw [c15]; decide) (by rw [c15]; rfl) rfl ?_
                                        refine z_lv (lv' := [(0, va_rf (some (a1))), (1, va_rf (v1)), (2, va_rf (v2)), (3, va_rf (v3)), (4, .int (v4))]) [0, 1, 2, 3, 4] rfl ?_
                                        exact t_Law_law_969 hG hl _ (fun h => ih h) h
                                      · rw [if_neg c15] at h
                                        by_cases c14 : (x5 &&& 31 : Int32) = 16
                                        · rw [if_pos c14] at h
                                          refine z_tableIn (off := 944) (tgt := 994) d_Law_law_50 (by rw [c14]; decide) (by rw [c14]; decide) (by rw [c14]; rfl) rfl ?_
                                          refine z_lv (lv' := [(0, va_rf (some (a1))), (1, va_rf (v1)), (2, va_rf (v2)), (3, va_rf (v3)), (4, .int (v4))]) [0, 1, 2, 3, 4] rfl ?_
                                          exact t_Law_law_994 hG hl _ (fun h => ih h) h
                                        · rw [if_neg c14] at h
                                          by_cases c13 : (x5 &&& 31 : Int32) = 17
                                          · rw [if_pos c13] at h
                                            refine z_tableIn (off := 969) (tgt := 1019) d_Law_law_50 (by rw [c13]; decide) (by rw [c13]; decide) (by rw [c13]; rfl) rfl ?_
                                            refine z_lv (lv' := [(0, va_rf (some (a1))), (1, va_rf (v1)), (2, va_rf (v2)), (3, va_rf (v3)), (4, .int (v4))]) [0, 1, 2, 3, 4] rfl ?_
                                            exact t_Law_law_1019 hG hl _ (fun h => ih h) h
                                          · rw [if_neg c13] at h
                                            by_cases c12 : (x5 &&& 31 : Int32) = 18
                                            · rw [if_pos c12] at h
                                              refine z_tableIn (off := 1037) (tgt := 1087) d_Law_law_50 (by rw [c12]; decide) (by rw [c12]; decide) (by rw [c12]; rfl) rfl ?_
                                              refine z_lv (lv' := [(0, va_rf (some (a1))), (1, va_rf (v1)), (2, va_rf (v2)), (3, va_rf (v3)), (4, .int (v4))]) [0, 1, 2, 3, 4] rfl ?_
                                              exact t_Law_law_1087 hG hl _ (fun h => ih h) h
                                            · rw [if_neg c12] at h
                                              by_cases c11 : (x5 &&& 31 : Int32) = 19
                                              · rw [if_pos c11] at h
                                                refine z_tableIn (off := 1116) (tgt := 1166) d_Law_law_50 (by rw [c11]; decide) (by rw [c11]; decide) (by rw [c11]; rfl) rfl ?_
                                                refine z_lv (lv' := [(0, va_rf (some (a1))), (1, va_rf (v1)), (2, va_rf (v2)), (3, va_rf (v3)), (4, .int (v4))]) [0, 1, 2, 3, 4] rfl ?_
                                                exact t_Law_law_1166 hG hl _ (fun h => ih h) h
                                              · rw [if_neg c11] at h
                                                by_cases c10 : (x5 &&& 31 : Int32) = 20
                                                · rw [if_pos c10] at h
                                                  refine z_tableIn (off := 1183) (tgt := 1233) d_Law_law_50 (by rw [c10]; decide) (by rw [c10]; decide) (by rw [c10]; rfl) rfl ?_
                                                  refine z_lv (lv' := [(0, va_rf (some (a1))), (1, va_rf (v1)), (2, va_rf (v2)), (3, va_rf (v3)), (4, .int (v4))]) [0, 1, 2, 3, 4] rfl ?_
                                                  exact t_Law_law_1233 hG hl _ (fun h => ih h) h
                                                · rw [if_neg c10] at h
                                                  by_cases c9 : (x5 &&& 31 : Int32) = 21
                                                  · rw [if_pos c9] at h
                                                    refine z_tableIn (off := 1232) (tgt := 1282) d_Law_law_50 (by rw [c9]; decide) (by rw [c9]; decide) (by rw [c9]; rfl) rfl ?_
                                                    refine z_lv (lv' := [(0, va_rf (some (a1))), (1, va_rf (v1)), (2, va_rf (v2)), (3, va_rf (v3)), (4, .int (v4))]) [0, 1, 2, 3, 4] rfl ?_
                                                    exact t_Law_law_1282 hG hl _ (fun h => ih h) h
                                                  · rw [if_neg c9] at h
                                                    by_cases c8 : (x5 &&& 31 : Int32) = 22
                                                    · rw [if_pos c8] at h
                                                      refine z_tableIn (off := 1269) (tgt := 1319) d_Law_law_50 (by rw [c8]; decide) (by rw [c8]; decide) (by rw [c8]; rfl) rfl ?_
                                                      refine z_lv (lv' := [(0, va_rf (some (a1))), (1, va_rf (v1)), (2, va_rf (v2)), (3, va_rf (v3)), (4, .int (v4))]) [0, 1, 2, 3, 4] rfl ?_
                                                      exact t_Law_law_1319 hG hl _ (fun h => ih h) h
                                                    · rw [if_neg c8] at h
                                                      cases h
set_option maxRecDepth 100000 in
theorem t_Law_law {l : Launch} {D : zD} {g : zG} (hG : zGok g D) (hl : zLo l) {v0 : Option Nat} {σ : zS} {q : Int32 × zS} (h : s_Law_law g v0 σ = some q) : Z l D K_Law_law 15 339 (.returned (some (.int q.1)), q.2) 0 [(0, va_rf (v0))] [] σ := by
  unfold s_Law_law at h
  replace h := Option.bind_eq_some_iff.mp h; obtain ⟨σ1, e1, h⟩ := h
  refine z_new wN_NumberOfficeLaw_8 d_Law_law_0 ?_
  rw [Option.some.inj e1]
  refine z_dup d_Law_law_3 rfl ?_
  refine z_aload_nR 0 d_Law_law_4 rfl rfl ?_
  refine z_iconst (v := 0) d_Law_law_5 rfl ?_
  replace h := Option.bind_eq_some_iff.mp h; obtain ⟨⟨x4, σ2⟩, e3, h⟩ := h
  dsimp only at h
  refine z_callS (av := [va_rf (v0), .int (0)]) (st := [.ref (σ.1), .ref (σ.1)]) wS_NumberOfficeLaw_55 (t_Law_cell hG e3) (by decide) (by decide) d_Law_law_6 (by simp [z_rfc, z_ci, z_cl, z_cr, z_cn]) ?_
  show Z _ _ _ _ _ _ 9 [(0, va_rf (v0))] [.int (x4), .ref (σ.1), .ref (σ.1)] _
  replace h := Option.bind_eq_some_iff.mp h; obtain ⟨σ5, e6, h⟩ := h
  refine z_callI (av := [.int (x4)]) (st := [.ref (σ.1)]) wI_NumberOfficeLaw_61 (t_No_init hG e6) (by decide) (by decide) d_Law_law_9 (by simp [z_rfc, z_ci, z_cl, z_cr, z_cn]) ?_
  show Z _ _ _ _ _ _ 12 [(0, va_rf (v0))] [.ref (σ.1)] _
  refine z_astore_n (j := 1) (lv' := [(1, .ref (σ.1)), (0, va_rf (v0))]) d_Law_law_12 rfl (by decide) (by simp [z_rfc, z_ci, z_cl, z_cr, z_cn] <;> rfl) ?_
  replace h := Option.bind_eq_some_iff.mp h; obtain ⟨σ8, e8, h⟩ := h
  refine z_new wN_NumberOfficeLaw_64 d_Law_law_13 ?_
  rw [Option.some.inj e8]
  refine z_dup d_Law_law_16 rfl ?_
  refine z_aload_nR 1 d_Law_law_17 rfl rfl ?_
  refine z_iconst (v := 0) d_Law_law_18 rfl ?_
  replace h := Option.bind_eq_some_iff.mp h; obtain ⟨⟨x11, σ9⟩, e10, h⟩ := h
  dsimp only at h
  refine z_callS (av := [va_rf (v0), .int (0)]) (st := [.ref (σ5.1), .ref (σ5.1)]) wS_NumberOfficeLaw_55 (t_Law_cell hG e10) (by decide) (by decide) d_Law_law_19 (by simp [z_rfc, z_ci, z_cl, z_cr, z_cn]) ?_
  show Z _ _ _ _ _ _ 22 [(1, .ref (σ.1)), (0, va_rf (v0))] [.int (x11), .ref (σ5.1), .ref (σ5.1)] _
  replace h := Option.bind_eq_some_iff.mp h; obtain ⟨σ12, e13, h⟩ := h
  refine z_callI (av := [.int (x11)]) (st := [.ref (σ5.1)]) wI_NumberOfficeLaw_66 (t_Mo_init hG e13) (by decide) (by decide) d_Law_law_22 (by simp [z_rfc, z_ci, z_cl, z_cr, z_cn]) ?_
  show Z _ _ _ _ _ _ 25 [(1, .ref (σ.1)), (0, va_rf (v0))] [.ref (σ5.1)] _
  refine z_astore_n (j := 2) (lv' := [(2, .ref (σ5.1)), (1, .ref (σ.1)), (0, va_rf (v0))]) d_Law_law_25 rfl (by decide) rfl ?_
  refine z_iconst (v := 1) d_Law_law_26 rfl ?_
  replace h := Option.bind_eq_some_iff.mp h; obtain ⟨n15, e16, h⟩ := h
  replace h := Option.bind_eq_some_iff.mp h; obtain ⟨σ17, e18, h⟩ := h
  refine z_newa (t := 1) (ty := .long) (x := (n15, .inr (.inl (fun _ => 0)))) rfl rfl wA_long (fun _ => rfl) (by decide) d_Law_law_27 e16 ?_
  rw [Option.some.inj e18]
  refine z_astore_n (j := 3) (lv' := [(3, .ref (σ12.1)), (2, .ref (σ5.1)), (1, .ref (σ.1)), (0, va_rf (v0))]) d_Law_law_29 rfl (by decide) rfl ?_
  refine z_iconst (v := 1) d_Law_law_30 rfl ?_
  refine z_istore (j := 4) (lv' := [(4, .int (1)), (3, .ref (σ12.1)), (2, .ref (σ5.1)), (1, .ref (σ.1)), (0, va_rf (v0))]) d_Law_law_31 (by decide) rfl ?_
  refine z_lv (lv' := [(0, va_rf (v0)), (1, va_rf (some (σ.1))), (2, va_rf (some (σ5.1))), (3, va_rf (some (σ12.1))), (4, .int (1))]) [4, 3, 2, 1, 0] rfl ?_
  exact t_Law_law_33 hG hl   zfuel h

