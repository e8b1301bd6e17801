section CNO3
variable {g : zG} {e S F n i s b q : Nat} {C C' : cS} {ρ ρ' : zS} {f f' : Nat → Nat → Nat}
theorem newLet {c : Nat} {G : Nat → Option Nat} {L : List Value} (h : LLs e S F n C ρ f) : dOb F (znew (znew ρ 6 (.inr (9, [.int 0, .int 0, .null, .int 0, .int 0, .int 0]))) c (.inl (11, c, rfs G))) ρ.1 9 [.int 0, .int 0, .null, .int 0, .int 0, .int 0] ∧ dOb F (zupd (znew (znew ρ 6 (.inr (9, [.int 0, .int 0, .null, .int 0, .int 0, .int 0]))) c (.inl (11, c, rfs G))) ρ.1 (.inr (9, L))) ρ.1 9 L ∧ isEvA F (zupd (znew (znew ρ 6 (.inr (9, [.int 0, .int 0, .null, .int 0, .int 0, .int 0]))) c (.inl (11, c, rfs G))) ρ.1 (.inr (9, L))) (ρ.1 + 1) c G ∧ dX ρ (znew (znew ρ 6 (.inr (9, [.int 0, .int 0, .null, .int 0, .int 0, .int 0]))) c (.inl (11, c, rfs G))) ∧ dX ρ (zupd (znew (znew ρ 6 (.inr (9, [.int 0, .int 0, .null, .int 0, .int 0, .int 0]))) c (.inl (11, c, rfs G))) ρ.1 (.inr (9, L))) ∧ LLs e S F n C (zupd (znew (znew ρ 6 (.inr (9, [.int 0, .int 0, .null, .int 0, .int 0, .int 0]))) c (.inl (11, c, rfs G))) ρ.1 (.inr (9, L))) f := by
  have hF2 := h.1.2.2.1
  have a1 : dOb F (znew (znew ρ 6 (.inr (9, [.int 0, .int 0, .null, .int 0, .int 0, .int 0]))) c (.inl (11, c, rfs G))) ρ.1 9 [.int 0, .int 0, .null, .int 0, .int 0, .int 0] := by
    refine ⟨hF2, by show ρ.1 < ρ.1 + 1 + 1; omega, ?_⟩
    show (if ρ.1 = ρ.1 + 1 then _ else (if ρ.1 = ρ.1 then _ else _)) = _
    rw [if_neg (by omega), if_pos rfl]
  refine ⟨a1, dOb.upd a1, ⟨by omega, by show ρ.1 + 1 < ρ.1 + 1 + 1; omega, ?_⟩, dX.new.trans dX.new, ?_, ?_⟩
  · show (if ρ.1 + 1 = ρ.1 then _ else (if ρ.1 + 1 = ρ.1 + 1 then _ else _)) = _
    rw [if_neg (by omega), if_pos rfl]
  · refine ⟨⟨by show ρ.1 ≤ ρ.1 + 1 + 1; omega, by show ρ.2.1 ≤ ρ.2.1 + 6 + c; omega⟩, fun p hp _ => ?_⟩
    show (if p = ρ.1 then _ else (if p = ρ.1 + 1 then _ else (if p = ρ.1 then _ else ρ.2.2 p))) = _
    rw [if_neg (by omega), if_neg (by omega), if_neg (by omega)]
  · refine LLs.mono h (fun j _ _ => ⟨rfl, rfl⟩) (by show ρ.1 ≤ ρ.1 + 1 + 1; omega) (fun p hp _ => ?_)
    show (if p = ρ.1 then _ else (if p = ρ.1 + 1 then _ else (if p = ρ.1 then _ else ρ.2.2 p))) = _
    rw [if_neg (by omega), if_neg (by omega), if_neg (by omega)]
/-- the number of the branch's latest letter -/
def latOK (F : Nat) (ρ : zS) (r : Option Nat) (lat : Nat) : Prop := (r = none ∧ lat = 0) ∨ ∃ p ser w ev k b, r = some p ∧ isLet F ρ p ser w ev k b lat
theorem latOK.mono {r : Option Nat} {lat : Nat} (h : latOK F ρ r lat) (hx : dX ρ ρ') : latOK F ρ' r lat := by
  rcases h with h | ⟨p, ser, w, ev, k, b, h1, h2⟩
  · exact Or.inl h
  · exact Or.inr ⟨p, ser, w, ev, k, b, h1, dOb.mono h2 hx⟩
theorem Y_lat {lat : Nat} (hF : S + cF n ≤ F) (hi : i < n) (h : latOK F ρ (C.2.2.2 (oBr i) 2) lat) : s_Branch_latestNumber g (S + oBr i) (cW S n C ρ) = some (zi lat, cW S n C ρ) := by
  rcases h with ⟨h1, h2⟩ | ⟨p, ser, w, ev, k, b, h1, h2⟩
  · rw [Y_latN hi h1, h2]
  · exact Y_latS hF hi h1 h2
theorem Y_requestB {x y : Int32} {z : Int32} (hn : n ≤ 6) (h : x < 0 ∨ ∃ k, k < 2147483648 ∧ n ≤ k ∧ x = zi k) : s_No_request g S x y z (cW S n C ρ) = some (.inl (-1), cW S n C ρ) := by
  unfold s_No_request
  rw [c_isNo, Option.bind_some, Y_branchAtN hn h, Option.bind_some]
theorem Y_requestD {y : Int32} {z : Int32} (hF : S + cF n ≤ ρ.1) (hn : n ≤ 6) (hi : i < n) (hd : C.1 (oBr i) 8 = 0) (hg : g 21 = some q) : s_No_request g S (zi i) y z (cW S n C ρ) = some (.inr ρ.1, cW S n C (exc g q ρ)) := by
  unfold s_No_request
  rw [c_isNo, Option.bind_some, Y_branchAt hi hn, Option.bind_some]
  dsimp only
  rw [Y_dnB hF hi hd hg, Option.bind_some]
theorem Y_requestS {y : Int32} {z : Int32} (hn : n ≤ 6) (hi : i < n) (hu : C.1 (oBr i) 8 = 1) (h : y < 0 ∨ ∃ k, k < 2147483648 ∧ 3 ≤ k ∧ y = zi k) : s_No_request g S (zi i) y z (cW S n C ρ) = some (.inl (-1), cW S n C ρ) := by
  unfold s_No_request
  rw [c_isNo, Option.bind_some, Y_branchAt hi hn, Option.bind_some]
  dsimp only
  rw [Y_upB hi hu, Option.bind_some]
  dsimp only
  rw [x_isBr hi, Option.bind_some, Y_bookAtBN h, Option.bind_some]
  rfl
theorem Y_reportB {x y : Int32}  (hn : n ≤ 6) (h : x < 0 ∨ ∃ k, k < 2147483648 ∧ n ≤ k ∧ x = zi k) : s_No_report g S x y  (cW S n C ρ) = some (.inl (-1), cW S n C ρ) := by
  unfold s_No_report
  rw [c_isNo, Option.bind_some, Y_branchAtN hn h, Option.bind_some]
theorem Y_reportD {y : Int32}  (hF : S + cF n ≤ ρ.1) (hn : n ≤ 6) (hi : i < n) (hd : C.1 (oBr i) 8 = 0) (hg : g 21 = some q) : s_No_report g S (zi i) y  (cW S n C ρ) = some (.inr ρ.1, cW S n C (exc g q ρ)) := by
  unfold s_No_report
  rw [c_isNo, Option.bind_some, Y_branchAt hi hn, Option.bind_some]
  dsimp only
  rw [Y_dnB hF hi hd hg, Option.bind_some]
theorem Y_reportS {y : Int32}  (hn : n ≤ 6) (hi : i < n) (hu : C.1 (oBr i) 8 = 1) (h : y < 0 ∨ ∃ k, k < 2147483648 ∧ 3 ≤ k ∧ y = zi k) : s_No_report g S (zi i) y  (cW S n C ρ) = some (.inl (-1), cW S n C ρ) := by
  unfold s_No_report
  rw [c_isNo, Option.bind_some, Y_branchAt hi hn, Option.bind_some]
  dsimp only
  rw [Y_upB hi hu, Option.bind_some]
  dsimp only
  rw [x_isBr hi, Option.bind_some, Y_bookAtBN h, Option.bind_some]
  rfl
theorem Y_invoiceB {x y : Int32} {c : Int64} {d : Int32} (hn : n ≤ 6) (h : x < 0 ∨ ∃ k, k < 2147483648 ∧ n ≤ k ∧ x = zi k) : s_No_invoice g S x y c d (cW S n C ρ) = some (.inl (-1), cW S n C ρ) := by
  unfold s_No_invoice
  rw [c_isNo, Option.bind_some, Y_branchAtN hn h, Option.bind_some]
theorem Y_invoiceD {y : Int32} {c : Int64} {d : Int32} (hF : S + cF n ≤ ρ.1) (hn : n ≤ 6) (hi : i < n) (hd : C.1 (oBr i) 8 = 0) (hg : g 21 = some q) : s_No_invoice g S (zi i) y c d (cW S n C ρ) = some (.inr ρ.1, cW S n C (exc g q ρ)) := by
  unfold s_No_invoice
  rw [c_isNo, Option.bind_some, Y_branchAt hi hn, Option.bind_some]
  dsimp only
  rw [Y_dnB hF hi hd hg, Option.bind_some]
theorem Y_invoiceS {y : Int32} {c : Int64} {d : Int32} (hn : n ≤ 6) (hi : i < n) (hu : C.1 (oBr i) 8 = 1) (h : y < 0 ∨ ∃ k, k < 2147483648 ∧ 3 ≤ k ∧ y = zi k) : s_No_invoice g S (zi i) y c d (cW S n C ρ) = some (.inl (-1), cW S n C ρ) := by
  unfold s_No_invoice
  rw [c_isNo, Option.bind_some, Y_branchAt hi hn, Option.bind_some]
  dsimp only
  rw [Y_upB hi hu, Option.bind_some]
  dsimp only
  rw [x_isBr hi, Option.bind_some, Y_bookAtBN h, Option.bind_some]
  rfl
theorem Y_voidNextB {x y : Int32} {r : Int32} (hn : n ≤ 6) (h : x < 0 ∨ ∃ k, k < 2147483648 ∧ n ≤ k ∧ x = zi k) : s_No_voidNext g S x y r (cW S n C ρ) = some (.inl (-1), cW S n C ρ) := by
  unfold s_No_voidNext
  rw [c_isNo, Option.bind_some, Y_branchAtN hn h, Option.bind_some]
theorem Y_voidNextD {y : Int32} {r : Int32} (hF : S + cF n ≤ ρ.1) (hn : n ≤ 6) (hi : i < n) (hd : C.1 (oBr i) 8 = 0) (hg : g 21 = some q) : s_No_voidNext g S (zi i) y r (cW S n C ρ) = some (.inr ρ.1, cW S n C (exc g q ρ)) := by
  unfold s_No_voidNext
  rw [c_isNo, Option.bind_some, Y_branchAt hi hn, Option.bind_some]
  dsimp only
  rw [Y_dnB hF hi hd hg, Option.bind_some]
theorem Y_voidNextS {y : Int32} {r : Int32} (hn : n ≤ 6) (hi : i < n) (hu : C.1 (oBr i) 8 = 1) (h : y < 0 ∨ ∃ k, k < 2147483648 ∧ 3 ≤ k ∧ y = zi k) : s_No_voidNext g S (zi i) y r (cW S n C ρ) = some (.inl (-1), cW S n C ρ) := by
  unfold s_No_voidNext
  rw [c_isNo, Option.bind_some, Y_branchAt hi hn, Option.bind_some]
  dsimp only
  rw [Y_upB hi hu, Option.bind_some]
  dsimp only
  rw [x_isBr hi, Option.bind_some, Y_bookAtBN h, Option.bind_some]
  rfl
theorem Y_voidUsedB {x y : Int32} {v r : Int32} (hn : n ≤ 6) (h : x < 0 ∨ ∃ k, k < 2147483648 ∧ n ≤ k ∧ x = zi k) : s_No_voidUsed g S x y v r (cW S n C ρ) = some (.inl (0), cW S n C ρ) := by
  unfold s_No_voidUsed
  rw [c_isNo, Option.bind_some, Y_branchAtN hn h, Option.bind_some]
theorem Y_voidUsedD {y : Int32} {v r : Int32} (hF : S + cF n ≤ ρ.1) (hn : n ≤ 6) (hi : i < n) (hd : C.1 (oBr i) 8 = 0) (hg : g 21 = some q) : s_No_voidUsed g S (zi i) y v r (cW S n C ρ) = some (.inr ρ.1, cW S n C (exc g q ρ)) := by
  unfold s_No_voidUsed
  rw [c_isNo, Option.bind_some, Y_branchAt hi hn, Option.bind_some]
  dsimp only
  rw [Y_dnB hF hi hd hg, Option.bind_some]
theorem Y_voidUsedS {y : Int32} {v r : Int32} (hn : n ≤ 6) (hi : i < n) (hu : C.1 (oBr i) 8 = 1) (h : y < 0 ∨ ∃ k, k < 2147483648 ∧ 3 ≤ k ∧ y = zi k) : s_No_voidUsed g S (zi i) y v r (cW S n C ρ) = some (.inl (0), cW S n C ρ) := by
  unfold s_No_voidUsed
  rw [c_isNo, Option.bind_some, Y_branchAt hi hn, Option.bind_some]
  dsimp only
  rw [Y_upB hi hu, Option.bind_some]
  dsimp only
  rw [x_isBr hi, Option.bind_some, Y_bookAtBN h, Option.bind_some]
  rfl
theorem Y_requestN {z : Int32} (hn : n ≤ 6) (hi : i < n) (hu : C.1 (oBr i) 8 = 1) (hs : s < 3) (hz : z < 1 ∨ 100 < z) : s_No_request g S (zi i) (zi s) z (cW S n C ρ) = some (.inl (-1), cW S n C ρ) := by
  unfold s_No_request
  rw [c_isNo, Option.bind_some, Y_branchAt hi hn, Option.bind_some]
  dsimp only
  rw [Y_upB hi hu, Option.bind_some]
  dsimp only
  rw [x_isBr hi, Option.bind_some, Y_bookAtB hi hs, Option.bind_some]
  dsimp only
  by_cases h1 : z < 1
  · rw [if_pos h1]
    rfl
  · rw [if_neg h1, if_pos (hz.resolve_left h1)]
    rfl
theorem rq_z {z : Nat} (hz : 1 ≤ z ∧ z ≤ 100) : ¬ zi z < 1 ∧ ¬ 100 < zi z := by
  rw [zi_l1, zi_l100, zi_lt (by omega) (by omega), zi_lt (by omega) (by omega)]
  omega
theorem Y_requestW {z : Nat} (hn : n ≤ 6) (hi : i < n) (hu : C.1 (oBr i) 8 = 1) (hs : s < 3) (hz : 1 ≤ z ∧ z ≤ 100) (h3 : C.1 (oBr i) 3 < 2) (h4 : C.1 (oBr i) 4 < 2) (hw : ¬ (C.1 (oBr i) 3 = 0 ∧ C.1 (oBr i) 4 = 0)) : s_No_request g S (zi i) (zi s) (zi z) (cW S n C ρ) = some (.inl (-1), cW S n C ρ) := by
  unfold s_No_request
  rw [c_isNo, Option.bind_some, Y_branchAt hi hn, Option.bind_some]
  dsimp only
  rw [Y_upB hi hu, Option.bind_some]
  dsimp only
  rw [x_isBr hi, Option.bind_some, Y_bookAtB hi hs, Option.bind_some]
  dsimp only
  rw [if_neg (rq_z hz).1, if_neg (rq_z hz).2, x_isBr hi, Option.bind_some, Y_mayW hi h3 h4, Option.bind_some]
  dsimp only
  rw [if_neg hw, if_pos (show zi 0 = 0 from rfl)]
  rfl
theorem Y_requestO {z : Nat} (hn : n ≤ 6) (hi : i < n) (hu : C.1 (oBr i) 8 = 1) (hs : s < 3) (hz : 1 ≤ z ∧ z ≤ 100) (hw : C.1 (oBr i) 3 = 0 ∧ C.1 (oBr i) 4 = 0) (hb : C.1 (oBs i s) 2 ≤ C.1 (oLs i s 0) 1) (h6 : C.1 (oLs i s 0) 1 ≤ 600) (ho : 2 ≤ C.1 (oLs i s 0) 1 - C.1 (oBs i s) 2) : s_No_request g S (zi i) (zi s) (zi z) (cW S n C ρ) = some (.inl (-1), cW S n C ρ) := by
  unfold s_No_request
  rw [c_isNo, Option.bind_some, Y_branchAt hi hn, Option.bind_some]
  dsimp only
  rw [Y_upB hi hu, Option.bind_some]
  dsimp only
  rw [x_isBr hi, Option.bind_some, Y_bookAtB hi hs, Option.bind_some]
  dsimp only
  rw [if_neg (rq_z hz).1, if_neg (rq_z hz).2, x_isBr hi, Option.bind_some, Y_mayW hi (by omega) (by omega), Option.bind_some]
  dsimp only
  rw [if_pos hw, if_neg (show ¬ zi 1 = 0 by decide), x_isBs hi hs, Option.bind_some, Y_openB hi hs hb, Option.bind_some]
  dsimp only
  rw [if_neg (by rw [zi_l2, zi_lt (by omega) (by omega)]; omega)]
  rfl
theorem Y_request {z lat : Nat} (h : LLs e S F n C ρ f) (hg : g 0 = some e) (hg2 : ∃ mi, g 10 = some mi) (hn : n ≤ 6) (hi : i < n) (hu : C.1 (oBr i) 8 = 1) (hs : s < 3) (hz : 1 ≤ z ∧ z ≤ 100) (hw : C.1 (oBr i) 3 = 0 ∧ C.1 (oBr i) 4 = 0) (hb : C.1 (oBs i s) 2 ≤ C.1 (oLs i s 0) 1) (ho : C.1 (oLs i s 0) 1 - C.1 (oBs i s) 2 < 2) (hlat : latOK F ρ (C.2.2.2 (oBr i) 2) lat) (hL : C.1 (oPo n) 1 ≤ 64) : ∃ C' ρ' f' ρf, s_No_request g S (zi i) (zi s) (zi z) (cW S n C ρ) = some (.inl (zi (lat + 1)), cW S n C' ρ') ∧ isLet F ρf ρ.1 s z (ρ.1 + 1) 1 i (lat + 1) ∧ dX ρ ρf ∧ (ρf.1 = ρ.1 + 2 ∧ ρf.2.1 = ρ.2.1 + 6) ∧ LLs e S F n C ρf f ∧ snt e S F n ρ.1 (cWr C i ρ.1) ρf f C' ρ' f' := by
  have hF := h.1.2.1
  have hF2 := h.1.2.2.1
  have h6 := (h.2.1 _ (ck_Ls hi hs (show 0 < 2 by decide)) (lt_Ls hi hs (by decide))).1
  obtain ⟨a1, a2, a3, a4, a5, a6⟩ := newLet (c := 0) (G := fun _ => none) (L := [.int (zi s), .int (zi z), .ref (ρ.1 + 1), .int (zi 1), .int (zi i), .int (zi (lat + 1))]) h
  obtain ⟨C', ρ', f', b1, b2⟩ := Y_sendNew (g := g) (p := ρ.1) (k := 1) (b := i) (ser := s) (w := z) (ev := ρ.1 + 1) (num := lat + 1) a6 hg hg2 hi a2 (by omega) hL
  refine ⟨C', ρ', f', _, ?_, a2, a5, ⟨rfl, rfl⟩, a6, b2⟩
  have q1 := Y_letInit (g := g) (C := C) (ev := ρ.1 + 1) (k := 1) (ser := s) (w := z) hF hi a1 (Y_lat hF hi (hlat.mono a4))
  have q2 : znew (cW S n C (znew ρ 6 (.inr (9, [.int 0, .int 0, .null, .int 0, .int 0, .int 0])))) 0 (.inl (11, 0, .inr (.inr (.inr (.inr (fun _ => none)))))) = cW S n C (znew (znew ρ 6 (.inr (9, [.int 0, .int 0, .null, .int 0, .int 0, .int 0]))) 0 (.inl (11, 0, rfs (fun _ => none)))) := cW_znew (by show S + cF n ≤ ρ.1 + 1; omega)
  have q3 : zlen 0 = some 0 := rfl
  unfold s_No_request
  rw [c_isNo, Option.bind_some, Y_branchAt hi hn, Option.bind_some]
  dsimp only
  rw [Y_upB hi hu, Option.bind_some]
  dsimp only
  rw [x_isBr hi, Option.bind_some, Y_bookAtB hi hs, Option.bind_some]
  dsimp only
  rw [if_neg (rq_z hz).1, if_neg (rq_z hz).2, x_isBr hi, Option.bind_some, Y_mayW hi (by omega) (by omega), Option.bind_some]
  dsimp only
  rw [if_pos hw, if_neg (show ¬ zi 1 = 0 by decide), x_isBs hi hs, Option.bind_some, Y_openB hi hs hb, Option.bind_some]
  dsimp only
  rw [if_pos (by rw [zi_l2, zi_lt (by omega) (by omega)]; exact ho), Option.bind_some, cW_znew (Nat.le_trans hF hF2), q3, Option.bind_some, Option.bind_some, q2]
  have q4 : s_Letter_init g (cW S n C ρ).1 (some (S + oBr i)) 1 (zi s) (zi z) (some (cW S n C (znew ρ 6 (.inr (9, [.int 0, .int 0, .null, .int 0, .int 0, .int 0])))).1) (cW S n C (znew (znew ρ 6 (.inr (9, [.int 0, .int 0, .null, .int 0, .int 0, .int 0]))) 0 (.inl (11, 0, rfs (fun _ => none))))) = some (cW S n C (zupd (znew (znew ρ 6 (.inr (9, [.int 0, .int 0, .null, .int 0, .int 0, .int 0]))) 0 (.inl (11, 0, rfs (fun _ => none)))) ρ.1 (.inr (9, [.int (zi s), .int (zi z), .ref (ρ.1 + 1), .int (zi 1), .int (zi i), .int (zi (lat + 1))])))) := q1
  rw [q4, Option.bind_some, c_isNo, Option.bind_some]
  have b3 : s_No_sendNew g S (some (S + oBr i)) (some (cW S n C ρ).1) (cW S n C (zupd (znew (znew ρ 6 (.inr (9, [.int 0, .int 0, .null, .int 0, .int 0, .int 0]))) 0 (.inl (11, 0, rfs (fun _ => none)))) ρ.1 (.inr (9, [.int (zi s), .int (zi z), .ref (ρ.1 + 1), .int (zi 1), .int (zi i), .int (zi (lat + 1))])))) = some (zi (lat + 1), cW S n C' ρ') := b1
  rw [b3, Option.bind_some]
theorem Y_reportW (hn : n ≤ 6) (hi : i < n) (hu : C.1 (oBr i) 8 = 1) (hs : s < 3) (h3 : C.1 (oBr i) 3 < 2) (h4 : C.1 (oBr i) 4 < 2) (hw : ¬ (C.1 (oBr i) 3 = 0 ∧ C.1 (oBr i) 4 = 0)) : s_No_report g S (zi i) (zi s) (cW S n C ρ) = some (.inl (-1), cW S n C ρ) := by
  unfold s_No_report
  rw [c_isNo, Option.bind_some, Y_branchAt hi hn, Option.bind_some]
  dsimp only
  rw [Y_upB hi hu, Option.bind_some]
  dsimp only
  rw [x_isBr hi, Option.bind_some, Y_bookAtB hi hs, Option.bind_some]
  dsimp only
  rw [x_isBr hi, Option.bind_some, Y_mayW hi h3 h4, Option.bind_some]
  dsimp only
  rw [if_neg hw, if_pos (show zi 0 = 0 from rfl)]
  rfl
theorem Y_reportE (hn : n ≤ 6) (hi : i < n) (hu : C.1 (oBr i) 8 = 1) (hs : s < 3) (hw : C.1 (oBr i) 3 = 0 ∧ C.1 (oBr i) 4 = 0) (hr : C.1 (oBs i s) 4 = C.1 (oLs i s 1) 1) : s_No_report g S (zi i) (zi s) (cW S n C ρ) = some (.inl (-1), cW S n C ρ) := by
  unfold s_No_report
  rw [c_isNo, Option.bind_some, Y_branchAt hi hn, Option.bind_some]
  dsimp only
  rw [Y_upB hi hu, Option.bind_some]
  dsimp only
  rw [x_isBr hi, Option.bind_some, Y_bookAtB hi hs, Option.bind_some]
  dsimp only
  rw [x_isBr hi, Option.bind_some, Y_mayW hi (by omega) (by omega), Option.bind_some]
  dsimp only
  rw [if_pos hw, if_neg (show ¬ zi 1 = 0 by decide), x_isBs hi hs, Option.bind_some, Y_unrep hi hs (by omega), Option.bind_some]
  dsimp only
  rw [hr, Nat.sub_self, if_neg (show ¬ 1 ≤ zi 0 by decide)]
  rfl
theorem Y_report {lat : Nat} {en eu : Nat → Nat} {ec : Nat → Int64} {ed : Nat → Int32} {c : Nat} (h : LLs e S F n C ρ f) (hg : g 0 = some e) (hg2 : ∃ mi, g 10 = some mi) (hn : n ≤ 6) (hi : i < n) (hu : C.1 (oBr i) 8 = 1) (hs : s < 3) (hw : C.1 (oBr i) 3 = 0 ∧ C.1 (oBr i) 4 = 0) (hr : C.1 (oBs i s) 4 < C.1 (oLs i s 1) 1) (hE : ∀ t, t < C.1 (oLs i s 1) 1 → isEv F ρ (f (oLs i s 1) t) (en t) (eu t) (ec t) (ed t)) (hc : c = min 30 (C.1 (oLs i s 1) 1 - C.1 (oBs i s) 4)) (hlat : latOK F ρ (C.2.2.2 (oBr i) 2) lat) (hL : C.1 (oPo n) 1 ≤ 64) : ∃ C' ρ' f' ρf, s_No_report g S (zi i) (zi s) (cW S n C ρ) = some (.inl (zi (lat + 1)), cW S n C' ρ') ∧ isLet F ρf ρ.1 s 0 (ρ.1 + 1) 2 i (lat + 1) ∧ isEvA F ρf (ρ.1 + 1) c (gEv f (oLs i s 1) (C.1 (oBs i s) 4) c) ∧ dX ρ ρf ∧ (ρf.1 = ρ.1 + 2 ∧ ρf.2.1 = ρ.2.1 + 6 + c) ∧ LLs e S F n C ρf f ∧ snt e S F n ρ.1 (cWr C i ρ.1) ρf f C' ρ' f' := by
  have hF := h.1.2.1
  have hF2 := h.1.2.2.1
  have h6 := (h.2.1 _ (ck_Ls hi hs (show 1 < 2 by decide)) (lt_Ls hi hs (by decide))).1
  obtain ⟨a1, a2, a3, a4, a5, a6⟩ := newLet (c := c) (G := gEv f (oLs i s 1) (C.1 (oBs i s) 4) c) (L := [.int (zi s), .int (zi 0), .ref (ρ.1 + 1), .int (zi 2), .int (zi i), .int (zi (lat + 1))]) h
  obtain ⟨C', ρ', f', b1, b2⟩ := Y_sendNew (g := g) (p := ρ.1) (k := 2) (b := i) (ser := s) (w := 0) (ev := ρ.1 + 1) (num := lat + 1) a6 hg hg2 hi a2 (by omega) hL
  refine ⟨C', ρ', f', _, ?_, a2, a3, a5, ⟨rfl, rfl⟩, a6, b2⟩
  have q1 := Y_letInit (g := g) (C := C) (ev := ρ.1 + 1) (k := 2) (ser := s) (w := 0) hF hi a1 (Y_lat hF hi (hlat.mono a4))
  have q2 := Y_evLet (g := g) (c := c) (h.new (k := 6) (y := .inr (9, [.int 0, .int 0, .null, .int 0, .int 0, .int 0]))) hi hs (by omega) (fun t ht => dOb.mono (hE t ht) dX.new) hc
  have q3 : s_BranchSeries_eventsForLetter g (S + oBs i s) (cW S n C (znew ρ 6 (.inr (9, [.int 0, .int 0, .null, .int 0, .int 0, .int 0])))) = some (some (ρ.1 + 1), cW S n C (znew (znew ρ 6 (.inr (9, [.int 0, .int 0, .null, .int 0, .int 0, .int 0]))) c (.inl (11, c, rfs (gEv f (oLs i s 1) (C.1 (oBs i s) 4) c))))) := q2
  unfold s_No_report
  rw [c_isNo, Option.bind_some, Y_branchAt hi hn, Option.bind_some]
  dsimp only
  rw [Y_upB hi hu, Option.bind_some]
  dsimp only
  rw [x_isBr hi, Option.bind_some, Y_bookAtB hi hs, Option.bind_some]
  dsimp only
  rw [x_isBr hi, Option.bind_some, Y_mayW hi (by omega) (by omega), Option.bind_some]
  dsimp only
  rw [if_pos hw, if_neg (show ¬ zi 1 = 0 by decide), x_isBs hi hs, Option.bind_some, Y_unrep hi hs (by omega), Option.bind_some]
  dsimp only
  rw [if_pos (by rw [zi_l1, zi_le (by omega) (by omega)]; omega), Option.bind_some, cW_znew (Nat.le_trans hF hF2), x_isBs hi hs, Option.bind_some, q3, Option.bind_some]
  dsimp only
  have q4 : s_Letter_init g (cW S n C ρ).1 (some (S + oBr i)) 2 (zi s) 0 (some (ρ.1 + 1)) (cW S n C (znew (znew ρ 6 (.inr (9, [.int 0, .int 0, .null, .int 0, .int 0, .int 0]))) c (.inl (11, c, rfs (gEv f (oLs i s 1) (C.1 (oBs i s) 4) c))))) = some (cW S n C (zupd (znew (znew ρ 6 (.inr (9, [.int 0, .int 0, .null, .int 0, .int 0, .int 0]))) c (.inl (11, c, rfs (gEv f (oLs i s 1) (C.1 (oBs i s) 4) c)))) ρ.1 (.inr (9, [.int (zi s), .int (zi 0), .ref (ρ.1 + 1), .int (zi 2), .int (zi i), .int (zi (lat + 1))])))) := q1
  rw [q4, Option.bind_some, c_isNo, Option.bind_some]
  have b3 : s_No_sendNew g S (some (S + oBr i)) (some (cW S n C ρ).1) (cW S n C (zupd (znew (znew ρ 6 (.inr (9, [.int 0, .int 0, .null, .int 0, .int 0, .int 0]))) c (.inl (11, c, rfs (gEv f (oLs i s 1) (C.1 (oBs i s) 4) c)))) ρ.1 (.inr (9, [.int (zi s), .int (zi 0), .ref (ρ.1 + 1), .int (zi 2), .int (zi i), .int (zi (lat + 1))])))) = some (zi (lat + 1), cW S n C' ρ') := b1
  rw [b3, Option.bind_some]
theorem Y_againB {x : Int32} (hn : n ≤ 6) (h : x < 0 ∨ ∃ k, k < 2147483648 ∧ n ≤ k ∧ x = zi k) : s_No_again g S x (cW S n C ρ) = some (zi 0, cW S n C ρ) := by
  unfold s_No_again
  rw [c_isNo, Option.bind_some, Y_branchAtN hn h, Option.bind_some]
  rfl
theorem Y_againD (hn : n ≤ 6) (hi : i < n) (hd : C.1 (oBr i) 8 = 0) : s_No_again g S (zi i) (cW S n C ρ) = some (zi 0, cW S n C ρ) := by
  unfold s_No_again
  rw [c_isNo, Option.bind_some, Y_branchAt hi hn, Option.bind_some]
  dsimp only
  rw [x_gBr8 hi, Option.bind_some, hd, if_pos (show zi 0 = 0 from rfl)]
  rfl
theorem Y_again0 (hn : n ≤ 6) (hi : i < n) (hu : C.1 (oBr i) 8 = 1) (hw : C.1 (oBr i) 3 = 0) : s_No_again g S (zi i) (cW S n C ρ) = some (zi 0, cW S n C ρ) := by
  unfold s_No_again
  rw [c_isNo, Option.bind_some, Y_branchAt hi hn, Option.bind_some]
  dsimp only
  rw [x_gBr8 hi, Option.bind_some, hu, if_neg (show ¬ zi 1 = 0 by decide), x_isBr hi, Option.bind_some, Y_unans0 hi hw, Option.bind_some]
  rfl
theorem Y_again {p : Nat} {fs : List Value} (h : LLs e S F n C ρ f) (hg : g 0 = some e) (hg2 : ∃ mi, g 10 = some mi) (hn : n ≤ 6) (hi : i < n) (hu : C.1 (oBr i) 8 = 1) (hw : C.1 (oBr i) 3 = 1) (h4 : C.1 (oBr i) 4 < 2) (hl : C.2.2.2 (oBr i) 2 = some p) (hp : dOb F ρ p 9 fs) (hL : C.1 (oPo n) 1 ≤ 64) : ∃ C' ρ' f', s_No_again g S (zi i) (cW S n C ρ) = some (zi 1, cW S n C' ρ') ∧ snt e S F n p (cSv C i) ρ f C' ρ' f' := by
  have hPo := cSv_ls (C := C) hi (ck_Po (n := n))
  obtain ⟨C', ρ', f', a1, a2⟩ := Y_sendQ (g := g) (h.sv hi) hg hg2 (dOb.okE hp (by decide)) (by rw [hPo.1]; exact hL)
  refine ⟨C', ρ', f', ?_, a2⟩
  unfold s_No_again
  rw [c_isNo, Option.bind_some, Y_branchAt hi hn, Option.bind_some]
  dsimp only
  rw [x_gBr8 hi, Option.bind_some, hu, if_neg (show ¬ zi 1 = 0 by decide), x_isBr hi, Option.bind_some, Y_unans1 hi hw, Option.bind_some, hl]
  dsimp only
  rw [x_isBr hi, Option.bind_some, Y_saveB hi (by omega) h4, Option.bind_some, c_isNo, Option.bind_some, a1, Option.bind_some]
  rfl
end CNO3
