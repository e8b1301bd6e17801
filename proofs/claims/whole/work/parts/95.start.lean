/-! ===== the start: what the premises give ===== -/
theorem stI0 : Cond.instantiable "NumberOffice" 3 ∈ ztb := ztb_of 75 (by decide +kernel) rfl
theorem stI1 : Cond.instantiable "NumberOffice$Branch" 9 ∈ ztb := ztb_of 90 (by decide +kernel) rfl
theorem stI2 : Cond.instantiable "NumberOffice$BranchSeries" 10 ∈ ztb := ztb_of 100 (by decide +kernel) rfl
theorem stI3 : Cond.instantiable "java/util/ArrayList" 3 ∈ ztb := ztb_of 106 (by decide +kernel) rfl
theorem stI4 : Cond.instantiable "NumberOffice$Office" 7 ∈ ztb := ztb_of 202 (by decide +kernel) rfl
theorem stI5 : Cond.instantiable "NumberOffice$SeriesBook" 8 ∈ ztb := ztb_of 209 (by decide +kernel) rfl
theorem stI6 : Cond.instantiable "NumberOffice$Answer" 5 ∈ ztb := ztb_of 470 (by decide +kernel) rfl
theorem stI7 : Cond.instantiable "NumberOffice$Block" 2 ∈ ztb := ztb_of 521 (by decide +kernel) rfl
theorem stI8 : Cond.instantiable "java/lang/IllegalStateException" 6 ∈ ztb := ztb_of 614 (by decide +kernel) rfl
theorem stI9 : Cond.instantiable "NumberOffice$Letter" 6 ∈ ztb := ztb_of 698 (by decide +kernel) rfl
theorem stI10 : Cond.instantiable "NumberOffice$Event" 4 ∈ ztb := ztb_of 766 (by decide +kernel) rfl
theorem stI11 : Cond.instantiable "NumberOffice$ListText" 2 ∈ ztb := ztb_of 845 (by decide +kernel) rfl
theorem stI12 : Cond.instantiable "java/lang/StringBuilder" 4 ∈ ztb := ztb_of 851 (by decide +kernel) rfl
theorem stI13 : Cond.instantiable "java/lang/String" 4 ∈ ztb := ztb_of 1054 (by decide +kernel) rfl
theorem stI14 : Cond.instantiable "NumberOfficeModel" 40 ∈ ztb := ztb_of 1166 (by decide +kernel) rfl
section START
variable {s : State} {args : Array Value}
theorem st_known (hts : ∀ w ∈ ztb, w.before args s = true) : ∃ d : va_G, va_K d zcl [] s := by
  have h : ∀ c : Nat, ∃ y : ClassId × (Nat → Nat), ∀ q, zcl[c]? = some q → u_Kn s q.1 q.2.1 q.2.2 y.1 y.2 := by
    intro c
    match c with
    | 0 =>
      obtain ⟨cC, iS, h⟩ := u_known hts zin_NumberOffice (hts _ stI0)
      exact ⟨(cC, iS), fun q hq => by
        rw [show zcl[0]? = some (zR_NumberOffice, zF_NumberOffice, 3) from rfl] at hq
        cases hq
        exact h⟩
    | 1 =>
      obtain ⟨cC, iS, h⟩ := u_known hts zin_Branch (hts _ stI1)
      exact ⟨(cC, iS), fun q hq => by
        rw [show zcl[1]? = some (zR_Branch, zF_Branch, 9) from rfl] at hq
        cases hq
        exact h⟩
    | 2 =>
      obtain ⟨cC, iS, h⟩ := u_known hts zin_BranchSeries (hts _ stI2)
      exact ⟨(cC, iS), fun q hq => by
        rw [show zcl[2]? = some (zR_BranchSeries, zF_BranchSeries, 10) from rfl] at hq
        cases hq
        exact h⟩
    | 3 =>
      obtain ⟨cC, iS, h⟩ := u_known hts zin_ArrayList (hts _ stI3)
      exact ⟨(cC, iS), fun q hq => by
        rw [show zcl[3]? = some (zR_ArrayList, zF_ArrayList, 3) from rfl] at hq
        cases hq
        exact h⟩
    | 4 =>
      obtain ⟨cC, iS, h⟩ := u_known hts zin_Office (hts _ stI4)
      exact ⟨(cC, iS), fun q hq => by
        rw [show zcl[4]? = some (zR_Office, zF_Office, 7) from rfl] at hq
        cases hq
        exact h⟩
    | 5 =>
      obtain ⟨cC, iS, h⟩ := u_known hts zin_SeriesBook (hts _ stI5)
      exact ⟨(cC, iS), fun q hq => by
        rw [show zcl[5]? = some (zR_SeriesBook, zF_SeriesBook, 8) from rfl] at hq
        cases hq
        exact h⟩
    | 6 =>
      obtain ⟨cC, iS, h⟩ := u_known hts zin_Answer (hts _ stI6)
      exact ⟨(cC, iS), fun q hq => by
        rw [show zcl[6]? = some (zR_Answer, zF_Answer, 5) from rfl] at hq
        cases hq
        exact h⟩
    | 7 =>
      obtain ⟨cC, iS, h⟩ := u_known hts zin_Block (hts _ stI7)
      exact ⟨(cC, iS), fun q hq => by
        rw [show zcl[7]? = some (zR_Block, zF_Block, 2) from rfl] at hq
        cases hq
        exact h⟩
    | 8 =>
      obtain ⟨cC, iS, h⟩ := u_known hts zin_IllegalStateException (hts _ stI8)
      exact ⟨(cC, iS), fun q hq => by
        rw [show zcl[8]? = some (zR_IllegalStateException, zF_IllegalStateException, 6) from rfl] at hq
        cases hq
        exact h⟩
    | 9 =>
      obtain ⟨cC, iS, h⟩ := u_known hts zin_Letter (hts _ stI9)
      exact ⟨(cC, iS), fun q hq => by
        rw [show zcl[9]? = some (zR_Letter, zF_Letter, 6) from rfl] at hq
        cases hq
        exact h⟩
    | 10 =>
      obtain ⟨cC, iS, h⟩ := u_known hts zin_Event (hts _ stI10)
      exact ⟨(cC, iS), fun q hq => by
        rw [show zcl[10]? = some (zR_Event, zF_Event, 4) from rfl] at hq
        cases hq
        exact h⟩
    | 11 =>
      obtain ⟨cC, iS, h⟩ := u_known hts zin_ListText (hts _ stI11)
      exact ⟨(cC, iS), fun q hq => by
        rw [show zcl[11]? = some (zR_ListText, zF_ListText, 2) from rfl] at hq
        cases hq
        exact h⟩
    | 12 =>
      obtain ⟨cC, iS, h⟩ := u_known hts zin_StringBuilder (hts _ stI12)
      exact ⟨(cC, iS), fun q hq => by
        rw [show zcl[12]? = some (zR_StringBuilder, zF_StringBuilder, 4) from rfl] at hq
        cases hq
        exact h⟩
    | 13 =>
      obtain ⟨cC, iS, h⟩ := u_known hts zin_String (hts _ stI13)
      exact ⟨(cC, iS), fun q hq => by
        rw [show zcl[13]? = some (zR_String, zF_String, 4) from rfl] at hq
        cases hq
        exact h⟩
    | 14 =>
      obtain ⟨cC, iS, h⟩ := u_known hts zin_NumberOfficeModel (hts _ stI14)
      exact ⟨(cC, iS), fun q hq => by
        rw [show zcl[14]? = some (zR_NumberOfficeModel, zF_NumberOfficeModel, 40) from rfl] at hq
        cases hq
        exact h⟩
    | n + 15 => exact ⟨(0, fun _ => 0), fun q hq => by cases hq⟩
  obtain ⟨f, hf⟩ := Classical.axiomOfChoice h
  exact ⟨(fun c => (f c).1, fun c => (f c).2), fun c q hq => hf c q hq, fun k q hq => by cases hq⟩
theorem st_obj {C : String} (h : (Cond.arrayOver (.object C)).before args s = true) : ∃ cA : ClassId, ArrOfT s cA (.object C) ∧ va_RA s cA (.object C) := by
  obtain ⟨comp, c, k, h1, h2, h3, h4, h5⟩ := Cond.arrayOver_spec h
  exact ⟨c, fun n z => ⟨(fun _ h => by cases h), k, h3, comp, h4⟩, k, comp, h3, h4, h1, h5⟩
theorem st_arr (hts : ∀ w ∈ ztb, w.before args s = true) : ∃ dA : Nat → ClassId, ∀ (i : Nat) (ty : FieldType), zty[i]? = some ty → ArrOfT s (dA i) ty ∧ va_RA s (dA i) ty := by
  have h : ∀ i : Nat, ∃ cA : ClassId, ∀ ty, zty[i]? = some ty → ArrOfT s cA ty ∧ va_RA s cA ty := by
    intro i
    match i with
    | 0 =>
      obtain ⟨c, k, comp, h1, h2, h3⟩ := Cond.arrayClass_spec (hts (Cond.arrayClass .int) (ztb_of 242 (by decide +kernel) rfl))
      exact ⟨c, fun ty hq => by
        rw [show zty[0]? = some .int from rfl] at hq
        cases hq
        exact ⟨fun n z => ⟨(fun _ h => by cases h), k, h2, comp, h3⟩, h1⟩⟩
    | 1 =>
      obtain ⟨c, k, comp, h1, h2, h3⟩ := Cond.arrayClass_spec (hts (Cond.arrayClass .long) (ztb_of 243 (by decide +kernel) rfl))
      exact ⟨c, fun ty hq => by
        rw [show zty[1]? = some .long from rfl] at hq
        cases hq
        exact ⟨fun n z => ⟨(fun _ h => by cases h), k, h2, comp, h3⟩, h1⟩⟩
    | 2 =>
      obtain ⟨c, k, comp, h1, h2, h3⟩ := Cond.arrayClass_spec (hts (Cond.arrayClass .byte) (ztb_of 244 (by decide +kernel) rfl))
      exact ⟨c, fun ty hq => by
        rw [show zty[2]? = some .byte from rfl] at hq
        cases hq
        exact ⟨fun n z => ⟨(fun _ h => by cases h), k, h2, comp, h3⟩, h1⟩⟩
    | 3 =>
      obtain ⟨c, k, comp, h1, h2, h3⟩ := Cond.arrayClass_spec (hts (Cond.arrayClass .boolean) (ztb_of 267 (by decide +kernel) rfl))
      exact ⟨c, fun ty hq => by
        rw [show zty[3]? = some .boolean from rfl] at hq
        cases hq
        exact ⟨fun n z => ⟨(fun _ h => by cases h), k, h2, comp, h3⟩, h1⟩⟩
    | 4 =>
      obtain ⟨c, k, comp, h1, h2, h3⟩ := Cond.arrayClass_spec (hts (Cond.arrayClass .char) (ztb_of 888 (by decide +kernel) rfl))
      exact ⟨c, fun ty hq => by
        rw [show zty[4]? = some .char from rfl] at hq
        cases hq
        exact ⟨fun n z => ⟨(fun _ h => by cases h), k, h2, comp, h3⟩, h1⟩⟩
    | 5 =>
      obtain ⟨c, k, comp, h1, h2, h3⟩ := Cond.arrayClass_spec (hts (Cond.arrayClass .short) (ztb_of 1292 (by decide +kernel) rfl))
      exact ⟨c, fun ty hq => by
        rw [show zty[5]? = some .short from rfl] at hq
        cases hq
        exact ⟨fun n z => ⟨(fun _ h => by cases h), k, h2, comp, h3⟩, h1⟩⟩
    | 6 =>
      obtain ⟨c, h⟩ := st_obj (hts (Cond.arrayOver (.object "NumberOffice$Branch")) (ztb_of 89 (by decide +kernel) rfl))
      exact ⟨c, fun ty hq => by
        rw [show zty[6]? = some (.object "NumberOffice$Branch") from rfl] at hq
        cases hq
        exact h⟩
    | 7 =>
      obtain ⟨c, h⟩ := st_obj (hts (Cond.arrayOver (.object "NumberOffice$BranchSeries")) (ztb_of 99 (by decide +kernel) rfl))
      exact ⟨c, fun ty hq => by
        rw [show zty[7]? = some (.object "NumberOffice$BranchSeries") from rfl] at hq
        cases hq
        exact h⟩
    | 8 =>
      obtain ⟨c, h⟩ := st_obj (hts (Cond.arrayOver (.object "NumberOffice$SeriesBook")) (ztb_of 208 (by decide +kernel) rfl))
      exact ⟨c, fun ty hq => by
        rw [show zty[8]? = some (.object "NumberOffice$SeriesBook") from rfl] at hq
        cases hq
        exact h⟩
    | 9 =>
      obtain ⟨c, h⟩ := st_obj (hts (Cond.arrayOver (.object "NumberOffice$Answer")) (ztb_of 246 (by decide +kernel) rfl))
      exact ⟨c, fun ty hq => by
        rw [show zty[9]? = some (.object "NumberOffice$Answer") from rfl] at hq
        cases hq
        exact h⟩
    | 10 =>
      obtain ⟨c, h⟩ := st_obj (hts (Cond.arrayOver (.object "java/lang/Object")) (ztb_of 359 (by decide +kernel) rfl))
      exact ⟨c, fun ty hq => by
        rw [show zty[10]? = some (.object "java/lang/Object") from rfl] at hq
        cases hq
        exact h⟩
    | 11 =>
      obtain ⟨c, h⟩ := st_obj (hts (Cond.arrayOver (.object "NumberOffice$Event")) (ztb_of 700 (by decide +kernel) rfl))
      exact ⟨c, fun ty hq => by
        rw [show zty[11]? = some (.object "NumberOffice$Event") from rfl] at hq
        cases hq
        exact h⟩
    | n + 12 => exact ⟨0, fun ty hq => by cases hq⟩
  obtain ⟨f, hf⟩ := Classical.axiomOfChoice h
  exact ⟨f, hf⟩
theorem st_stat {C n d : String} {v : Value} (hl : (Cond.laysStatic C n d).before args s = true) (hini : (Cond.initialized C).before args s = true) (hv : (Term.static C n d).eval args s none [] s = some v) : ∃ (b : Nat) (cell : Cell), s.heap[b]? = some cell ∧ cell.vm.isStatics = true ∧ ∀ D : zD, (b, cell) ∈ D.2.2.2.1 → zSt D (C, n, d, v) s := by
  obtain ⟨c, k, i, f, a, cell, hc, hi, hst, ha, hcell, hs, hcls, hlt, hty⟩ := Cond.laysStatic_spec hl
  obtain ⟨hst', a', cell', ha', hcell', -, hslot⟩ := Term.static_spec hi hv
  cases ha.symm.trans ha'
  cases hcell.symm.trans hcell'
  have hk := (State.fieldFound?_spec hi).1
  exact ⟨a, cell, hcell, hs, fun D hm => ⟨c, k, i, f, a, cell, hi, hst, Cond.initialized_spec hc hk hini, ha, hm, hs, hslot, hc, hcls, hty⟩⟩
theorem st_ref {t : Term} (h : (Cond.isRef t).before args s = true) : ∃ r : Option Nat, t.eval args s none [] s = some (va_rf r) := by
  cases hv : t.eval args s none [] s with
  | none => simp [Cond.before, Cond.holds, Cond.value, hv] at h
  | some w =>
    simp only [Cond.before, Cond.holds, Cond.value, hv] at h
    cases w with
    | null => exact ⟨none, rfl⟩
    | ref t => exact ⟨some t, rfl⟩
    | _ => simp at h
theorem st_ns {x : VmData} (h : ∀ k, x ≠ .statics k) : x.isStatics = false := by
  cases x <;> first | rfl | exact absurd rfl (h _)
/-- what an old cell holds, by its kind: ints, bytes, references, a text -/
def roZ (cell : Cell) : Nat := (Int32.ofNat cell.slots.size).toNatClampNeg
def roI (cell : Cell) (j : Nat) : Int32 := match cell.slots[j]? with
  | some (.int x) => x
  | _ => 0
def roY (dI : Nat → Nat → Nat) (k : Nat) (cell : Cell) : zY := if k = 0 then .inl (0, roZ cell, .inl (roI cell)) else if k = 2 then .inl (2, roZ cell, .inl (roI cell)) else if k = 10 then .inl (10, roZ cell, .inr (.inr (.inr (.inr (fun _ => none))))) else .inr (13, [(cell.slots[dI 13 0]?).getD .null, (cell.slots[dI 13 1]?).getD .null, (cell.slots[dI 13 2]?).getD .null, (cell.slots[dI 13 3]?).getD .null])
def roK (s : State) (k : Nat) (cell : Cell) : Prop := (k = 0 ∧ s.isArrayOf cell .int) ∨ (k = 2 ∧ s.isArrayOf cell .byte) ∨ (k = 10 ∧ s.isArrayOf cell (.object "java/lang/Object")) ∨ (k = 13 ∧ ClassAt s "java/lang/String" cell.cls)
theorem arr_one {cell : Cell} {t1 t2 : FieldType} (h1 : s.isArrayOf cell t1) (h2 : s.isArrayOf cell t2) : t1 = t2 := by
  obtain ⟨-, k1, e1, c1, q1⟩ := h1
  obtain ⟨-, k2, e2, c2, q2⟩ := h2
  cases e1.symm.trans e2
  rw [q1] at q2
  cases q2
  rfl
theorem arr_no {cell : Cell} {t : FieldType} {C : String} (h1 : s.isArrayOf cell t) (h2 : ClassAt s C cell.cls) : False := by
  obtain ⟨-, k1, e1, c1, q1⟩ := h1
  obtain ⟨-, k2, e2, q2⟩ := h2
  cases e1.symm.trans e2
  rw [q1] at q2
  cases q2
theorem roK_one {k1 k2 : Nat} {cell : Cell} (h1 : roK s k1 cell) (h2 : roK s k2 cell) : k1 = k2 := by
  rcases h1 with ⟨rfl, h1⟩ | ⟨rfl, h1⟩ | ⟨rfl, h1⟩ | ⟨rfl, h1⟩ <;> rcases h2 with ⟨rfl, h2⟩ | ⟨rfl, h2⟩ | ⟨rfl, h2⟩ | ⟨rfl, h2⟩ <;> first | rfl | exact absurd (arr_one h1 h2) (by decide) | exact (arr_no h1 h2).elim | exact (arr_no h2 h1).elim
theorem roZ_of {cell : Cell} {N : Nat} (hN : N < 2147483648) (h : cell.slots.size.toInt32 = Int32.ofNat N) : roZ cell = N := by
  unfold roZ
  rw [show Int32.ofNat cell.slots.size = Int32.ofNat N from h]
  exact Int32.toNatClampNeg_ofNat_of_lt hN
/-- an old cell, and that it may be read -/
def roE (s : State) (d : va_G) (q : Nat × Cell × Nat) : Prop := s.heap[q.1]? = some q.2.1 ∧ roK s q.2.2 q.2.1 ∧ q.2.1.vm.isStatics = false ∧ ∀ D : zD, D.1 = d → zRo D s q.2.1 (roY d.2 q.2.2 q.2.1)
theorem roE_bytes {d : va_G} {a N : Nat} {cell : Cell} {k : Nat} {ty : FieldType} {f : Nat → Int32} (hk : (k = 0 ∧ ty = .int) ∨ (k = 2 ∧ ty = .byte)) (h1 : s.heap[a]? = some cell) (h2 : s.isArrayOf cell ty) (h3 : cell.vm ≠ .unknown) (hN : N < 2147483648) (h4 : N ≤ cell.slots.size) (h5 : cell.slots.size.toInt32 = Int32.ofNat N) (h6 : ∀ j : Nat, j < N → cell.slots[j]? = some (.int (f j))) : roE s d (a, cell, k) := by
  have hz := roZ_of hN h5
  rcases hk with ⟨rfl, rfl⟩ | ⟨rfl, rfl⟩
  · refine ⟨h1, Or.inl ⟨rfl, h2⟩, st_ns h2.1, fun D _ => ⟨.int, rfl, h2, h3, ⟨?_, ?_⟩, fun j hj => ?_⟩⟩
    · show roZ cell ≤ _; rw [hz]; exact h4
    · show _ = Int32.ofNat (roZ cell); rw [hz]; exact h5
    · have hj : j < roZ cell := hj
      rw [hz] at hj
      show _ = some (Value.int (roI cell j))
      unfold roI
      rw [h6 j hj]
  · refine ⟨h1, Or.inr (Or.inl ⟨rfl, h2⟩), st_ns h2.1, fun D _ => ⟨.byte, rfl, h2, h3, ⟨?_, ?_⟩, fun j hj => ?_⟩⟩
    · show roZ cell ≤ _; rw [hz]; exact h4
    · show _ = Int32.ofNat (roZ cell); rw [hz]; exact h5
    · have hj : j < roZ cell := hj
      rw [hz] at hj
      show _ = some (Value.int (roI cell j))
      unfold roI
      rw [h6 j hj]
theorem roE_refs {d : va_G} {a : Nat} {cell : Cell} (h1 : s.heap[a]? = some cell) (h2 : s.isArrayOf cell (.object "java/lang/Object")) (h3 : cell.vm ≠ .unknown) (h5 : cell.slots.size.toInt32 = Int32.ofNat 0) : roE s d (a, cell, 10) := by
  have hz := roZ_of (N := 0) (by decide) h5
  refine ⟨h1, Or.inr (Or.inr (Or.inl ⟨rfl, h2⟩)), st_ns h2.1, fun D _ => ⟨.object "java/lang/Object", rfl, h2, h3, ⟨?_, ?_⟩, fun j hj => ?_⟩⟩
  · show roZ cell ≤ _; rw [hz]; exact Nat.zero_le _
  · show _ = Int32.ofNat (roZ cell); rw [hz]; exact h5
  · have hj : j < roZ cell := hj
    rw [hz] at hj
    exact absurd hj (Nat.not_lt_zero _)
theorem st_string {d : va_G} {A : Nat → Prop} (hts : ∀ w ∈ ztb, w.before args s = true) (hK : va_K d zcl [] s) {t : Term} {a v : Nat} (hex : (Cond.exactly t "java/lang/String").before args s = true) (ht : t.eval args s none [] s = some (.ref a)) (hco : va_OF "java/lang/String" "coder" "B" (.int 0) a A s s.heap) (hva : va_OF "java/lang/String" "value" "[B" (.ref v) a A s s.heap) :
    ∃ (cell : Cell) (v2 v3 : Value), roE s d (a, cell, 13) ∧ roY d.2 13 cell = .inr (13, [.ref v, .int 0, v2, v3]) := by
  obtain ⟨a2, c, cell, k, q1, q2, q3, q4, q5, q6, q7⟩ := Cond.exactly_spec (args := args) (first := s) (o := none) (s := s) (idx := []) hex
  cases ht.symm.trans q1
  have hKn := hK.1 13 (zR_String, zF_String, 4) rfl
  obtain ⟨hfc, kC, hkC, hord⟩ := hKn.2
  cases q2.symm.trans hfc
  cases q4.symm.trans hkC
  have hsz := q7 hord
  obtain ⟨c1, k1, i1, f1, cell1, g1, g2, g3, g4, g5, -⟩ := hco
  cases q3.symm.trans g3
  obtain ⟨c2, k2, i2, f2, cell2, e1, e2, e3, e4, e5, -⟩ := hva
  cases q3.symm.trans e3
  obtain ⟨cf0, kf0, fi0, ff0, x0, y0⟩ := hKn.1 0 (by decide)
  obtain ⟨cf1, kf1, fi1, ff1, x1, y1⟩ := hKn.1 1 (by decide)
  obtain ⟨cf2, kf2, fi2, ff2, x2, y2⟩ := hKn.1 2 (by decide)
  obtain ⟨cf3, kf3, fi3, ff3, x3, y3⟩ := hKn.1 3 (by decide)
  have p0 : cell.slots[d.2 13 0]? = some (.ref v) := by
    cases e1.symm.trans x0
    rw [← y0]
    exact e5
  have p1 : cell.slots[d.2 13 1]? = some (.int 0) := by
    cases g1.symm.trans x1
    rw [← y1]
    exact g5
  have p2 : ∃ v2, cell.slots[d.2 13 2]? = some v2 := by
    have hl := (Cond.laysAt hfc hkC x2 (hts (Cond.lays "java/lang/String" "java/lang/String" "hash" "I") (ztb_of 1104 (by decide +kernel) rfl))).1
    have hlt := (Array.getElem?_eq_some_iff.mp hl).1
    rw [← y2]
    exact ⟨_, Array.getElem?_eq_getElem (by rw [hsz]; exact hlt)⟩
  have p3 : ∃ v3, cell.slots[d.2 13 3]? = some v3 := by
    have hl := (Cond.laysAt hfc hkC x3 (hts (Cond.lays "java/lang/String" "java/lang/String" "hashIsZero" "Z") (ztb_of 1106 (by decide +kernel) rfl))).1
    have hlt := (Array.getElem?_eq_some_iff.mp hl).1
    rw [← y3]
    exact ⟨_, Array.getElem?_eq_getElem (by rw [hsz]; exact hlt)⟩
  obtain ⟨v2, p2⟩ := p2
  obtain ⟨v3, p3⟩ := p3
  have hy : roY d.2 13 cell = .inr (13, [.ref v, .int 0, v2, v3]) := by
    simp [roY, p0, p1, p2, p3]
  refine ⟨cell, v2, v3, ⟨q3, Or.inr (Or.inr (Or.inr ⟨rfl, by rw [q6]; exact hKn.2⟩)), q5, fun D hD => ?_⟩, hy⟩
  show zRo D s cell (roY d.2 13 cell)
  rw [hy]
  refine ⟨(zR_String, zF_String, 4), rfl, q5, g4, by rw [q6]; exact hfc, fun k hk => ?_⟩
  have hk4 : k < 4 := hk
  show cell.slots[D.1.2 13 k]? = _
  rw [hD]
  match k, hk4 with
  | 0, _ => exact p0
  | 1, _ => exact p1
  | 2, _ => exact p2
  | 3, _ => exact p3
end START
/-! the world of the start -/
def roW (sz : Nat) (L : List (Nat × zY)) : zS := (sz, 0, fun a => (L.find? (fun q => q.1 == a)).map (fun q => (false, q.2)))
theorem roW_some {sz a : Nat} {L : List (Nat × zY)} {x : zE} (h : (roW sz L).2.2 a = some x) : ∃ y, x = (false, y) ∧ (a, y) ∈ L := by
  have h : (L.find? (fun q => q.1 == a)).map (fun q => (false, q.2)) = some x := h
  cases hf : L.find? (fun q => q.1 == a) with
  | none => rw [hf] at h; cases h
  | some q =>
    rw [hf] at h
    have h2 := List.find?_some hf
    have h3 := List.mem_of_find?_eq_some hf
    have h4 : q.1 = a := by simpa using h2
    cases h
    exact ⟨q.2, rfl, by rw [← h4]; exact h3⟩
theorem roW_at {sz a : Nat} {L : List (Nat × zY)} {y : zY} (hu : ∀ p ∈ L, ∀ q ∈ L, p.1 = q.1 → p.2 = q.2) (h : (a, y) ∈ L) : (roW sz L).2.2 a = some (false, y) := by
  cases hf : L.find? (fun q => q.1 == a) with
  | none =>
    have h2 := List.find?_eq_none.mp hf _ h
    simp at h2
  | some q =>
    have h2 := List.find?_some hf
    have h3 := List.mem_of_find?_eq_some hf
    have h4 : q.1 = a := by simpa using h2
    have h5 : q.2 = y := hu q h3 (a, y) h h4
    show (L.find? (fun q => q.1 == a)).map (fun q => (false, q.2)) = some (false, y)
    rw [hf]
    show some (false, q.2) = _
    rw [h5]

def stT (i : Nat) : Term := match i with
  | 0 => .string "NumberOffice$SeriesBook" 29
  | 1 => .string "NumberOffice" 207
  | 2 => .string "NumberOffice$ListText" 63
  | 3 => .string "NumberOffice$ListText" 65
  | 4 => .string "NumberOffice$ListText" 67
  | _ => .string "NumberOffice$ListText" 40
def stL : List Nat := [0, 17, 3, 3, 2, 2]
def stB : List (List Int32) := [[], [116, 104, 105, 115, 32, 115, 105, 100, 101, 32, 105, 115, 32, 100, 111, 119, 110], [32, 85, 32], [32, 86, 32], [32, 76], [84, 32]]
theorem stx0 : (Cond.exactly (.string "NumberOffice$SeriesBook" 29) "java/lang/String") ∈ flatC (Jvm.Cond.and given_1 narrow_1) := by decide +kernel
theorem stc0 : (Cond.eq (.field (.string "NumberOffice$SeriesBook" 29) "java/lang/String" "coder" "B") (.int 0)) ∈ flatC (Jvm.Cond.and given_1 narrow_1) := by decide +kernel
theorem sta0 : (Cond.arrayOf (.field (.string "NumberOffice$SeriesBook" 29) "java/lang/String" "value" "[B") .byte) ∈ flatC (Jvm.Cond.and given_1 narrow_1) := by decide +kernel
theorem stl0 : (Cond.eq (.length (.field (.string "NumberOffice$SeriesBook" 29) "java/lang/String" "value" "[B")) (.int 0)) ∈ flatC (Jvm.Cond.and given_1 narrow_1) := by decide +kernel
theorem stx1 : (Cond.exactly (.string "NumberOffice" 207) "java/lang/String") ∈ flatC (Jvm.Cond.and given_1 narrow_1) := by decide +kernel
theorem stc1 : (Cond.eq (.field (.string "NumberOffice" 207) "java/lang/String" "coder" "B") (.int 0)) ∈ flatC (Jvm.Cond.and given_1 narrow_1) := by decide +kernel
theorem sta1 : (Cond.arrayOf (.field (.string "NumberOffice" 207) "java/lang/String" "value" "[B") .byte) ∈ flatC (Jvm.Cond.and given_1 narrow_1) := by decide +kernel
theorem stl1 : (Cond.eq (.length (.field (.string "NumberOffice" 207) "java/lang/String" "value" "[B")) (.int 17)) ∈ flatC (Jvm.Cond.and given_1 narrow_1) := by decide +kernel
theorem ste1_0 : (Cond.eq (.elem (.field (.string "NumberOffice" 207) "java/lang/String" "value" "[B") (.int 0)) (.int 116)) ∈ flatC (Jvm.Cond.and given_1 narrow_1) := by decide +kernel
theorem ste1_1 : (Cond.eq (.elem (.field (.string "NumberOffice" 207) "java/lang/String" "value" "[B") (.int 1)) (.int 104)) ∈ flatC (Jvm.Cond.and given_1 narrow_1) := by decide +kernel
theorem ste1_2 : (Cond.eq (.elem (.field (.string "NumberOffice" 207) "java/lang/String" "value" "[B") (.int 2)) (.int 105)) ∈ flatC (Jvm.Cond.and given_1 narrow_1) := by decide +kernel
theorem ste1_3 : (Cond.eq (.elem (.field (.string "NumberOffice" 207) "java/lang/String" "value" "[B") (.int 3)) (.int 115)) ∈ flatC (Jvm.Cond.and given_1 narrow_1) := by decide +kernel
theorem ste1_4 : (Cond.eq (.elem (.field (.string "NumberOffice" 207) "java/lang/String" "value" "[B") (.int 4)) (.int 32)) ∈ flatC (Jvm.Cond.and given_1 narrow_1) := by decide +kernel
theorem ste1_5 : (Cond.eq (.elem (.field (.string "NumberOffice" 207) "java/lang/String" "value" "[B") (.int 5)) (.int 115)) ∈ flatC (Jvm.Cond.and given_1 narrow_1) := by decide +kernel
theorem ste1_6 : (Cond.eq (.elem (.field (.string "NumberOffice" 207) "java/lang/String" "value" "[B") (.int 6)) (.int 105)) ∈ flatC (Jvm.Cond.and given_1 narrow_1) := by decide +kernel
theorem ste1_7 : (Cond.eq (.elem (.field (.string "NumberOffice" 207) "java/lang/String" "value" "[B") (.int 7)) (.int 100)) ∈ flatC (Jvm.Cond.and given_1 narrow_1) := by decide +kernel
theorem ste1_8 : (Cond.eq (.elem (.field (.string "NumberOffice" 207) "java/lang/String" "value" "[B") (.int 8)) (.int 101)) ∈ flatC (Jvm.Cond.and given_1 narrow_1) := by decide +kernel
theorem ste1_9 : (Cond.eq (.elem (.field (.string "NumberOffice" 207) "java/lang/String" "value" "[B") (.int 9)) (.int 32)) ∈ flatC (Jvm.Cond.and given_1 narrow_1) := by decide +kernel
theorem ste1_10 : (Cond.eq (.elem (.field (.string "NumberOffice" 207) "java/lang/String" "value" "[B") (.int 10)) (.int 105)) ∈ flatC (Jvm.Cond.and given_1 narrow_1) := by decide +kernel
theorem ste1_11 : (Cond.eq (.elem (.field (.string "NumberOffice" 207) "java/lang/String" "value" "[B") (.int 11)) (.int 115)) ∈ flatC (Jvm.Cond.and given_1 narrow_1) := by decide +kernel
theorem ste1_12 : (Cond.eq (.elem (.field (.string "NumberOffice" 207) "java/lang/String" "value" "[B") (.int 12)) (.int 32)) ∈ flatC (Jvm.Cond.and given_1 narrow_1) := by decide +kernel
theorem ste1_13 : (Cond.eq (.elem (.field (.string "NumberOffice" 207) "java/lang/String" "value" "[B") (.int 13)) (.int 100)) ∈ flatC (Jvm.Cond.and given_1 narrow_1) := by decide +kernel
theorem ste1_14 : (Cond.eq (.elem (.field (.string "NumberOffice" 207) "java/lang/String" "value" "[B") (.int 14)) (.int 111)) ∈ flatC (Jvm.Cond.and given_1 narrow_1) := by decide +kernel
theorem ste1_15 : (Cond.eq (.elem (.field (.string "NumberOffice" 207) "java/lang/String" "value" "[B") (.int 15)) (.int 119)) ∈ flatC (Jvm.Cond.and given_1 narrow_1) := by decide +kernel
theorem ste1_16 : (Cond.eq (.elem (.field (.string "NumberOffice" 207) "java/lang/String" "value" "[B") (.int 16)) (.int 110)) ∈ flatC (Jvm.Cond.and given_1 narrow_1) := by decide +kernel
theorem stn0_1 : (Cond.not (Cond.eq (.string "NumberOffice$SeriesBook" 29) (.string "NumberOffice" 207))) ∈ flatC (Jvm.Cond.and given_1 narrow_1) := by decide +kernel
theorem stx2 : (Cond.exactly (.string "NumberOffice$ListText" 63) "java/lang/String") ∈ flatC (Jvm.Cond.and given_1 narrow_1) := by decide +kernel
theorem stc2 : (Cond.eq (.field (.string "NumberOffice$ListText" 63) "java/lang/String" "coder" "B") (.int 0)) ∈ flatC (Jvm.Cond.and given_1 narrow_1) := by decide +kernel
theorem sta2 : (Cond.arrayOf (.field (.string "NumberOffice$ListText" 63) "java/lang/String" "value" "[B") .byte) ∈ flatC (Jvm.Cond.and given_1 narrow_1) := by decide +kernel
theorem stl2 : (Cond.eq (.length (.field (.string "NumberOffice$ListText" 63) "java/lang/String" "value" "[B")) (.int 3)) ∈ flatC (Jvm.Cond.and given_1 narrow_1) := by decide +kernel
theorem ste2_0 : (Cond.eq (.elem (.field (.string "NumberOffice$ListText" 63) "java/lang/String" "value" "[B") (.int 0)) (.int 32)) ∈ flatC (Jvm.Cond.and given_1 narrow_1) := by decide +kernel
theorem ste2_1 : (Cond.eq (.elem (.field (.string "NumberOffice$ListText" 63) "java/lang/String" "value" "[B") (.int 1)) (.int 85)) ∈ flatC (Jvm.Cond.and given_1 narrow_1) := by decide +kernel
theorem ste2_2 : (Cond.eq (.elem (.field (.string "NumberOffice$ListText" 63) "java/lang/String" "value" "[B") (.int 2)) (.int 32)) ∈ flatC (Jvm.Cond.and given_1 narrow_1) := by decide +kernel
theorem stn0_2 : (Cond.not (Cond.eq (.string "NumberOffice$SeriesBook" 29) (.string "NumberOffice$ListText" 63))) ∈ flatC (Jvm.Cond.and given_1 narrow_1) := by decide +kernel
theorem stn1_2 : (Cond.not (Cond.eq (.string "NumberOffice" 207) (.string "NumberOffice$ListText" 63))) ∈ flatC (Jvm.Cond.and given_1 narrow_1) := by decide +kernel
theorem stx3 : (Cond.exactly (.string "NumberOffice$ListText" 65) "java/lang/String") ∈ flatC (Jvm.Cond.and given_1 narrow_1) := by decide +kernel
theorem stc3 : (Cond.eq (.field (.string "NumberOffice$ListText" 65) "java/lang/String" "coder" "B") (.int 0)) ∈ flatC (Jvm.Cond.and given_1 narrow_1) := by decide +kernel
theorem sta3 : (Cond.arrayOf (.field (.string "NumberOffice$ListText" 65) "java/lang/String" "value" "[B") .byte) ∈ flatC (Jvm.Cond.and given_1 narrow_1) := by decide +kernel
theorem stl3 : (Cond.eq (.length (.field (.string "NumberOffice$ListText" 65) "java/lang/String" "value" "[B")) (.int 3)) ∈ flatC (Jvm.Cond.and given_1 narrow_1) := by decide +kernel
theorem ste3_0 : (Cond.eq (.elem (.field (.string "NumberOffice$ListText" 65) "java/lang/String" "value" "[B") (.int 0)) (.int 32)) ∈ flatC (Jvm.Cond.and given_1 narrow_1) := by decide +kernel
theorem ste3_1 : (Cond.eq (.elem (.field (.string "NumberOffice$ListText" 65) "java/lang/String" "value" "[B") (.int 1)) (.int 86)) ∈ flatC (Jvm.Cond.and given_1 narrow_1) := by decide +kernel
theorem ste3_2 : (Cond.eq (.elem (.field (.string "NumberOffice$ListText" 65) "java/lang/String" "value" "[B") (.int 2)) (.int 32)) ∈ flatC (Jvm.Cond.and given_1 narrow_1) := by decide +kernel
theorem stn0_3 : (Cond.not (Cond.eq (.string "NumberOffice$SeriesBook" 29) (.string "NumberOffice$ListText" 65))) ∈ flatC (Jvm.Cond.and given_1 narrow_1) := by decide +kernel
theorem stn1_3 : (Cond.not (Cond.eq (.string "NumberOffice" 207) (.string "NumberOffice$ListText" 65))) ∈ flatC (Jvm.Cond.and given_1 narrow_1) := by decide +kernel
theorem stn2_3 : (Cond.not (Cond.eq (.string "NumberOffice$ListText" 63) (.string "NumberOffice$ListText" 65))) ∈ flatC (Jvm.Cond.and given_1 narrow_1) := by decide +kernel
theorem stx4 : (Cond.exactly (.string "NumberOffice$ListText" 67) "java/lang/String") ∈ flatC (Jvm.Cond.and given_1 narrow_1) := by decide +kernel
theorem stc4 : (Cond.eq (.field (.string "NumberOffice$ListText" 67) "java/lang/String" "coder" "B") (.int 0)) ∈ flatC (Jvm.Cond.and given_1 narrow_1) := by decide +kernel
theorem sta4 : (Cond.arrayOf (.field (.string "NumberOffice$ListText" 67) "java/lang/String" "value" "[B") .byte) ∈ flatC (Jvm.Cond.and given_1 narrow_1) := by decide +kernel
theorem stl4 : (Cond.eq (.length (.field (.string "NumberOffice$ListText" 67) "java/lang/String" "value" "[B")) (.int 2)) ∈ flatC (Jvm.Cond.and given_1 narrow_1) := by decide +kernel
theorem ste4_0 : (Cond.eq (.elem (.field (.string "NumberOffice$ListText" 67) "java/lang/String" "value" "[B") (.int 0)) (.int 32)) ∈ flatC (Jvm.Cond.and given_1 narrow_1) := by decide +kernel
theorem ste4_1 : (Cond.eq (.elem (.field (.string "NumberOffice$ListText" 67) "java/lang/String" "value" "[B") (.int 1)) (.int 76)) ∈ flatC (Jvm.Cond.and given_1 narrow_1) := by decide +kernel
theorem stn0_4 : (Cond.not (Cond.eq (.string "NumberOffice$SeriesBook" 29) (.string "NumberOffice$ListText" 67))) ∈ flatC (Jvm.Cond.and given_1 narrow_1) := by decide +kernel
theorem stn1_4 : (Cond.not (Cond.eq (.string "NumberOffice" 207) (.string "NumberOffice$ListText" 67))) ∈ flatC (Jvm.Cond.and given_1 narrow_1) := by decide +kernel
theorem stn2_4 : (Cond.not (Cond.eq (.string "NumberOffice$ListText" 63) (.string "NumberOffice$ListText" 67))) ∈ flatC (Jvm.Cond.and given_1 narrow_1) := by decide +kernel
theorem stn3_4 : (Cond.not (Cond.eq (.string "NumberOffice$ListText" 65) (.string "NumberOffice$ListText" 67))) ∈ flatC (Jvm.Cond.and given_1 narrow_1) := by decide +kernel
theorem stx5 : (Cond.exactly (.string "NumberOffice$ListText" 40) "java/lang/String") ∈ flatC (Jvm.Cond.and given_1 narrow_1) := by decide +kernel
theorem stc5 : (Cond.eq (.field (.string "NumberOffice$ListText" 40) "java/lang/String" "coder" "B") (.int 0)) ∈ flatC (Jvm.Cond.and given_1 narrow_1) := by decide +kernel
theorem sta5 : (Cond.arrayOf (.field (.string "NumberOffice$ListText" 40) "java/lang/String" "value" "[B") .byte) ∈ flatC (Jvm.Cond.and given_1 narrow_1) := by decide +kernel
theorem stl5 : (Cond.eq (.length (.field (.string "NumberOffice$ListText" 40) "java/lang/String" "value" "[B")) (.int 2)) ∈ flatC (Jvm.Cond.and given_1 narrow_1) := by decide +kernel
theorem ste5_0 : (Cond.eq (.elem (.field (.string "NumberOffice$ListText" 40) "java/lang/String" "value" "[B") (.int 0)) (.int 84)) ∈ flatC (Jvm.Cond.and given_1 narrow_1) := by decide +kernel
theorem ste5_1 : (Cond.eq (.elem (.field (.string "NumberOffice$ListText" 40) "java/lang/String" "value" "[B") (.int 1)) (.int 32)) ∈ flatC (Jvm.Cond.and given_1 narrow_1) := by decide +kernel
theorem stn0_5 : (Cond.not (Cond.eq (.string "NumberOffice$SeriesBook" 29) (.string "NumberOffice$ListText" 40))) ∈ flatC (Jvm.Cond.and given_1 narrow_1) := by decide +kernel
theorem stn1_5 : (Cond.not (Cond.eq (.string "NumberOffice" 207) (.string "NumberOffice$ListText" 40))) ∈ flatC (Jvm.Cond.and given_1 narrow_1) := by decide +kernel
theorem stn2_5 : (Cond.not (Cond.eq (.string "NumberOffice$ListText" 63) (.string "NumberOffice$ListText" 40))) ∈ flatC (Jvm.Cond.and given_1 narrow_1) := by decide +kernel
theorem stn3_5 : (Cond.not (Cond.eq (.string "NumberOffice$ListText" 65) (.string "NumberOffice$ListText" 40))) ∈ flatC (Jvm.Cond.and given_1 narrow_1) := by decide +kernel
theorem stn4_5 : (Cond.not (Cond.eq (.string "NumberOffice$ListText" 67) (.string "NumberOffice$ListText" 40))) ∈ flatC (Jvm.Cond.and given_1 narrow_1) := by decide +kernel
theorem st_texts {s : State} {args : Array Value} (hs : ∀ c ∈ flatC (Jvm.Cond.and given_1 narrow_1), c.before args s = true) : ∃ adK adV : Nat → Nat, vk_S 6 stL stB adK adV (fun q => s.heap.size ≤ q) s s.heap ∧ ∀ i : Nat, i < 6 → (stT i).eval args s none [] s = some (.ref (adK i)) := by
  refine vk_Sof (tm := stT) (fun i hi => ?_) (fun i hi => ?_) (fun i hi => ?_) (fun i hi => ?_) (fun i hi => ?_) (fun i hi => ?_) (fun i j hi hj hij => ?_) (fun a h1 h2 => absurd h2 (Nat.not_le.mpr h1))
  · match i, hi with
    | 0, _ => decide
    | 1, _ => decide
    | 2, _ => decide
    | 3, _ => decide
    | 4, _ => decide
    | 5, _ => decide
  · match i, hi with
    | 0, _ => exact hs _ stx0
    | 1, _ => exact hs _ stx1
    | 2, _ => exact hs _ stx2
    | 3, _ => exact hs _ stx3
    | 4, _ => exact hs _ stx4
    | 5, _ => exact hs _ stx5
  · match i, hi with
    | 0, _ => exact hs _ stc0
    | 1, _ => exact hs _ stc1
    | 2, _ => exact hs _ stc2
    | 3, _ => exact hs _ stc3
    | 4, _ => exact hs _ stc4
    | 5, _ => exact hs _ stc5
  · match i, hi with
    | 0, _ => exact hs _ sta0
    | 1, _ => exact hs _ sta1
    | 2, _ => exact hs _ sta2
    | 3, _ => exact hs _ sta3
    | 4, _ => exact hs _ sta4
    | 5, _ => exact hs _ sta5
  · match i, hi with
    | 0, _ => exact hs _ stl0
    | 1, _ => exact hs _ stl1
    | 2, _ => exact hs _ stl2
    | 3, _ => exact hs _ stl3
    | 4, _ => exact hs _ stl4
    | 5, _ => exact hs _ stl5
  · intro j hj
    match i, hi, j, hj with
    | 0, _, n + 0, hj => exact absurd (show n + 0 < 0 from hj) (by omega)
    | 1, _, 0, _ => exact hs _ ste1_0
    | 1, _, 1, _ => exact hs _ ste1_1
    | 1, _, 2, _ => exact hs _ ste1_2
    | 1, _, 3, _ => exact hs _ ste1_3
    | 1, _, 4, _ => exact hs _ ste1_4
    | 1, _, 5, _ => exact hs _ ste1_5
    | 1, _, 6, _ => exact hs _ ste1_6
    | 1, _, 7, _ => exact hs _ ste1_7
    | 1, _, 8, _ => exact hs _ ste1_8
    | 1, _, 9, _ => exact hs _ ste1_9
    | 1, _, 10, _ => exact hs _ ste1_10
    | 1, _, 11, _ => exact hs _ ste1_11
    | 1, _, 12, _ => exact hs _ ste1_12
    | 1, _, 13, _ => exact hs _ ste1_13
    | 1, _, 14, _ => exact hs _ ste1_14
    | 1, _, 15, _ => exact hs _ ste1_15
    | 1, _, 16, _ => exact hs _ ste1_16
    | 1, _, n + 17, hj => exact absurd (show n + 17 < 17 from hj) (by omega)
    | 2, _, 0, _ => exact hs _ ste2_0
    | 2, _, 1, _ => exact hs _ ste2_1
    | 2, _, 2, _ => exact hs _ ste2_2
    | 2, _, n + 3, hj => exact absurd (show n + 3 < 3 from hj) (by omega)
    | 3, _, 0, _ => exact hs _ ste3_0
    | 3, _, 1, _ => exact hs _ ste3_1
    | 3, _, 2, _ => exact hs _ ste3_2
    | 3, _, n + 3, hj => exact absurd (show n + 3 < 3 from hj) (by omega)
    | 4, _, 0, _ => exact hs _ ste4_0
    | 4, _, 1, _ => exact hs _ ste4_1
    | 4, _, n + 2, hj => exact absurd (show n + 2 < 2 from hj) (by omega)
    | 5, _, 0, _ => exact hs _ ste5_0
    | 5, _, 1, _ => exact hs _ ste5_1
    | 5, _, n + 2, hj => exact absurd (show n + 2 < 2 from hj) (by omega)
  · match i, j, hi, hj, hij with
    | 0, 0, _, _, h => exact absurd rfl h
    | 0, 1, _, _, _ => exact Or.inl (hs _ stn0_1)
    | 0, 2, _, _, _ => exact Or.inl (hs _ stn0_2)
    | 0, 3, _, _, _ => exact Or.inl (hs _ stn0_3)
    | 0, 4, _, _, _ => exact Or.inl (hs _ stn0_4)
    | 0, 5, _, _, _ => exact Or.inl (hs _ stn0_5)
    | 1, 0, _, _, _ => exact Or.inr (hs _ stn0_1)
    | 1, 1, _, _, h => exact absurd rfl h
    | 1, 2, _, _, _ => exact Or.inl (hs _ stn1_2)
    | 1, 3, _, _, _ => exact Or.inl (hs _ stn1_3)
    | 1, 4, _, _, _ => exact Or.inl (hs _ stn1_4)
    | 1, 5, _, _, _ => exact Or.inl (hs _ stn1_5)
    | 2, 0, _, _, _ => exact Or.inr (hs _ stn0_2)
    | 2, 1, _, _, _ => exact Or.inr (hs _ stn1_2)
    | 2, 2, _, _, h => exact absurd rfl h
    | 2, 3, _, _, _ => exact Or.inl (hs _ stn2_3)
    | 2, 4, _, _, _ => exact Or.inl (hs _ stn2_4)
    | 2, 5, _, _, _ => exact Or.inl (hs _ stn2_5)
    | 3, 0, _, _, _ => exact Or.inr (hs _ stn0_3)
    | 3, 1, _, _, _ => exact Or.inr (hs _ stn1_3)
    | 3, 2, _, _, _ => exact Or.inr (hs _ stn2_3)
    | 3, 3, _, _, h => exact absurd rfl h
    | 3, 4, _, _, _ => exact Or.inl (hs _ stn3_4)
    | 3, 5, _, _, _ => exact Or.inl (hs _ stn3_5)
    | 4, 0, _, _, _ => exact Or.inr (hs _ stn0_4)
    | 4, 1, _, _, _ => exact Or.inr (hs _ stn1_4)
    | 4, 2, _, _, _ => exact Or.inr (hs _ stn2_4)
    | 4, 3, _, _, _ => exact Or.inr (hs _ stn3_4)
    | 4, 4, _, _, h => exact absurd rfl h
    | 4, 5, _, _, _ => exact Or.inl (hs _ stn4_5)
    | 5, 0, _, _, _ => exact Or.inr (hs _ stn0_5)
    | 5, 1, _, _, _ => exact Or.inr (hs _ stn1_5)
    | 5, 2, _, _, _ => exact Or.inr (hs _ stn2_5)
    | 5, 3, _, _, _ => exact Or.inr (hs _ stn3_5)
    | 5, 4, _, _, _ => exact Or.inr (hs _ stn4_5)
    | 5, 5, _, _, h => exact absurd rfl h
theorem str0 : (Cond.isRef (.static "java/util/ArrayList" "DEFAULTCAPACITY_EMPTY_ELEMENTDATA" "[Ljava/lang/Object;")) ∈ flatC (Jvm.Cond.and given_1 narrow_1) := by decide +kernel
theorem str1 : (Cond.isRef (.static "java/lang/Throwable" "UNASSIGNED_STACK" "[Ljava/lang/StackTraceElement;")) ∈ flatC (Jvm.Cond.and given_1 narrow_1) := by decide +kernel
theorem str2 : (Cond.isRef (.static "java/lang/Throwable" "SUPPRESSED_SENTINEL" "Ljava/util/List;")) ∈ flatC (Jvm.Cond.and given_1 narrow_1) := by decide +kernel
theorem str3 : (Cond.isRef (.static "jdk/internal/util/Preconditions" "SIOOBE_FORMATTER" "Ljava/util/function/BiFunction;")) ∈ flatC (Jvm.Cond.and given_1 narrow_1) := by decide +kernel
theorem stv0 : (Cond.eq (.static "java/lang/String" "COMPACT_STRINGS" "Z") (.int 1)) ∈ flatC (Jvm.Cond.and given_1 narrow_1) := by decide +kernel
theorem stv1 : (Cond.eq (.static "java/lang/StringUTF16" "$assertionsDisabled" "Z") (.int 1)) ∈ flatC (Jvm.Cond.and given_1 narrow_1) := by decide +kernel
theorem stv2 : (Cond.eq (.static "java/lang/StringUTF16" "HI_BYTE_SHIFT" "I") (.int 0)) ∈ flatC (Jvm.Cond.and given_1 narrow_1) := by decide +kernel
theorem stv3 : (Cond.eq (.static "java/lang/StringUTF16" "LO_BYTE_SHIFT" "I") (.int 8)) ∈ flatC (Jvm.Cond.and given_1 narrow_1) := by decide +kernel
theorem std1 : (Cond.arrayOf (.static "java/util/ArrayList" "DEFAULTCAPACITY_EMPTY_ELEMENTDATA" "[Ljava/lang/Object;") (.object "java/lang/Object")) ∈ flatC (Jvm.Cond.and given_1 narrow_1) := by decide +kernel
theorem std2 : (Cond.eq (.length (.static "java/util/ArrayList" "DEFAULTCAPACITY_EMPTY_ELEMENTDATA" "[Ljava/lang/Object;")) (.int 0)) ∈ flatC (Jvm.Cond.and given_1 narrow_1) := by decide +kernel
theorem stm : (Cond.isRef (.mirror "[Ljava/lang/Object;")) ∈ flatC (Jvm.Cond.and given_1 narrow_1) := by decide +kernel
theorem sty1 : (Cond.not (Cond.castable "NumberOffice$Answer" "NumberOffice$Letter")) ∈ flatC (Jvm.Cond.and given_1 narrow_1) := by decide +kernel
theorem sty2 : (Cond.not (Cond.castable "NumberOffice$Letter" "NumberOffice$Answer")) ∈ flatC (Jvm.Cond.and given_1 narrow_1) := by decide +kernel
set_option maxHeartbeats 4000000 in
theorem st_all {s : State} {b L : Nat} {xs : Nat → Int32} (hts0 : ∀ w ∈ lw_tbl, w.before #[Value.ref b] s = true) (hX : va_X b L xs s s.heap) (hL : L ≤ 3073) (hgv : (Jvm.Cond.and given_1 narrow_1).before #[Value.ref b] s = true) : ∃ (D : zD) (g : zG) (σ : zS), zGok g D ∧ zK D s ∧ zH D σ s.heap ∧ σ.1 = s.heap.size ∧ lawPre g σ b L xs ∧ ∀ (a : Nat) (y : zY), σ.2.2 a = some (true, y) → False := by
  have hts : ∀ w ∈ ztb, w.before #[Value.ref b] s = true := fun w hw => hts0 w (List.mem_filter.mp hw).1
  have hs := flat_of_before _ hgv
  obtain ⟨d, hK⟩ := st_known hts
  obtain ⟨dA, hA⟩ := st_arr hts
  obtain ⟨b0, c0, s0, tt0, u0⟩ := st_stat (C := "java/lang/String") (n := "COMPACT_STRINGS") (d := "Z") (hts0 _ (List.mem_of_getElem? (i := 860) (by decide +kernel))) (hts0 _ (List.mem_of_getElem? (i := 69) (by decide +kernel))) (va_eqt (hs _ stv0))
  obtain ⟨b1, c1, s1, tt1, u1⟩ := st_stat (C := "java/lang/StringUTF16") (n := "$assertionsDisabled") (d := "Z") (hts0 _ (List.mem_of_getElem? (i := 964) (by decide +kernel))) (hts0 _ (List.mem_of_getElem? (i := 70) (by decide +kernel))) (va_eqt (hs _ stv1))
  obtain ⟨b2, c2, s2, tt2, u2⟩ := st_stat (C := "java/lang/StringUTF16") (n := "HI_BYTE_SHIFT") (d := "I") (hts0 _ (List.mem_of_getElem? (i := 966) (by decide +kernel))) (hts0 _ (List.mem_of_getElem? (i := 70) (by decide +kernel))) (va_eqt (hs _ stv2))
  obtain ⟨b3, c3, s3, tt3, u3⟩ := st_stat (C := "java/lang/StringUTF16") (n := "LO_BYTE_SHIFT") (d := "I") (hts0 _ (List.mem_of_getElem? (i := 968) (by decide +kernel))) (hts0 _ (List.mem_of_getElem? (i := 70) (by decide +kernel))) (va_eqt (hs _ stv3))
  obtain ⟨r0, e0⟩ := st_ref (hs _ str0)
  obtain ⟨b4, c4, s4, tt4, u4⟩ := st_stat (C := "java/util/ArrayList") (n := "DEFAULTCAPACITY_EMPTY_ELEMENTDATA") (d := "[Ljava/lang/Object;") (hts0 _ (List.mem_of_getElem? (i := 118) (by decide +kernel))) (hts0 _ (List.mem_of_getElem? (i := 50) (by decide +kernel))) e0
  obtain ⟨r1, e1⟩ := st_ref (hs _ str1)
  obtain ⟨b5, c5, s5, tt5, u5⟩ := st_stat (C := "java/lang/Throwable") (n := "UNASSIGNED_STACK") (d := "[Ljava/lang/StackTraceElement;") (hts0 _ (List.mem_of_getElem? (i := 640) (by decide +kernel))) (hts0 _ (List.mem_of_getElem? (i := 54) (by decide +kernel))) e1
  obtain ⟨r2, e2⟩ := st_ref (hs _ str2)
  obtain ⟨b6, c6, s6, tt6, u6⟩ := st_stat (C := "java/lang/Throwable") (n := "SUPPRESSED_SENTINEL") (d := "Ljava/util/List;") (hts0 _ (List.mem_of_getElem? (i := 642) (by decide +kernel))) (hts0 _ (List.mem_of_getElem? (i := 54) (by decide +kernel))) e2
  obtain ⟨r3, e3⟩ := st_ref (hs _ str3)
  obtain ⟨b7, c7, s7, tt7, u7⟩ := st_stat (C := "jdk/internal/util/Preconditions") (n := "SIOOBE_FORMATTER") (d := "Ljava/util/function/BiFunction;") (hts0 _ (List.mem_of_getElem? (i := 956) (by decide +kernel))) (hts0 _ (List.mem_of_getElem? (i := 64) (by decide +kernel))) e3
  obtain ⟨t0, ht0, cell0, z1, z2, z3, z4, z5, z6, -⟩ := va_Tof (N := 0) (f := fun _ => .null) (A := fun q => s.heap.size ≤ q) (by decide) (hs _ std1) (va_eqt (hs _ std2)) (fun j hj => absurd hj (Nat.not_lt_zero _)) (fun a h1 h2 => absurd h2 (Nat.not_le.mpr h1))
  have hr0 : r0 = some t0 := by
    have h := e0.symm.trans ht0
    cases r0 with
    | none => cases h
    | some q => cases h; rfl
  subst hr0
  obtain ⟨mi, hmi⟩ := va_Mi.of (hs _ stm)
  obtain ⟨adK, adV, hS, hev⟩ := st_texts hs
  obtain ⟨scr, x1, x2, x3, x4, x5⟩ := hX
  have ro0 : roE s d (b, scr, 0) := roE_bytes (N := L) (Or.inl ⟨rfl, rfl⟩) x1 x2 x3 (by omega) (Nat.le_of_eq x4.symm) (by rw [x4]) x5
  have ro1 : roE s d (t0, cell0, 10) := roE_refs z1 z2 z3 z5
  obtain ⟨k0, p0, q0, ek0, yk0⟩ := st_string hts hK (hs _ stx0) (hev 0 (by decide)) (hS.1 0 (by decide)).2.1 (hS.1 0 (by decide)).2.2.1
  obtain ⟨w0, f1, f2, f3, f4, f5, f6, -⟩ := (hS.1 0 (by decide)).2.2.2
  have ew0 : roE s d (adV 0, w0, 2) := roE_bytes (N := 0) (Or.inr ⟨rfl, rfl⟩) f1 f2 f3 (by decide) f4 f5 f6
  have zw0 : roZ w0 = 0 := roZ_of (by decide) f5
  have fw0 : ∀ j, j < 0 → roI w0 j = ([] : List Int32).getD j 0 := fun j hj => by
    unfold roI
    rw [f6 j hj]
    rfl
  clear f1 f2 f3 f4 f5 f6
  obtain ⟨k2, p2, q2, ek2, yk2⟩ := st_string hts hK (hs _ stx2) (hev 2 (by decide)) (hS.1 2 (by decide)).2.1 (hS.1 2 (by decide)).2.2.1
  obtain ⟨w2, f1, f2, f3, f4, f5, f6, -⟩ := (hS.1 2 (by decide)).2.2.2
  have ew2 : roE s d (adV 2, w2, 2) := roE_bytes (N := 3) (Or.inr ⟨rfl, rfl⟩) f1 f2 f3 (by decide) f4 f5 f6
  have zw2 : roZ w2 = 3 := roZ_of (by decide) f5
  have fw2 : ∀ j, j < 3 → roI w2 j = ([32, 85, 32] : List Int32).getD j 0 := fun j hj => by
    unfold roI
    rw [f6 j hj]
    rfl
  clear f1 f2 f3 f4 f5 f6
  obtain ⟨k3, p3, q3, ek3, yk3⟩ := st_string hts hK (hs _ stx3) (hev 3 (by decide)) (hS.1 3 (by decide)).2.1 (hS.1 3 (by decide)).2.2.1
  obtain ⟨w3, f1, f2, f3, f4, f5, f6, -⟩ := (hS.1 3 (by decide)).2.2.2
  have ew3 : roE s d (adV 3, w3, 2) := roE_bytes (N := 3) (Or.inr ⟨rfl, rfl⟩) f1 f2 f3 (by decide) f4 f5 f6
  have zw3 : roZ w3 = 3 := roZ_of (by decide) f5
  have fw3 : ∀ j, j < 3 → roI w3 j = ([32, 86, 32] : List Int32).getD j 0 := fun j hj => by
    unfold roI
    rw [f6 j hj]
    rfl
  clear f1 f2 f3 f4 f5 f6
  obtain ⟨k4, p4, q4, ek4, yk4⟩ := st_string hts hK (hs _ stx4) (hev 4 (by decide)) (hS.1 4 (by decide)).2.1 (hS.1 4 (by decide)).2.2.1
  obtain ⟨w4, f1, f2, f3, f4, f5, f6, -⟩ := (hS.1 4 (by decide)).2.2.2
  have ew4 : roE s d (adV 4, w4, 2) := roE_bytes (N := 2) (Or.inr ⟨rfl, rfl⟩) f1 f2 f3 (by decide) f4 f5 f6
  have zw4 : roZ w4 = 2 := roZ_of (by decide) f5
  have fw4 : ∀ j, j < 2 → roI w4 j = ([32, 76] : List Int32).getD j 0 := fun j hj => by
    unfold roI
    rw [f6 j hj]
    rfl
  clear f1 f2 f3 f4 f5 f6
  obtain ⟨k5, p5, q5, ek5, yk5⟩ := st_string hts hK (hs _ stx5) (hev 5 (by decide)) (hS.1 5 (by decide)).2.1 (hS.1 5 (by decide)).2.2.1
  obtain ⟨w5, f1, f2, f3, f4, f5, f6, -⟩ := (hS.1 5 (by decide)).2.2.2
  have ew5 : roE s d (adV 5, w5, 2) := roE_bytes (N := 2) (Or.inr ⟨rfl, rfl⟩) f1 f2 f3 (by decide) f4 f5 f6
  have zw5 : roZ w5 = 2 := roZ_of (by decide) f5
  have fw5 : ∀ j, j < 2 → roI w5 j = ([84, 32] : List Int32).getD j 0 := fun j hj => by
    unfold roI
    rw [f6 j hj]
    rfl
  clear f1 f2 f3 f4 f5 f6
  let E : List (Nat × Cell × Nat) := [(b, scr, 0), (t0, cell0, 10), (adK 0, k0, 13), (adV 0, w0, 2), (adK 2, k2, 13), (adV 2, w2, 2), (adK 3, k3, 13), (adV 3, w3, 2), (adK 4, k4, 13), (adV 4, w4, 2), (adK 5, k5, 13), (adV 5, w5, 2)]
  have hE : ∀ q ∈ E, roE s d q := List.forall_mem_cons.mpr ⟨ro0, List.forall_mem_cons.mpr ⟨ro1, List.forall_mem_cons.mpr ⟨ek0, List.forall_mem_cons.mpr ⟨ew0, List.forall_mem_cons.mpr ⟨ek2, List.forall_mem_cons.mpr ⟨ew2, List.forall_mem_cons.mpr ⟨ek3, List.forall_mem_cons.mpr ⟨ew3, List.forall_mem_cons.mpr ⟨ek4, List.forall_mem_cons.mpr ⟨ew4, List.forall_mem_cons.mpr ⟨ek5, List.forall_mem_cons.mpr ⟨ew5, fun _ h => by cases h⟩⟩⟩⟩⟩⟩⟩⟩⟩⟩⟩⟩
  let D : zD := (d, dA, E.map (fun q => (q.1, q.2.1, roY d.2 q.2.2 q.2.1)), [(b0, c0), (b1, c1), (b2, c2), (b3, c3), (b4, c4), (b5, c5), (b6, c6), (b7, c7)],
    [("java/lang/String", "COMPACT_STRINGS", "Z", Value.int 1), ("java/lang/StringUTF16", "$assertionsDisabled", "Z", Value.int 1), ("java/lang/StringUTF16", "HI_BYTE_SHIFT", "I", Value.int 0), ("java/lang/StringUTF16", "LO_BYTE_SHIFT", "I", Value.int 8), ("java/util/ArrayList", "DEFAULTCAPACITY_EMPTY_ELEMENTDATA", "[Ljava/lang/Object;", va_rf (some t0)), ("java/lang/Throwable", "UNASSIGNED_STACK", "[Ljava/lang/StackTraceElement;", va_rf r1), ("java/lang/Throwable", "SUPPRESSED_SENTINEL", "Ljava/util/List;", va_rf r2), ("jdk/internal/util/Preconditions", "SIOOBE_FORMATTER", "Ljava/util/function/BiFunction;", va_rf r3)],
    [("NumberOffice$SeriesBook", 29, "", adK 0), ("NumberOffice", 207, "this side is down", adK 1), ("NumberOffice$ListText", 63, " U ", adK 2), ("NumberOffice$ListText", 65, " V ", adK 3), ("NumberOffice$ListText", 67, " L", adK 4), ("NumberOffice$ListText", 40, "T ", adK 5)], [("NumberOffice$Answer", "NumberOffice$Letter"), ("NumberOffice$Letter", "NumberOffice$Answer")], [("[Ljava/lang/Object;", mi)])
  let g : zG := fun k => match k with
    | 0 => some t0
    | 1 => r1
    | 2 => r2
    | 3 => r3
    | 10 => some mi
    | 20 => some (adK 0)
    | 21 => some (adK 1)
    | 22 => some (adK 2)
    | 23 => some (adK 3)
    | 24 => some (adK 4)
    | 25 => some (adK 5)
    | _ => none
  let L2 : List (Nat × zY) := E.map (fun q => (q.1, roY d.2 q.2.2 q.2.1))
  have hu : ∀ p ∈ L2, ∀ q ∈ L2, p.1 = q.1 → p.2 = q.2 := by
    intro p hp q hq hpq
    obtain ⟨e1, he1, rfl⟩ := List.mem_map.mp hp
    obtain ⟨e2, he2, rfl⟩ := List.mem_map.mp hq
    have g1 := hE e1 he1
    have g2 := hE e2 he2
    have hpq : e1.1 = e2.1 := hpq
    have hc : e1.2.1 = e2.2.1 := by
      have h := g1.1
      rw [hpq] at h
      exact Option.some.inj (h.symm.trans g2.1)
    have hk : e1.2.2 = e2.2.2 := roK_one (s := s) (cell := e1.2.1) g1.2.1 (by rw [hc]; exact g2.2.1)
    show roY d.2 e1.2.2 e1.2.1 = roY d.2 e2.2.2 e2.2.1
    rw [hc, hk]
  have hat : ∀ e ∈ E, (roW s.heap.size L2).2.2 e.1 = some (false, roY d.2 e.2.2 e.2.1) := fun e he => roW_at hu (List.mem_map.mpr ⟨e, he, rfl⟩)
  have hno : ∀ (a : Nat) (x : zE), (roW s.heap.size L2).2.2 a = some x → ∃ e ∈ E, e.1 = a ∧ x = (false, roY d.2 e.2.2 e.2.1) := by
    intro a x hx
    obtain ⟨y, rfl, hm⟩ := roW_some hx
    obtain ⟨e, he, q⟩ := List.mem_map.mp hm
    cases q
    exact ⟨e, he, rfl, rfl⟩
  refine ⟨D, g, roW s.heap.size L2, ?_, ⟨hK, hA, ?_, ?_, ?_, ?_, ?_⟩, ⟨rfl, ?_, ?_⟩, rfl, ⟨hL, ?_, ?_, ?_, ?_, ?_, ?_, ?_, ?_, ?_, ?_⟩, ?_⟩
  · exact ⟨by simp [D, g], by simp [D, g], by simp [D, g], by simp [D, g], by simp [D, g], by simp [D, g], by simp [D, g], by simp [D, g], fun q h => by cases h; simp [D], fun q h => by cases h; simp [D], fun q h => by cases h; simp [D], fun q h => by cases h; simp [D], fun q h => by cases h; simp [D], fun q h => by cases h; simp [D], by simp [D], by simp [D], fun q h => by cases h; simp [D]⟩
  · intro q hq
    obtain ⟨e, he, rfl⟩ := List.mem_map.mp hq
    exact (hE e he).2.2.2 D rfl
  · exact List.forall_mem_cons.mpr ⟨u0 D (by simp [D]), List.forall_mem_cons.mpr ⟨u1 D (by simp [D]), List.forall_mem_cons.mpr ⟨u2 D (by simp [D]), List.forall_mem_cons.mpr ⟨u3 D (by simp [D]), List.forall_mem_cons.mpr ⟨u4 D (by simp [D]), List.forall_mem_cons.mpr ⟨u5 D (by simp [D]), List.forall_mem_cons.mpr ⟨u6 D (by simp [D]), List.forall_mem_cons.mpr ⟨u7 D (by simp [D]), fun _ h => by cases h⟩⟩⟩⟩⟩⟩⟩⟩
  · exact List.forall_mem_cons.mpr ⟨show vk_R "NumberOffice$SeriesBook" 29 "" (adK 0) s from vk_R.of (hts0 (Cond.stringRef "NumberOffice$SeriesBook" 29 "") (List.mem_of_getElem? (i := 214) (by decide +kernel))) (hev 0 (by decide)), List.forall_mem_cons.mpr ⟨show vk_R "NumberOffice" 207 "this side is down" (adK 1) s from vk_R.of (hts0 (Cond.stringRef "NumberOffice" 207 "this side is down") (List.mem_of_getElem? (i := 652) (by decide +kernel))) (hev 1 (by decide)), List.forall_mem_cons.mpr ⟨show vk_R "NumberOffice$ListText" 63 " U " (adK 2) s from vk_R.of (hts0 (Cond.stringRef "NumberOffice$ListText" 63 " U ") (List.mem_of_getElem? (i := 988) (by decide +kernel))) (hev 2 (by decide)), List.forall_mem_cons.mpr ⟨show vk_R "NumberOffice$ListText" 65 " V " (adK 3) s from vk_R.of (hts0 (Cond.stringRef "NumberOffice$ListText" 65 " V ") (List.mem_of_getElem? (i := 1046) (by decide +kernel))) (hev 3 (by decide)), List.forall_mem_cons.mpr ⟨show vk_R "NumberOffice$ListText" 67 " L" (adK 4) s from vk_R.of (hts0 (Cond.stringRef "NumberOffice$ListText" 67 " L") (List.mem_of_getElem? (i := 1047) (by decide +kernel))) (hev 4 (by decide)), List.forall_mem_cons.mpr ⟨show vk_R "NumberOffice$ListText" 40 "T " (adK 5) s from vk_R.of (hts0 (Cond.stringRef "NumberOffice$ListText" 40 "T ") (List.mem_of_getElem? (i := 1048) (by decide +kernel))) (hev 5 (by decide)), fun _ h => by cases h⟩⟩⟩⟩⟩⟩
  · exact List.forall_mem_cons.mpr ⟨va_Nc.of (hs _ sty1), List.forall_mem_cons.mpr ⟨va_Nc.of (hs _ sty2), fun _ h => by cases h⟩⟩
  · exact List.forall_mem_cons.mpr ⟨hmi, fun _ h => by cases h⟩
  · intro a x hx
    obtain ⟨e, he, rfl, rfl⟩ := hno a x hx
    exact ⟨e.2.1, List.mem_map.mpr ⟨e, he, rfl⟩, (hE e he).1⟩
  · have hst : ∀ q ∈ D.2.2.2.1, s.heap[q.1]? = some q.2 ∧ q.2.vm.isStatics = true := List.forall_mem_cons.mpr ⟨⟨s0, tt0⟩, List.forall_mem_cons.mpr ⟨⟨s1, tt1⟩, List.forall_mem_cons.mpr ⟨⟨s2, tt2⟩, List.forall_mem_cons.mpr ⟨⟨s3, tt3⟩, List.forall_mem_cons.mpr ⟨⟨s4, tt4⟩, List.forall_mem_cons.mpr ⟨⟨s5, tt5⟩, List.forall_mem_cons.mpr ⟨⟨s6, tt6⟩, List.forall_mem_cons.mpr ⟨⟨s7, tt7⟩, fun _ h => by cases h⟩⟩⟩⟩⟩⟩⟩⟩
    intro q hq
    refine ⟨(hst q hq).1, ?_⟩
    cases hx : (roW s.heap.size L2).2.2 q.1 with
    | none => rfl
    | some x =>
      obtain ⟨e, he, h1, -⟩ := hno q.1 x hx
      have h2 := (hE e he).1
      rw [h1, (hst q hq).1] at h2
      have h3 := (hE e he).2.2.1
      rw [← Option.some.inj h2, (hst q hq).2] at h3
      cases h3
  · intro a ha
    cases hx : (roW s.heap.size L2).2.2 a with
    | none => rfl
    | some x =>
      obtain ⟨e, he, h1, -⟩ := hno a x hx
      have h2 := (Array.getElem?_eq_some_iff.mp (hE e he).1).1
      rw [h1] at h2
      exact absurd h2 (Nat.not_lt.mpr ha)
  · have hz : roZ scr = L := roZ_of (by omega) (by rw [x4])
    refine ⟨roI scr, ?_, fun j hj => ?_⟩
    · have h := hat (b, scr, 0) (by simp [E])
      have h9 : roY d.2 0 scr = .inl (0, L, .inl (roI scr)) := by simp [roY, hz]
      rw [← h9]
      exact h
    · unfold roI
      rw [x5 j hj]
  · have hz : roZ cell0 = 0 := roZ_of (by decide) z5
    refine ⟨t0, rfl, ?_⟩
    have h := hat (t0, cell0, 10) (by simp [E])
    have h9 : roY d.2 10 cell0 = .inl (10, 0, .inr (.inr (.inr (.inr (fun _ => none))))) := by simp [roY, hz]
    rw [← h9]
    exact h
  · exact ⟨mi, rfl⟩
  · exact ⟨adK 1, rfl⟩
  · refine ⟨adK 0, adV 0, p0, q0, roI w0, rfl, ?_, ?_, fw0⟩
    · have h := hat (adK 0, k0, 13) (by simp [E])
      rw [← yk0]
      exact h
    · have h := hat (adV 0, w0, 2) (by simp [E])
      have h9 : roY d.2 2 w0 = .inl (2, 0, .inl (roI w0)) := by simp [roY, zw0]
      show _ = some (false, (Sum.inl (2, 0, Sum.inl (roI w0)) : zY))
      rw [← h9]
      exact h
  · refine ⟨adK 2, adV 2, p2, q2, roI w2, rfl, ?_, ?_, fw2⟩
    · have h := hat (adK 2, k2, 13) (by simp [E])
      rw [← yk2]
      exact h
    · have h := hat (adV 2, w2, 2) (by simp [E])
      have h9 : roY d.2 2 w2 = .inl (2, 3, .inl (roI w2)) := by simp [roY, zw2]
      show _ = some (false, (Sum.inl (2, 3, Sum.inl (roI w2)) : zY))
      rw [← h9]
      exact h
  · refine ⟨adK 3, adV 3, p3, q3, roI w3, rfl, ?_, ?_, fw3⟩
    · have h := hat (adK 3, k3, 13) (by simp [E])
      rw [← yk3]
      exact h
    · have h := hat (adV 3, w3, 2) (by simp [E])
      have h9 : roY d.2 2 w3 = .inl (2, 3, .inl (roI w3)) := by simp [roY, zw3]
      show _ = some (false, (Sum.inl (2, 3, Sum.inl (roI w3)) : zY))
      rw [← h9]
      exact h
  · refine ⟨adK 4, adV 4, p4, q4, roI w4, rfl, ?_, ?_, fw4⟩
    · have h := hat (adK 4, k4, 13) (by simp [E])
      rw [← yk4]
      exact h
    · have h := hat (adV 4, w4, 2) (by simp [E])
      have h9 : roY d.2 2 w4 = .inl (2, 2, .inl (roI w4)) := by simp [roY, zw4]
      show _ = some (false, (Sum.inl (2, 2, Sum.inl (roI w4)) : zY))
      rw [← h9]
      exact h
  · refine ⟨adK 5, adV 5, p5, q5, roI w5, rfl, ?_, ?_, fw5⟩
    · have h := hat (adK 5, k5, 13) (by simp [E])
      rw [← yk5]
      exact h
    · have h := hat (adV 5, w5, 2) (by simp [E])
      have h9 : roY d.2 2 w5 = .inl (2, 2, .inl (roI w5)) := by simp [roY, zw5]
      show _ = some (false, (Sum.inl (2, 2, Sum.inl (roI w5)) : zY))
      rw [← h9]
      exact h
  · intro a y h
    obtain ⟨e, he, -, h2⟩ := hno a _ h
    cases h2
