/-! ===== byte[].clone ===== -/
def zQw (own : String) (ix : Nat) : Prop := Cond.methodLink own ix ⟨"[B", "clone", "()Ljava/lang/Object;"⟩ ∈ ztb ∧ Cond.sameMethod "[B" "java/lang/Object" "clone" "()Ljava/lang/Object;" ∈ ztb ∧ Cond.native ⟨"java/lang/Object", "clone", "()Ljava/lang/Object;"⟩ ∈ ztb ∧ Cond.instanceMethod ⟨"java/lang/Object", "clone", "()Ljava/lang/Object;"⟩ ∈ ztb ∧ Cond.selects "[B" ⟨"[B", "clone", "()Ljava/lang/Object;"⟩ ⟨"java/lang/Object", "clone", "()Ljava/lang/Object;"⟩ ∈ ztb ∧ Cond.castable "[B" "java/lang/Cloneable" ∈ ztb
def zcl1 (σ : zS) (a : Nat) : Option zS := match zar σ a 2 with
  | some (n, .inl f) => if zown σ a = true ∧ ∀ i, i < n → fits .byte (.int (f i)) = true then some (znew σ n (.inl (2, n, .inl f))) else none
  | _ => none
section ZCLN
variable {l : Launch} {D : zD} {K : zM} {fr lo : Nat} {out : Outcome × zS} {pc pc' : Nat} {lv lv' : List (Nat × Value)} {st st' : List Value} {σ σ' : zS}
theorem z_cloneB {a ix : Nat} (w : zQw K.2.2.1 ix) (hfr : 1 ≤ fr) (hlo : (st.map fun v => v.category).sum + 14 ≤ lo) (d : decode K.1 pc = .ok (.invokevirtual ix, 3)) (h : zcl1 σ a = some σ') (k : Z l D K fr lo out (pc + 3) lv (.ref σ.1 :: st) σ') : Z l D K fr lo out pc lv (.ref a :: st) σ := by
  unfold zcl1 at h
  split at h
  rotate_left
  · cases h
  rename_i n f hz
  split at h
  rotate_left
  · cases h
  rename_i hh
  cases h
  obtain ⟨b, e0⟩ := zar_at hz
  have hb := zown_at e0 hh.1
  subst hb
  have k1 : σ.1 + 1 ≤ out.2.1 := k.1.1
  have k2 : σ.2.1 + n ≤ out.2.2.1 := k.1.2
  refine ⟨⟨by omega, by omega⟩, fun p e R s m args below meth c C f1 f2 hK A ls H locs cells slots b1 b2 b3 b4 b5 b6 b7 => ?_⟩
  have hc : H[a]? = some (vp_cell (D.2.1 2) (n, .inl f)) := b4.2.1 a _ e0
  have hc : H[a]? = some (arrV (D.2.1 2) n (fun j => .int (f j))) := hc
  have hnm := va_nm_byte (hK.2.1 2 _ rfl).2
  obtain ⟨c0, t0, g1, g2, g3⟩ := Cond.castable_spec (C.hts _ w.2.2.2.2.2)
  cases hnm.symm.trans g1
  intro T hT X
  have hcT : T.heap[a]? = some (arrV (D.2.1 2) n (fun j => .int (f j))) := by rw [hT]; exact hc
  obtain ⟨-, kA, hkA, comp, hkind⟩ := State.isArrayOf_alike X.warmed.alike ((hK.2.1 2 _ rfl).1 n (fun j => .int (f j)))
  obtain ⟨-, kS, hkS, compS, hkindS⟩ := (hK.2.1 2 _ rfl).1 n (fun j => .int (f j))
  obtain ⟨vm', X', step⟩ := X.cloneArray C.1 C.2.2.2.1 (C.hts _ w.1) (C.hts _ w.2.1) (C.hts _ w.2.2.1) (C.hts _ w.2.2.2.1) (C.hts _ w.2.2.2.2.1) (a := a) hcT (fun _ h => by cases h) (fun h => by cases h) hnm g2 g3
    (fun i v hv => by
      have hi : i < n := by
        have := (Array.getElem?_eq_some_iff.mp hv).1
        rw [arrV_size] at this
        exact this
      rw [arrV_read _ _ hi] at hv
      cases hv
      have hk' : T.vm.classes[(arrV (D.2.1 2) n (fun j => Value.int (f j))).cls]? = some kA := hkA
      simpa [State.fitsSlot, State.slotType?, hk', hkind] using hh.2 i hi)
    (g := F0 m pc ls (.ref a :: st)) rfl (by rw [C.2.2.1]; exact b5.1) rfl (by rw [C.2.1]; exact d) (by omega) (by show 2 * 0 + _ + 14 ≤ _; omega) (by omega) (by rw [arrV_size]; omega) (hloader := Vm.clonesLoader_of_array hkS hkindS)
  have e1 : ({ cls := (arrV (D.2.1 2) n (fun j => Value.int (f j))).cls, slots := (arrV (D.2.1 2) n (fun j => Value.int (f j))).slots } : Cell) = arrV (D.2.1 2) n (fun j => Value.int (f j)) := rfl
  rw [e1, arrV_size] at X'
  have e9 : (H.push (arrV (D.2.1 2) n (fun j => Value.int (f j))))[H.size]? = some (arrV (D.2.1 2) n (fun j => Value.int (f j))) := by rw [Array.getElem?_push_size]
  have o1 : ∀ q : Nat, q < H.size → (H.push (arrV (D.2.1 2) n (fun j => Value.int (f j))))[q]? = H[q]? := fun q hq => by rw [Array.getElem?_push, if_neg (Nat.ne_of_lt hq)]
  have hz2 : σ.1 = H.size := b4.1.symm
  have w9 := k.2 p e R s m args below meth c C f1 f2 hK A ls (H.push (arrV (D.2.1 2) n (fun j => Value.int (f j)))) locs (cells + 1) (slots + n) b1 (znew_dom (b1 _ (by rw [hz2]; exact b3.1)) b2) ⟨Nat.le_trans b3.1 (by rw [Array.size_push]; omega), fun q h1 h2 => (o1 q (Nat.lt_of_lt_of_le h1 b3.1)).trans (b3.2.1 q h1 h2), b3.2.2⟩ (b4.new (y := .inl (2, n, .inl f)) e9 (by rw [Array.size_push]) o1) b5
    (by show cells + 1 + (out.2.1 - (σ.1 + 1)) ≤ R.cells; omega) (by show slots + n + (out.2.2.1 - (σ.2.1 + n)) ≤ R.slots; omega)
  have q1 : cells + 1 + (out.2.1 - (znew σ n (.inl (2, n, .inl f))).1) = cells + (out.2.1 - σ.1) := by show cells + 1 + (out.2.1 - (σ.1 + 1)) = _; omega
  have q2 : slots + n + (out.2.2.1 - (znew σ n (.inl (2, n, .inl f))).2.1) = slots + (out.2.2.1 - σ.2.1) := by show slots + n + (out.2.2.1 - (σ.2.1 + n)) = _; omega
  rw [q1, q2, hz2] at w9
  obtain ⟨t, a1, a2⟩ := w9 ((T.setVm vm').pushCell (arrV (D.2.1 2) n (fun j => Value.int (f j)))) (by rw [← hT]; rfl) X'
  refine ⟨t, step t ?_, by rw [hz2]; exact a2⟩
  rw [e1, hT]
  exact a1
theorem z_castB {a ix : Nat} {u : Unit} (w : Cond.classLink K.2.2.1 ix "[B" ∈ ztb) (d : decode K.1 pc = .ok (.checkcast ix, 3)) (h : zoa σ a 2 = some u) (k : Z l D K fr lo out (pc + 3) lv (.ref a :: st) σ) : Z l D K fr lo out pc lv (.ref a :: st) σ := by
  obtain ⟨x, e0⟩ := zoa_at h
  refine k.rd fun C hK hH k => ?_
  exact va_castA C.1 C.2.1 C.2.2.2.1 (C.hts _ w) (hH.one e0) 0 rfl (va_nm_byte (hK.2.1 2 _ rfl).2) d k
theorem z_mabs {ix : Nat} {x : Int64} (w : Cond.methodLink K.2.2.1 ix Lib.MathLoose.abs_long.x ∈ ztb ∧ Cond.static Lib.MathLoose.abs_long.x ∈ ztb ∧ Cond.initialized "java/lang/Math" ∈ ztb ∧ Cond.code Lib.MathLoose.abs_long.x Lib.MathLoose.abs_long.code 2 (some .long) ∈ ztb) (hfr : 1 ≤ fr) (hlo : (st.map fun v => v.category).sum + 13 ≤ lo) (d : decode K.1 pc = .ok (.invokestatic ix, 3)) (k : Z l D K fr lo out (pc + 3) lv (.long (if 0 < x then x else -x) :: st) σ) : Z l D K fr lo out pc lv (.long x :: st) σ := by
  refine ⟨k.1, fun p e R s m args below meth c C f1 f2 hK A ls H locs cells slots b1 b2 b3 b4 b5 b6 b7 => ?_⟩
  intro T hT X
  obtain ⟨vm', X', hstep⟩ := va_abs_longV X C.1 C.2.2.2.1 (C.hts _ w.1) (C.hts _ w.2.1) (C.hts _ w.2.2.1) (C.hts _ w.2.2.2) (g := F0 m pc ls (.long x :: st)) rfl (by rw [C.2.2.1]; exact b5.1) (a := x) (rest := st) rfl (by rw [C.2.1]; exact d) (by omega) (by show 2 * 0 + _ + 13 ≤ _; omega) (by omega) (by omega)
  obtain ⟨t9, a1, a2⟩ := k.2 p e R s m args below meth c C f1 f2 hK A ls H locs cells slots b1 b2 b3 b4 b5 b6 b7 (T.setVm vm') hT X'
  exact ⟨t9, hstep t9 a1, a2⟩
end ZCLN
theorem d_Arrays_copyOf3_7 : decode prog_32_method_121_code 7 = .ok (.invokevirtual 310, 3) := by decide +kernel
theorem wQ_java_util_Arrays_310 : zQw "java/util/Arrays" 310 := ⟨ztb_of 921 (by decide +kernel) rfl, ztb_of 922 (by decide +kernel) rfl, ztb_of 923 (by decide +kernel) rfl, ztb_of 924 (by decide +kernel) rfl, ztb_of 925 (by decide +kernel) rfl, ztb_of 926 (by decide +kernel) rfl⟩
theorem d_Arrays_copyOf3_10 : decode prog_32_method_121_code 10 = .ok (.checkcast 311, 3) := by decide +kernel
theorem wQk_java_util_Arrays_311 : Cond.classLink "java/util/Arrays" 311 "[B" ∈ ztb := ztb_of 927 (by decide +kernel) rfl
theorem d_Arrays_copyOf3_13 : decode prog_32_method_121_code 13 = .ok (.areturn, 1) := by decide +kernel
theorem d_Arrays_copyOfRange_18 : decode prog_32_method_132_code 18 = .ok (.invokevirtual 310, 3) := by decide +kernel
theorem d_Arrays_copyOfRange_21 : decode prog_32_method_132_code 21 = .ok (.checkcast 311, 3) := by decide +kernel
theorem d_Arrays_copyOfRange_24 : decode prog_32_method_132_code 24 = .ok (.areturn, 1) := by decide +kernel
theorem wQ_NumberOffice_ListText_77 : Cond.methodLink "NumberOffice$ListText" 77 Lib.MathLoose.abs_long.x ∈ ztb ∧ Cond.static Lib.MathLoose.abs_long.x ∈ ztb ∧ Cond.initialized "java/lang/Math" ∈ ztb ∧ Cond.code Lib.MathLoose.abs_long.x Lib.MathLoose.abs_long.code 2 (some .long) ∈ ztb := ⟨ztb_of 979 (by decide +kernel) rfl, ztb_of 980 (by decide +kernel) rfl, ztb_of 44 (by decide +kernel) rfl, ztb_of 981 (by decide +kernel) rfl⟩
