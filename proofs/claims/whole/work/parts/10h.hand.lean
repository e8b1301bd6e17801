/-! ===== requireUp: it returns, or makes and throws the exception ===== -/
abbrev ruA : List Cond := Bundle.ownAtoms "NumberOffice" 209 "java/lang/IllegalStateException" ["java/lang/RuntimeException", "java/lang/Exception"]
def ruS : Cond → Bool
  | .laysStatic .. => true
  | .isRef _ => true
  | _ => false
theorem ru_sp : ruA.filter ruS = [.laysStatic "java/lang/Throwable" "UNASSIGNED_STACK" "[Ljava/lang/StackTraceElement;", .laysStatic "java/lang/Throwable" "SUPPRESSED_SENTINEL" "Ljava/util/List;", .isRef (.static "java/lang/Throwable" "UNASSIGNED_STACK" "[Ljava/lang/StackTraceElement;"), .isRef (.static "java/lang/Throwable" "SUPPRESSED_SENTINEL" "Ljava/util/List;")] := by decide +kernel
theorem ru_in : ∀ w ∈ ruA.filter (fun a => !ruS a), w ∈ ztb := z_inb [54, 635, 644, 646, 649, 651, 636, 637, 80, 81, 638, 643, 647, 667, 625, 668, 627, 669, 629, 639, 641, 631, 663, 664, 666, 631, 654, 655, 656, 657, 617, 657, 658, 659, 660, 619, 660, 661, 662, 663, 621, 653, 614, 615, 622, 623, 624, 626, 628, 630, 634, 633, 632] (by decide +kernel) (by decide +kernel)
theorem ru_atoms {D : zD} {g : zG} (hG : zGok g D) {args : Array Value} {s : State} (hts : ∀ w ∈ ztb, w.before args s = true) (hK : zK D s) (hH : ∀ q ∈ D.2.2.2.1, s.heap[q.1]? = some q.2) : ∀ a ∈ ruA, a.before args s = true := by
  intro a ha
  by_cases hs : ruS a = true
  · have h1 : a ∈ ruA.filter ruS := List.mem_filter.mpr ⟨ha, hs⟩
    rw [ru_sp] at h1
    simp only [List.mem_cons, List.not_mem_nil, or_false] at h1
    rcases h1 with rfl | rfl | rfl | rfl
    · exact z_laysStatic (hK.2.2.2.1 _ (zG_5 hG)) hH
    · exact z_laysStatic (hK.2.2.2.1 _ (zG_6 hG)) hH
    · exact z_isRefStatic (hK.2.2.2.1 _ (zG_5 hG)) rfl hH
    · exact z_isRefStatic (hK.2.2.2.1 _ (zG_6 hG)) rfl hH
  · have h1 : a ∈ ruA.filter (fun a => !ruS a) := List.mem_filter.mpr ⟨ha, by simp [hs]⟩
    exact hts _ (ru_in _ h1)
def s_No_requireUp (g : zG) (v0 : Option Nat) (σ : zS) : Option ((Unit ⊕ Nat) × zS) := (v0).bind fun a1 => (zgI2 σ a1 1 8 4 6).bind fun x2 => if x2 = 0 then (g 21).bind fun q => some (.inr σ.1, znew σ 6 (.inr (8, [.ref σ.1, va_rf (g 1), va_rf (g 2), .ref q, .null, .int 0]))) else some (.inl (), σ)
theorem zgI2_at {σ : zS} {a c1 k1 c2 k2 : Nat} {x : Int32} (h : zgI2 σ a c1 k1 c2 k2 = some x) : (∃ b fs, σ.2.2 a = some (b, .inr (c1, fs)) ∧ fs[k1]? = some (.int x)) ∨ (∃ b fs, σ.2.2 a = some (b, .inr (c2, fs)) ∧ fs[k2]? = some (.int x)) := by
  unfold zgI2 at h
  split at h
  · exact Or.inl (zgI_at h)
  · exact Or.inr (zgI_at h)
theorem ru_throws {l : Launch} {D : zD} {g : zG} (hG : zGok g D) (hl : zLo l) {a1 q : Nat} {σ : zS} (h : zgI2 σ a1 1 8 4 6 = some 0) (hq : g 21 = some q) : zMet l D Y_No_requireUp K_No_requireUp 6 120 [.ref a1] σ (.threw σ.1, znew σ 6 (.inr (8, [.ref σ.1, va_rf (g 1), va_rf (g 2), .ref q, .null, .int 0]))) := by
  refine zMet.ofE (by decide) rfl (fun q => by cases q) (Nat.le_of_ble_eq_true rfl) ⟨Nat.le_succ _, Nat.le_add_right _ _⟩ (fun p e R s m below meth c ls C f1 f2 hK hH hlv h6 h7 => ?_)
  have hlv : lv_has ls 1 [(0, .ref a1)] := hlv
  have h6 : σ.1 + 1 - σ.1 ≤ R.cells := h6
  have h7 : σ.2.1 + 6 - σ.2.1 ≤ R.slots := h7
  refine lv_aload_n C.1 C.2.1 d_No_requireUp_0 rfl (lv_at hlv 0 rfl) ?_
  have hget : ∀ {Q : State → Prop}, W p l e R s m [Value.ref a1].toArray below meth c s.heap [] 0 0 Q (F0 m 4 ls [.int 0]) → W p l e R s m [Value.ref a1].toArray below meth c s.heap [] 0 0 Q (F0 m 1 ls [.ref a1]) := by
    intro Q k
    rcases zgI2_at h with ⟨b, fs, e1, e2⟩ | ⟨b, fs, e1, e2⟩
    · exact w_getv C hK hH wF_NumberOffice_142_1 d_No_requireUp_1 e1 e2 k
    · exact w_getv C hK hH wF_NumberOffice_142_4 d_No_requireUp_1 e1 e2 k
  refine hget ?_
  refine lv_if_ne C.1 C.2.1 (tgt := 17) d_No_requireUp_4 rfl (fun q => absurd rfl q) (fun _ => ?_)
  have hKn := hK.1.1 8 (zR_IllegalStateException, zF_IllegalStateException, 6) rfl
  refine W.newcK (g := F0 m 7 ls []) C.1 C.2.1 C.2.2.2.1 (C.hts _ wL_NumberOffice_205) (C.hts _ wRu1) (C.hts _ wRu2) rfl d_No_requireUp_7 (by omega) (by omega) hKn.2.1 rfl fun H1 kC hkC e1 z1 o1 => ?_
  refine lv_dup C.1 C.2.1 d_No_requireUp_10 rfl ?_
  have h9 := hK.2.2.2.2.1 _ (zG_9 hG q hq)
  dsimp only at h9
  refine va_ldcS C.1 C.2.1 C.2.2.2.1 h9 d_No_requireUp_11 ?_
  intro T hT X
  obtain ⟨U, u1, u2, u3, u4, u5, ce, u6, u7⟩ := X.ctorThrowS C.1 (Launch.traces_off hl X.admits) (own := "NumberOffice") (cls := "java/lang/IllegalStateException") (names := ["java/lang/RuntimeException", "java/lang/Exception"]) (ic := 209) C.2.2.2.1 (by decide) (by decide) (ru_atoms hG C.hts hK (fun q hq => (hH.2.2 q hq).1)) (fun x hx => by cases hx) hKn.2.1 hkC (by rw [hT]; exact e1) (Nat.le_refl _) (msg := .ref q) rfl
    (g := F0 m 13 ls [.ref q, .ref s.heap.size, .ref s.heap.size]) rfl (by rw [C.2.2.1]; exact hlv.1) rfl rfl (rest := []) rfl (by rw [C.2.1]; exact d_No_requireUp_13) (by rw [C.2.1]; exact d_No_requireUp_16) (fun x hx => by rw [C.2.2.2.2.2.2.2.1] at hx; cases hx) (by show 2 + 3 < R.frames; omega) (by show 2 * 0 + 1 + (13 * 3 + 42) ≤ R.locals; omega) C.2.2.2.2.2.2.1
  have oq : ∀ q, q < s.heap.size → U.heap[q]? = s.heap[q]? := fun q hq => by
    have := u5.old_cell (a := q) (Array.getElem?_eq_getElem hq)
    rw [← Array.getElem?_eq_getElem hq] at this
    exact this
  have hsz : U.heap.size = s.heap.size + 1 := by
    have g1 : U.heap.size ≤ s.heap.size + (0 + 1) := u5.2.2.1
    have g2 : s.heap.size < U.heap.size := (Array.getElem?_eq_some_iff.mp u6).1
    omega
  have hcell : va_at D.1 zcl (s.heap.size, zTo D.2.1 (.inr (8, [.ref σ.1, va_rf (g 1), va_rf (g 2), .ref q, .null, .int 0]))) U.heap := by
    refine ⟨_, rfl, ce, u6, Option.some.inj (u7.cls.symm.trans hKn.2.1), u7.vm, fun k hk => ?_⟩
    obtain ⟨cf, kf, fi, f, hi, hsl⟩ := hKn.1 k hk
    show ce.slots[D.1.2 8 k]? = _
    rw [← hsl]
    have hk6 : k < 6 := hk
    match k, hk6, hi with
    | 0, _, hi =>
      obtain ⟨c1, k1, i1, f1, g1, g2⟩ := u7.cause
      cases g1.symm.trans hi
      rw [g2, hH.1]
      rfl
    | 1, _, hi =>
      obtain ⟨c1, k1, i1, f1, u, g1, g2, g3⟩ := u7.stack
      cases g1.symm.trans hi
      rw [g2, ← g3 none]
      exact z_evStatic (hK.2.2.2.1 _ (zG_5 hG)) (fun q hq => (hH.2.2 q hq).1) none
    | 2, _, hi =>
      obtain ⟨c1, k1, i1, f1, u, g1, g2, g3⟩ := u7.supp
      cases g1.symm.trans hi
      rw [g2, ← g3 none]
      exact z_evStatic (hK.2.2.2.1 _ (zG_6 hG)) (fun q hq => (hH.2.2 q hq).1) none
    | 3, _, hi =>
      obtain ⟨c1, k1, i1, f1, g1, g2⟩ := u7.msg
      cases g1.symm.trans hi
      rw [g2]
      rfl
    | 4, _, hi =>
      have ht := State.fieldFound?_type hi (t := .object "java/lang/Object") (by decide +kernel)
      rw [u7.other _ _ _ _ _ _ _ hi (C.hts _ wRu3) (by rw [ht.1]; decide) (by rw [ht.1]; decide) (by rw [ht.1]; decide) (by rw [ht.1]; decide), ht.2]
      rfl
    | 5, _, hi =>
      have ht := State.fieldFound?_type hi (t := .int) (by decide +kernel)
      rw [u7.other _ _ _ _ _ _ _ hi (C.hts _ wRu4) (by rw [ht.1]; decide) (by rw [ht.1]; decide) (by rw [ht.1]; decide) (by rw [ht.1]; decide), ht.2]
      rfl
  have e9 : σ.1 + 1 - σ.1 = 1 := by omega
  have e8 : σ.2.1 + 6 - σ.2.1 = 6 := by omega
  refine ⟨U, u1, u2, ?_, hH.new hcell hsz oq, ⟨u5.2.1, fun q h1 _ => oq q h1⟩, znew_dom (Or.inr (Nat.le_refl _)) (fun a y h => Or.inl ⟨y, h⟩), u4, [], ?_, fun q hq => by cases hq⟩
  · show Ended U below (.threw σ.1)
    rw [← hH.1]
    exact u3
  · show s.sameButNew ({ U with vm := s.vm } : State) [] (σ.1 + 1 - σ.1) (σ.2.1 + 6 - σ.2.1)
    rw [e9, e8]
    exact u5
theorem t_No_requireUp {l : Launch} {D : zD} {g : zG} (hG : zGok g D) (hl : zLo l) {v0 : Option Nat} {σ : zS} {q : (Unit ⊕ Nat) × zS} (h : s_No_requireUp g v0 σ = some q) : zMet l D Y_No_requireUp K_No_requireUp 6 120 [va_rf (v0)] σ (zoV q.1, q.2) := by
  unfold s_No_requireUp at h
  replace h := Option.bind_eq_some_iff.mp h; obtain ⟨a1, rfl, h⟩ := h
  replace h := Option.bind_eq_some_iff.mp h; obtain ⟨x2, e2, h⟩ := h
  by_cases hx : x2 = 0
  · rw [if_pos hx] at h
    subst hx
    replace h := Option.bind_eq_some_iff.mp h; obtain ⟨q1, e3, h⟩ := h
    cases h
    exact ru_throws hG hl e2 e3
  · rw [if_neg hx] at h
    cases h
    refine zMet.ofZ (by decide) rfl (fun q => by cases q) (Nat.le_of_ble_eq_true rfl) ?_
    show Z _ _ _ _ _ _ 0 [(0, .ref a1)] [] _
    refine z_aload_n 0 d_No_requireUp_0 rfl rfl ?_
    refine z_getI2 wF_NumberOffice_142_1 wF_NumberOffice_142_4 d_No_requireUp_1 e2 ?_
    refine z_if_ne (tgt := 17) d_No_requireUp_4 rfl (fun _ => ?_) (fun q => absurd q hx)
    exact z_vret rfl rfl d_No_requireUp_17

