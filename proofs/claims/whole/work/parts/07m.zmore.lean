/-! ===== further calls and rows ===== -/
section ZMORE
variable {l : Launch} {D : zD} {K : zM} {fr lo : Nat} {out : Outcome × zS} {pc pc' : Nat} {lv lv' : List (Nat × Value)} {st st' : List Value} {σ σ' : zS}
theorem z_irem {x y : Int32} (d : decode K.1 pc = .ok (.irem, 1)) (hne : ¬ y = 0) (k : Z l D K fr lo out (pc + 1) lv (.int (x - x / y * y) :: st) σ) : Z l D K fr lo out pc lv (.int y :: .int x :: st) σ := k.go fun C h k => lv_irem C.1 C.2.1 d hne k
theorem z_lrem {x y : Int64} (d : decode K.1 pc = .ok (.lrem, 1)) (hne : ¬ y = 0) (k : Z l D K fr lo out (pc + 1) lv (.long (x - x / y * y) :: st) σ) : Z l D K fr lo out pc lv (.long y :: .long x :: st) σ := k.go fun C h k => lv_lrem C.1 C.2.1 d hne k
theorem z_iushr {x y : Int32} (d : decode K.1 pc = .ok (.iushr, 1)) (k : Z l D K fr lo out (pc + 1) lv (.int (x.toUInt32 >>> (y.toUInt32 &&& Int32.toUInt32 31)).toInt32 :: st) σ) : Z l D K fr lo out pc lv (.int y :: .int x :: st) σ := k.go fun C h k => lv_iushr C.1 C.2.1 d rfl k
/-- invokevirtual of x, found in the class 'owner', on an object of class ci, which selects y -/
def zUl (own : String) (ix ci : Nat) (x y : MethodName) (K' : zM) (n : Nat) : Prop := ∃ (C owner : String) (T : u_T) (N : Nat), zcl[ci]? = some (C, T, N) ∧ Cond.methodLink own ix x ∈ ztb ∧ Cond.sameMethod x.cls owner x.name x.desc ∈ ztb ∧ (Cond.instanceMethod ⟨owner, x.name, x.desc⟩ ∈ ztb ∧ (∃ K2 : zM, zcw ⟨owner, x.name, x.desc⟩ K2 ∈ ztb) ∨ Cond.declares ⟨owner, x.name, x.desc⟩ ∈ ztb) ∧ (owner ≠ "java/lang/invoke/MethodHandle" ∧ owner ≠ "java/lang/invoke/VarHandle") ∧ Cond.selects C x y ∈ ztb ∧ Cond.instanceMethod y ∈ ztb ∧ Cond.initialized y.cls ∈ ztb ∧ zcw y K' ∈ ztb ∧ (parseMethodDescriptor x.desc).map (fun d => d.parameters.length) = some n
theorem z_decl {args : Array Value} {s : State} {x : MethodName} (hts : ∀ w ∈ ztb, w.before args s = true) (h : Cond.instanceMethod x ∈ ztb ∧ (∃ K2 : zM, zcw x K2 ∈ ztb) ∨ Cond.declares x ∈ ztb) : va_Decl s x := by
  rcases h with ⟨h1, K2, h2⟩ | h
  · obtain ⟨mk, methM, hnamed, hmethM, hstM, habM⟩ := Cond.instanceMethod_spec (hts _ h1)
    obtain ⟨methM', cM, hmethM', -, -, -, -, -, -, hsigM⟩ := zcw_spec hnamed (hts _ h2)
    cases hmethM.symm.trans hmethM'
    exact ⟨mk, methM, hnamed, hmethM, hstM, hsigM⟩
  · exact va_Decl.abs (va_Nw.of rfl (hts _ h))
theorem z_callU' {x y : MethodName} {K' : zM} {fr' lo' ix ci b : Nat} {ow : Bool} {fs : List Value} {av : List Value} {o' : Outcome × zS} (w : zUl K.2.2.1 ix ci x y K' av.length) (hb : σ.2.2 b = some (ow, .inr (ci, fs))) (hM : zMet l D y K' fr' lo' (.ref b :: av) σ o') (hfr : fr' + 1 ≤ fr) (hlo : 8 + (K'.2.1 + 11) + lo' ≤ lo) (d : decode K.1 pc = .ok (.invokevirtual ix, 3)) (hst : (st.map fun v => v.category).sum ≤ 8)
    (kr : ∀ v, o'.1 = .returned v → Z l D K fr lo out (pc + 3) lv (v.toList ++ st) o'.2) (kt : ∀ a, o'.1 = .threw a → ZT l D K fr lo out pc lv st o'.2 a) : Z l D K fr lo out pc lv (av.reverse ++ .ref b :: st) σ := by
  obtain ⟨Cn, owner, T0, N, hc, w1, wsame, wd, wo, wsel, w2, w3, w4, w6⟩ := w
  refine Z.call hM w4 w3 hfr hlo d hst (fun {p e R s m args below meth c T locs cells slots ls} C hK hH X => ?_) kr kt
  obtain ⟨cellB, hcell, hobj, hcls⟩ := z_recv hK hH hc hb
  obtain ⟨r0, r, hn, hrm, hstR, hsigR⟩ := z_decl C.hts wd
  obtain ⟨cn, ck, r1, hcn, hck, hni, hf, hn1⟩ := Cond.sameMethod_found (C.hts _ wsame)
  cases hn.symm.trans hn1
  obtain ⟨mk, methM, hnamed, hmethM, -, habM⟩ := Cond.instanceMethod_spec (C.hts _ w2)
  obtain ⟨c2, r2, m2, q1, q2, q3, q4, kP, hkP, hkPi⟩ := Cond.selects_spec (C.hts _ wsel)
  cases hcls.symm.trans q1
  cases hf.symm.trans q2
  cases hnamed.symm.trans q3
  have hselP : selectMethod e.platform s.vm cellB.cls r0 = .method mk := by rw [Launch.admits_selectMethod X.admits]; exact q4
  obtain ⟨vm₁, X₁, hstep₁⟩ := X.invokevirtualUp C.1 C.2.2.2.1 (C.hts _ w1) (C.hts _ wsame) wo hn hrm hstR (a := b) (cell := cellB) hcell
    (fun z h => by rw [h] at hobj; cases hobj) hselP hmethM habM hkP hkPi (g := F0 m pc ls (av.reverse ++ .ref b :: st)) rfl (argsL := av) (rest := st) (z_len w6 rfl _ hsigR) rfl (by rw [C.2.1]; exact d)
  exact ⟨vm₁, mk, X₁, hnamed, fun tg h => hstep₁ tg fun acts => by rw [doInvoke_state]; exact h⟩
/-- a nest mate's constructor -/
def zNi (own : String) (ix : Nat) (y : MethodName) (K' : zM) (n : Nat) : Prop := ∃ host : String, y.name = "<init>" ∧ Cond.methodLinkNest own ix y host ∈ ztb ∧ Cond.instanceMethod y ∈ ztb ∧ Cond.initialized y.cls ∈ ztb ∧ K'.2.2.2.1 = none ∧ K'.2.2.2.2.2 = [] ∧ zcw y K' ∈ ztb ∧ (y.cls ≠ "java/lang/invoke/MethodHandle" ∧ y.cls ≠ "java/lang/invoke/VarHandle") ∧ (parseMethodDescriptor y.desc).map (fun d => d.parameters.length) = some n
theorem z_callN' {y : MethodName} {K' : zM} {fr' lo' ix b : Nat} {av : List Value} {o' : Outcome × zS} (w : zNi K.2.2.1 ix y K' av.length) (hM : zMet l D y K' fr' lo' (.ref b :: av) σ o') (hfr : fr' + 1 ≤ fr) (hlo : 8 + (K'.2.1 + 11) + lo' ≤ lo) (d : decode K.1 pc = .ok (.invokespecial ix, 3)) (hst : (st.map fun v => v.category).sum ≤ 8)
    (kr : ∀ v, o'.1 = .returned v → Z l D K fr lo out (pc + 3) lv (v.toList ++ st) o'.2) (kt : ∀ a, o'.1 = .threw a → ZT l D K fr lo out pc lv st o'.2 a) : Z l D K fr lo out pc lv (av.reverse ++ .ref b :: st) σ := by
  obtain ⟨host, w0, w1, w2, w3, wr, we, w4, w5, w6⟩ := w
  refine Z.call hM w4 w3 hfr hlo d hst (fun {p e R s m args below meth c T locs cells slots ls} C hK hH X => ?_) kr kt
  have hpl : e.platform.magicAccessors = ({} : Platform).magicAccessors := by rw [X.admits.platform]
  have hcode : (Cond.code y K'.1 K'.2.1 none).before args s = true := by
    have h := C.hts _ w4
    unfold zcw at h
    rw [we, wr] at h
    exact h
  obtain ⟨mk, methM, cM, kP, vm₁, hnamed, hmethM, hcodeM, -, hlocalsM, -, hkP, -, hW₁, hstep₁⟩ := Steps.initColdArgsNest (e := e) X.here C.1 X.warmed hpl C.2.2.2.1 w0 w5 (C.hts _ w1) (C.hts _ w2) hcode (f := F0 m pc ls (av.reverse ++ .ref b :: st)) rfl (z_len w6 rfl) rfl (by rw [C.2.1]; exact d)
  exact ⟨vm₁, mk, X.noted hW₁, hnamed, fun tg h => hstep₁ tg fun acts => by rw [doInvoke_state]; exact h⟩
/-- a method of the superclass, by invokespecial -/
def zPs (own : String) (ix : Nat) (y : MethodName) (K' : zM) (n : Nat) : Prop := y.name ≠ "<init>" ∧ Cond.methodLink own ix y ∈ ztb ∧ Cond.sameMethod y.cls y.cls y.name y.desc ∈ ztb ∧ Cond.superclass own y.cls ∈ ztb ∧ Cond.instanceMethod y ∈ ztb ∧ Cond.initialized y.cls ∈ ztb ∧ zcw y K' ∈ ztb ∧ (parseMethodDescriptor y.desc).map (fun d => d.parameters.length) = some n
theorem z_callP' {y : MethodName} {K' : zM} {fr' lo' ix ci b : Nat} {ow : Bool} {fs : List Value} {q : vw_C} {av : List Value} {o' : Outcome × zS} (w : zPs K.2.2.1 ix y K' av.length) (hc : zcl[ci]? = some q) (hb : σ.2.2 b = some (ow, .inr (ci, fs))) (hM : zMet l D y K' fr' lo' (.ref b :: av) σ o') (hfr : fr' + 1 ≤ fr) (hlo : 8 + (K'.2.1 + 11) + lo' ≤ lo) (d : decode K.1 pc = .ok (.invokespecial ix, 3)) (hst : (st.map fun v => v.category).sum ≤ 8)
    (kr : ∀ v, o'.1 = .returned v → Z l D K fr lo out (pc + 3) lv (v.toList ++ st) o'.2) (kt : ∀ a, o'.1 = .threw a → ZT l D K fr lo out pc lv st o'.2 a) : Z l D K fr lo out pc lv (av.reverse ++ .ref b :: st) σ := by
  obtain ⟨hno, w1, wsame, wsup, w2, w3, w4, w6⟩ := w
  refine Z.call hM w4 w3 hfr hlo d hst (fun {p e R s m args below meth c T locs cells slots ls} C hK hH X => ?_) kr kt
  obtain ⟨cellB, hcell, hobj, hcls⟩ := z_recv hK hH hc hb
  obtain ⟨kB, hkB, -⟩ := Vm.findClass_spec hcls
  obtain ⟨mk, methM, hnamed, hmethM, hstM, habM⟩ := Cond.instanceMethod_spec (C.hts _ w2)
  obtain ⟨methM', cM, hmethM', -, -, -, -, -, -, hsigM⟩ := zcw_spec hnamed (C.hts _ w4)
  cases hmethM.symm.trans hmethM'
  obtain ⟨ps, dk, kp, hps, hdk, hkp, hsuper, -, -, hnid⟩ := Cond.superclass_spec C.2.2.2.1 (C.hts _ wsup)
  have hn : s.methodNamed? ⟨y.cls, y.name, y.desc⟩ = some mk := hnamed
  have hpm : ps = mk.cls := Option.some.inj (hps.symm.trans (findClass_of_methodNamed hnamed))
  have hsub : s.vm.isSubclass ps mk.cls = true := by rw [hpm]; simp [Vm.isSubclass, Vm.isSubclassAux]
  obtain ⟨vm₁, X₁, hstep₁⟩ := X.invokespecialUp C.1 C.2.2.2.1 (C.hts _ w1) (C.hts _ wsame) hn hmethM hstM habM hno hdk hnid hps hsuper hsub (a := b) (cell := cellB) hcell
    (fun z h => by rw [h] at hobj; cases hobj) hkB (g := F0 m pc ls (av.reverse ++ .ref b :: st)) rfl (argsL := av) (rest := st) (z_len w6 rfl _ hsigM) rfl (by rw [C.2.1]; exact d)
  exact ⟨vm₁, mk, X₁, hnamed, fun tg h => hstep₁ tg (by rw [doInvoke_state]; exact h)⟩
theorem z_callU {x y : MethodName} {K' : zM} {fr' lo' ix ci b : Nat} {ow : Bool} {fs : List Value} {av : List Value} {v : Option Value} {σ1 : zS} (w : zUl K.2.2.1 ix ci x y K' av.length) (hb : σ.2.2 b = some (ow, .inr (ci, fs))) (hM : zMet l D y K' fr' lo' (.ref b :: av) σ (.returned v, σ1)) (hfr : fr' + 1 ≤ fr) (hlo : 8 + (K'.2.1 + 11) + lo' ≤ lo) (d : decode K.1 pc = .ok (.invokevirtual ix, 3)) (hst : (st.map fun v => v.category).sum ≤ 8) (k : Z l D K fr lo out (pc + 3) lv (v.toList ++ st) σ1) : Z l D K fr lo out pc lv (av.reverse ++ .ref b :: st) σ :=
  z_callU' w hb hM hfr hlo d hst (fun v' hv => by cases hv; exact k) (fun a ha => by cases ha)
theorem z_callN {y : MethodName} {K' : zM} {fr' lo' ix b : Nat} {av : List Value} {v : Option Value} {σ1 : zS} (w : zNi K.2.2.1 ix y K' av.length) (hM : zMet l D y K' fr' lo' (.ref b :: av) σ (.returned v, σ1)) (hfr : fr' + 1 ≤ fr) (hlo : 8 + (K'.2.1 + 11) + lo' ≤ lo) (d : decode K.1 pc = .ok (.invokespecial ix, 3)) (hst : (st.map fun v => v.category).sum ≤ 8) (k : Z l D K fr lo out (pc + 3) lv (v.toList ++ st) σ1) : Z l D K fr lo out pc lv (av.reverse ++ .ref b :: st) σ :=
  z_callN' w hM hfr hlo d hst (fun v' hv => by cases hv; exact k) (fun a ha => by cases ha)
theorem z_callP {y : MethodName} {K' : zM} {fr' lo' ix ci b : Nat} {ow : Bool} {fs : List Value} {q : vw_C} {av : List Value} {v : Option Value} {σ1 : zS} (w : zPs K.2.2.1 ix y K' av.length) (hc : zcl[ci]? = some q) (hb : σ.2.2 b = some (ow, .inr (ci, fs))) (hM : zMet l D y K' fr' lo' (.ref b :: av) σ (.returned v, σ1)) (hfr : fr' + 1 ≤ fr) (hlo : 8 + (K'.2.1 + 11) + lo' ≤ lo) (d : decode K.1 pc = .ok (.invokespecial ix, 3)) (hst : (st.map fun v => v.category).sum ≤ 8) (k : Z l D K fr lo out (pc + 3) lv (v.toList ++ st) σ1) : Z l D K fr lo out pc lv (av.reverse ++ .ref b :: st) σ :=
  z_callP' w hc hb hM hfr hlo d hst (fun v' hv => by cases hv; exact k) (fun a ha => by cases ha)
/-! fields of two classes under one abstract class -/
def zgI2 (σ : zS) (a c1 k1 c2 k2 : Nat) : Option Int32 := if zcls σ a = some c1 then zgI σ a c1 k1 else zgI σ a c2 k2
def zpF2 (σ : zS) (a c1 k1 c2 k2 : Nat) (v : Value) : Option zS := if zcls σ a = some c1 then zpF σ a c1 k1 v else zpF σ a c2 k2 v
theorem z_getI2 {a c1 k1 c2 k2 ix : Nat} {x : Int32} (w1 : zFl K.2.2.1 ix c1 k1) (w2 : zFl K.2.2.1 ix c2 k2) (d : decode K.1 pc = .ok (.getfield ix, 3)) (h : zgI2 σ a c1 k1 c2 k2 = some x) (k : Z l D K fr lo out (pc + 3) lv (.int x :: st) σ) : Z l D K fr lo out pc lv (.ref a :: st) σ := by
  unfold zgI2 at h
  split at h
  · exact z_getI w1 d h k
  · exact z_getI w2 d h k
theorem z_put2 {a c1 k1 c2 k2 ix : Nat} {v : Value} {ty : FieldType} {fin : Bool} (w1 : zPl K.2.2.1 ix c1 k1 ty fin) (w2 : zPl K.2.2.1 ix c2 k2 ty fin) (hi : fin = true → K.2.2.2.2.1 = true) (d : decode K.1 pc = .ok (.putfield ix, 3)) (hn : narrow ty v = v) (hfit : fits ty v = true) (h : zpF2 σ a c1 k1 c2 k2 v = some σ') (k : Z l D K fr lo out (pc + 3) lv st σ') : Z l D K fr lo out pc lv (v :: .ref a :: st) σ := by
  unfold zpF2 at h
  split at h
  · exact z_put w1 hi d hn hfit h k
  · exact z_put w2 hi d hn hfit h k
/-! Math -/
theorem z_mmax {ix : Nat} {x y : Int32} (w1 : Cond.methodLink K.2.2.1 ix Lib.Math.max.name ∈ ztb) (w2 : Cond.static Lib.Math.max.name ∈ ztb) (w3 : Cond.initialized "java/lang/Math" ∈ ztb) (w4 : Cond.code Lib.Math.max.name Lib.Math.max.code 2 (some .int) ∈ ztb) (hfr : 1 ≤ fr) (hlo : (st.map fun v => v.category).sum + 13 ≤ lo) (d : decode K.1 pc = .ok (.invokestatic ix, 3)) (k : Z l D K fr lo out (pc + 3) lv (.int (if x < y then y else x) :: st) σ) : Z l D K fr lo out pc lv (.int y :: .int x :: st) σ :=
  ⟨k.1, fun p e R s m args below meth c C f1 f2 hK A ls H locs cells slots b1 b2 b3 b4 b5 b6 b7 => va_mmax C.1 C.2.1 (by rw [C.2.2.1]; exact b5.1.symm) C.2.2.2.1 (C.hts _ w1) (C.hts _ w2) (C.hts _ w3) (C.hts _ w4) (by omega) (by omega) (by omega) (by omega) d (k.2 p e R s m args below meth c C f1 f2 hK A ls H locs cells slots b1 b2 b3 b4 b5 b6 b7)⟩
theorem z_mmin {ix : Nat} {x y : Int32} (w1 : Cond.methodLink K.2.2.1 ix Lib.Math.min.name ∈ ztb) (w2 : Cond.static Lib.Math.min.name ∈ ztb) (w3 : Cond.initialized "java/lang/Math" ∈ ztb) (w4 : Cond.code Lib.Math.min.name Lib.Math.min.code 2 (some .int) ∈ ztb) (hfr : 1 ≤ fr) (hlo : (st.map fun v => v.category).sum + 13 ≤ lo) (d : decode K.1 pc = .ok (.invokestatic ix, 3)) (k : Z l D K fr lo out (pc + 3) lv (.int (if y < x then y else x) :: st) σ) : Z l D K fr lo out pc lv (.int y :: .int x :: st) σ :=
  ⟨k.1, fun p e R s m args below meth c C f1 f2 hK A ls H locs cells slots b1 b2 b3 b4 b5 b6 b7 => va_mmin C.1 C.2.1 (by rw [C.2.2.1]; exact b5.1.symm) C.2.2.2.1 (C.hts _ w1) (C.hts _ w2) (C.hts _ w3) (C.hts _ w4) (by omega) (by omega) (by omega) (by omega) d (k.2 p e R s m args below meth c C f1 f2 hK A ls H locs cells slots b1 b2 b3 b4 b5 b6 b7)⟩
end ZMORE
