/-! ===== calls, ends and exceptions as rows of Z ===== -/
/-- the exception a above the frame g -/
def WT (p : Program) (l : Launch) (e : Env) (R : Room) (s : State) (m : MethodId) (args : Array Value) (below : List Frame) (meth : Method) (c : Code) (H : Heap) (locs : List Loc) (cells slots : Nat) (Q : State → Prop) (g : JFrame) (a : Nat) : Prop :=
  ∀ T : State, T.heap = H → Stand p l e R s m args below meth c T locs cells slots → ∃ t, Steps p.tables e below ((T.setTop g).pushFrame (.throwing a)) t ∧ Q t
def ZT (l : Launch) (D : zD) (K : zM) (fr lo : Nat) (out : Outcome × zS) (pc : Nat) (lv : List (Nat × Value)) (st : List Value) (σ : zS) (a : Nat) : Prop :=
  (σ.1 ≤ out.2.1 ∧ σ.2.1 ≤ out.2.2.1) ∧ ∀ (p : Program) (e : Env) (R : Room) (s : State) (m : MethodId) (args : Array Value) (below : List Frame) (meth : Method) (c : Code), zC p s m args meth c K → fr ≤ R.frames → lo ≤ R.locals → zK D s →
    ∀ (A : Nat → Prop) (ls : Array Slot) (H : Heap) (locs : List Loc) (cells slots : Nat), (∀ q, s.heap.size ≤ q → A q) → (∀ (a : Nat) (y : zY), σ.2.2 a = some (true, y) → A a) → va_S A s.heap H locs → zH D σ H → lv_has ls K.2.1 lv → cells + (out.2.1 - σ.1) ≤ R.cells → slots + (out.2.2.1 - σ.2.1) ≤ R.slots →
      WT p l e R s m args below meth c H locs cells slots (zQ D below s A (cells + (out.2.1 - σ.1)) (slots + (out.2.2.1 - σ.2.1)) out) (F0 m pc ls st) a
section ZC2
variable {l : Launch} {D : zD} {K : zM} {fr lo : Nat} {out : Outcome × zS} {pc pc' : Nat} {lv lv' : List (Nat × Value)} {st st' : List Value} {σ σ' : zS}
theorem Z.call {y : MethodName} {K' : zM} {fr' lo' : Nat} {av : List Value} {o' : Outcome × zS} {ig : Instr} {len : Nat} {stk : List Value} (hM : zMet l D y K' fr' lo' av σ o') (hcw : zcw y K' ∈ ztb) (hini : Cond.initialized y.cls ∈ ztb) (hfr : fr' + 1 ≤ fr) (hlo : 8 + (K'.2.1 + 11) + lo' ≤ lo) (d : decode K.1 pc = .ok (ig, len)) (hst : (st.map fun v => v.category).sum ≤ 8)
    (hinv : ∀ {p : Program} {e : Env} {R : Room} {s : State} {m : MethodId} {args : Array Value} {below : List Frame} {meth : Method} {c : Code} {T : State} {locs : List Loc} {cells slots : Nat} {ls : Array Slot}, zC p s m args meth c K → zK D s → zH D σ T.heap → Stand p l e R s m args below meth c T locs cells slots →
      ∃ (vm₁ : Vm) (mk : MethodId), Stand p l e R s m args below meth c (T.setVm vm₁) locs cells slots ∧ s.methodNamed? y = some mk ∧ ∀ tg, Steps p.tables e below (doInvoke e ((T.setVm vm₁).setTop (F0 m pc ls st)) [] mk av.toArray).1 tg → Steps p.tables e below (T.setTop (F0 m pc ls stk)) tg)
    (kr : ∀ v, o'.1 = .returned v → Z l D K fr lo out (pc + len) lv (v.toList ++ st) o'.2) (kt : ∀ a, o'.1 = .threw a → ZT l D K fr lo out pc lv st o'.2 a) : Z l D K fr lo out pc lv stk σ := by
  have hm := hM.1
  have hmo : o'.2.1 ≤ out.2.1 ∧ o'.2.2.1 ≤ out.2.2.1 := by
    cases ho : o'.1 with
    | returned v => exact (kr v ho).1
    | threw a => exact (kt a ho).1
  refine ⟨⟨Nat.le_trans hm.1 hmo.1, Nat.le_trans hm.2 hmo.2⟩, fun p e R s m args below meth c C f1 f2 hK A ls H locs cells slots b1 b2 b3 b4 b5 b6 b7 => ?_⟩
  intro T hT X
  obtain ⟨vm₁, mk, X₁, hn, hstep⟩ := hinv (ls := ls) C hK (by rw [hT]; exact b4) X
  have hW : s.WarmedH (T.setVm vm₁).vm := X₁.warmed
  have hws : ∀ w ∈ zcw y K' :: ztb, w.before av.toArray (T.setVm vm₁) = true := fun w hw => by
    rcases List.mem_cons.mp hw with h | h
    · exact zwords C.hts hW _ w (by rw [h]; exact hcw)
    · exact zwords C.hts hW _ w h
  have hheap : (T.setVm vm₁).heap = H := hT
  obtain ⟨T', L, X', z1, z2, z3, z4, z5⟩ := zRun hM X₁ (g := F0 m pc ls st) rfl (by rw [C.2.2.1]; exact b5.1) (by rw [C.2.1]; exact d) (by show 2 * 0 + (st.map fun v => v.category).sum ≤ 8; omega) (X₁.named hn) hws hini (by omega) (by omega) (by omega) (by omega) (by rw [hheap]; exact b4) (hK.moved hW)
  rw [hheap] at z2
  have hA : ∀ q, zA σ q → A q := fun q hq => by
    rcases hq with hq | hq
    · obtain ⟨y, hy⟩ := hq
      exact b2 q y hy
    · exact b1 q (Nat.le_trans b3.1 (by rw [b4.1]; exact hq))
  have hS : va_S A s.heap T'.heap (locs ++ L) := ⟨Nat.le_trans b3.1 z2.1, fun q h1 h2 => (z2.2 q (Nat.lt_of_lt_of_le h1 b3.1) (fun h => h2 (hA q h))).trans (b3.2.1 q h1 h2), fun q hq => by
    rcases List.mem_append.mp hq with h | h
    · exact b3.2.2 q h
    · exact hA _ (z3 q h)⟩
  have hd : ∀ (a : Nat) (y : zY), o'.2.2.2 a = some (true, y) → A a := fun a y hy => hA a (z4 a y hy)
  have e1 : cells + (o'.2.1 - σ.1) + (out.2.1 - o'.2.1) = cells + (out.2.1 - σ.1) := by omega
  have e2 : slots + (o'.2.2.1 - σ.2.1) + (out.2.2.1 - o'.2.2.1) = slots + (out.2.2.1 - σ.2.1) := by omega
  unfold zBehind at z5
  split at z5
  · rename_i v hv
    have w := (kr v hv).2 p e R s m args below meth c C f1 f2 hK A ls T'.heap (locs ++ L) (cells + (o'.2.1 - σ.1)) (slots + (o'.2.2.1 - σ.2.1)) b1 hd hS z1 b5 (by omega) (by omega)
    rw [e1, e2] at w
    obtain ⟨t, a1, a2⟩ := w T' rfl X'
    exact ⟨t, hstep t (z5.trans a1), a2⟩
  · rename_i a hv
    have w := (kt a hv).2 p e R s m args below meth c C f1 f2 hK A ls T'.heap (locs ++ L) (cells + (o'.2.1 - σ.1)) (slots + (o'.2.2.1 - σ.2.1)) b1 hd hS z1 b5 (by omega) (by omega)
    rw [e1, e2] at w
    obtain ⟨t, a1, a2⟩ := w T' rfl X'
    exact ⟨t, hstep t (z5.trans a1), a2⟩
/-- invokestatic -/
def zSl (own : String) (ix : Nat) (y : MethodName) (K' : zM) (n : Nat) : Prop := Cond.methodLink own ix y ∈ ztb ∧ Cond.static y ∈ ztb ∧ Cond.initialized y.cls ∈ ztb ∧ zcw y K' ∈ ztb ∧ (y.cls ≠ "java/lang/invoke/MethodHandle" ∧ y.cls ≠ "java/lang/invoke/VarHandle") ∧ (parseMethodDescriptor y.desc).map (fun d => d.parameters.length) = some n
theorem z_len {y : MethodName} {n k : Nat} (h : (parseMethodDescriptor y.desc).map (fun d => d.parameters.length) = some n) (hk : k = n) : ∀ sig, parseMethodDescriptor y.desc = some sig → k = sig.parameters.length := by
  intro sig hs
  rw [hs] at h
  rw [hk]
  exact (Option.some.inj h).symm
theorem z_callS' {y : MethodName} {K' : zM} {fr' lo' ix : Nat} {av : List Value} {o' : Outcome × zS} (w : zSl K.2.2.1 ix y K' av.length) (hM : zMet l D y K' fr' lo' av σ o') (hfr : fr' + 1 ≤ fr) (hlo : 8 + (K'.2.1 + 11) + lo' ≤ lo) (d : decode K.1 pc = .ok (.invokestatic ix, 3)) (hst : (st.map fun v => v.category).sum ≤ 8)
    (kr : ∀ v, o'.1 = .returned v → Z l D K fr lo out (pc + 3) lv (v.toList ++ st) o'.2) (kt : ∀ a, o'.1 = .threw a → ZT l D K fr lo out pc lv st o'.2 a) : Z l D K fr lo out pc lv (av.reverse ++ st) σ := by
  obtain ⟨w1, w2, w3, w4, w5, w6⟩ := w
  refine Z.call hM w4 w3 hfr hlo d hst (fun {p e R s m args below meth c T locs cells slots ls} C hK hH X => ?_) kr kt
  have hcode := C.hts _ w4
  have hnx : ∃ mk, s.methodNamed? y = some mk := by
    unfold zcw at hcode
    split at hcode
    · exact Cond.code_named hcode
    · obtain ⟨m9, meth, c, hn9, -⟩ := Cond.codeWith_spec hcode
      exact ⟨m9, hn9⟩
  obtain ⟨mk, hnamed⟩ := hnx
  obtain ⟨methM, cM, hmethM, -, -, -, -, -, -, hsigM⟩ := zcw_spec hnamed hcode
  have hstatic : methM.isStatic = true := Cond.static_spec hnamed hmethM (C.hts _ w2)
  obtain ⟨kP, hkP, -⟩ := className_of_methodNamed hnamed
  have hinitP : kP.init = .initialized := Cond.initialized_spec (findClass_of_methodNamed hnamed) hkP (C.hts _ w3)
  obtain ⟨vm₁, X₁, hstep₁⟩ := X.invokestatic C.1 C.2.2.2.1 (C.hts _ w1) hnamed hmethM hstatic hkP hinitP w5 (g := F0 m pc ls (av.reverse ++ st)) rfl (argsL := av) (rest := st) (z_len w6 rfl _ hsigM) rfl (by rw [C.2.1]; exact d)
  exact ⟨vm₁, mk, X₁, hnamed, fun tg h => hstep₁ tg fun acts => by rw [doInvoke_state]; exact h⟩
/-- invokevirtual on an object of class C (by its number ci), the method y being what C selects -/
def zVl (own : String) (ix ci : Nat) (y : MethodName) (K' : zM) (n : Nat) : Prop := ∃ (C : String) (T : u_T) (N : Nat), zcl[ci]? = some (C, T, N) ∧ Cond.methodLink own ix y ∈ ztb ∧ Cond.instanceMethod y ∈ ztb ∧ Cond.selects C y y ∈ ztb ∧ Cond.initialized y.cls ∈ ztb ∧ zcw y K' ∈ ztb ∧ (y.cls ≠ "java/lang/invoke/MethodHandle" ∧ y.cls ≠ "java/lang/invoke/VarHandle") ∧ (parseMethodDescriptor y.desc).map (fun d => d.parameters.length) = some n
theorem z_recv {σ : zS} {H : Heap} {s : State} {a ci : Nat} {b : Bool} {fs : List Value} {q : vw_C} (hK : zK D s) (hH : zH D σ H) (hc : zcl[ci]? = some q) (he : σ.2.2 a = some (b, .inr (ci, fs))) : ∃ cell : Cell, H[a]? = some cell ∧ cell.vm.isStatics = false ∧ s.vm.findClass q.1 = some cell.cls := by
  cases b with
  | true => exact va_recv (ws := [(a, zTo D.2.1 (.inr (ci, fs)))]) (q0 := 0) (fs := fs) hK.1 (hH.one he) hc rfl
  | false =>
    obtain ⟨cell, hm, hcell⟩ := hH.2.1 a _ he
    obtain ⟨q', h1, h2, h3, h4, h5⟩ := hK.2.2.1 _ hm
    have hq : q' = q := Option.some.inj (h1.symm.trans hc)
    subst hq
    exact ⟨cell, hcell, h2, h4⟩
theorem z_callV' {y : MethodName} {K' : zM} {fr' lo' ix ci b : Nat} {ow : Bool} {fs : List Value} {av : List Value} {o' : Outcome × zS} (w : zVl K.2.2.1 ix ci y K' av.length) (hb : σ.2.2 b = some (ow, .inr (ci, fs))) (hM : zMet l D y K' fr' lo' (.ref b :: av) σ o') (hfr : fr' + 1 ≤ fr) (hlo : 8 + (K'.2.1 + 11) + lo' ≤ lo) (d : decode K.1 pc = .ok (.invokevirtual ix, 3)) (hst : (st.map fun v => v.category).sum ≤ 8)
    (kr : ∀ v, o'.1 = .returned v → Z l D K fr lo out (pc + 3) lv (v.toList ++ st) o'.2) (kt : ∀ a, o'.1 = .threw a → ZT l D K fr lo out pc lv st o'.2 a) : Z l D K fr lo out pc lv (av.reverse ++ .ref b :: st) σ := by
  obtain ⟨Cn, T0, N, hc, w1, w2, wsel, w3, w4, w5, w6⟩ := w
  refine Z.call hM w4 w3 hfr hlo d hst (fun {p e R s m args below meth c T locs cells slots ls} C hK hH X => ?_) kr kt
  obtain ⟨cellB, hcell, hobj, hcls⟩ := z_recv hK hH hc hb
  obtain ⟨mk, methM, hnamed, hmethM, hstM, habM⟩ := Cond.instanceMethod_spec (C.hts _ w2)
  obtain ⟨methM', cM, hmethM', -, -, -, -, -, -, hsigM⟩ := zcw_spec hnamed (C.hts _ w4)
  cases hmethM.symm.trans hmethM'
  obtain ⟨c2, r2, m2, q1, q2, q3, q4, kP, hkP, hkPi⟩ := Cond.selects_spec (C.hts _ wsel)
  cases hcls.symm.trans q1
  cases (State.methodFound?_of_named hnamed w5).symm.trans q2
  cases hnamed.symm.trans q3
  have hselP : selectMethod e.platform s.vm cellB.cls mk = .method mk := by rw [Launch.admits_selectMethod X.admits]; exact q4
  obtain ⟨vm₁, X₁, hstep₁⟩ := X.invokevirtual C.1 C.2.2.2.1 (C.hts _ w1) hnamed hmethM hstM hkP hkPi w5 (a := b) (cell := cellB) hcell
    (fun z h => by rw [h] at hobj; cases hobj) hselP hmethM habM hkP hkPi (g := F0 m pc ls (av.reverse ++ .ref b :: st)) rfl (argsL := av) (rest := st) (z_len w6 rfl _ hsigM) rfl (by rw [C.2.1]; exact d)
  exact ⟨vm₁, mk, X₁, hnamed, fun tg h => hstep₁ tg fun acts => by rw [doInvoke_state]; exact h⟩
/-- invokespecial of a constructor -/
def zIl (own : String) (ix : Nat) (y : MethodName) (K' : zM) (n : Nat) : Prop := y.name = "<init>" ∧ Cond.methodLink own ix y ∈ ztb ∧ Cond.instanceMethod y ∈ ztb ∧ Cond.initialized y.cls ∈ ztb ∧ K'.2.2.2.1 = none ∧ K'.2.2.2.2.2 = [] ∧ zcw y K' ∈ ztb ∧ (y.cls ≠ "java/lang/invoke/MethodHandle" ∧ y.cls ≠ "java/lang/invoke/VarHandle") ∧ (parseMethodDescriptor y.desc).map (fun d => d.parameters.length) = some n
theorem z_callI' {y : MethodName} {K' : zM} {fr' lo' ix b : Nat} {av : List Value} {o' : Outcome × zS} (w : zIl K.2.2.1 ix y K' av.length) (hM : zMet l D y K' fr' lo' (.ref b :: av) σ o') (hfr : fr' + 1 ≤ fr) (hlo : 8 + (K'.2.1 + 11) + lo' ≤ lo) (d : decode K.1 pc = .ok (.invokespecial ix, 3)) (hst : (st.map fun v => v.category).sum ≤ 8)
    (kr : ∀ v, o'.1 = .returned v → Z l D K fr lo out (pc + 3) lv (v.toList ++ st) o'.2) (kt : ∀ a, o'.1 = .threw a → ZT l D K fr lo out pc lv st o'.2 a) : Z l D K fr lo out pc lv (av.reverse ++ .ref b :: st) σ := by
  obtain ⟨w0, w1, w2, w3, wr, we, w4, w5, w6⟩ := w
  refine Z.call hM w4 w3 hfr hlo d hst (fun {p e R s m args below meth c T locs cells slots ls} C hK hH X => ?_) kr kt
  have hpl : e.platform.magicAccessors = ({} : Platform).magicAccessors := by rw [X.admits.platform]
  have hcode : (Cond.code y K'.1 K'.2.1 none).before args s = true := by
    have h := C.hts _ w4
    unfold zcw at h
    rw [we, wr] at h
    exact h
  obtain ⟨mk, methM, cM, kP, vm₁, hnamed, hmethM, hcodeM, -, hlocalsM, -, hkP, -, hW₁, hstep₁⟩ := Steps.initColdArgs (e := e) X.here C.1 X.warmed hpl C.2.2.2.1 w0 w5 (C.hts _ w1) (C.hts _ w2) hcode (f := F0 m pc ls (av.reverse ++ .ref b :: st)) rfl (z_len w6 rfl) rfl (by rw [C.2.1]; exact d)
  exact ⟨vm₁, mk, X.noted hW₁, hnamed, fun tg h => hstep₁ tg fun acts => by rw [doInvoke_state]; exact h⟩
/-! ends -/
theorem W.mono {p : Program} {e : Env} {R : Room} {s : State} {m : MethodId} {args : Array Value} {below : List Frame} {meth : Method} {c : Code} {H : Heap} {locs : List Loc} {cells slots : Nat} {Q Q' : State → Prop} {g : JFrame} (w : W p l e R s m args below meth c H locs cells slots Q g) (h : ∀ t, Q t → Q' t) : W p l e R s m args below meth c H locs cells slots Q' g := fun T hT X => by
  obtain ⟨t, a, b⟩ := w T hT X
  exact ⟨t, a, h t b⟩
theorem Z.ret {v : Option Value} (ho : out = (.returned v, σ))
    (h : ∀ {p : Program} {e : Env} {R : Room} {s : State} {m : MethodId} {args : Array Value} {below : List Frame} {meth : Method} {c : Code} {H : Heap} {locs : List Loc} {cells slots : Nat} {ls : Array Slot} {Qc : Array Value → State → Outcome → State → Prop} {free : Addr → Prop}, zC p s m args meth c K → (∀ t : State, t.heap = H → s.WarmedH t.vm → Qc args s (.returned v) t) → (∀ q ∈ locs, free q.base) →
      W p l e R s m args below meth c H locs cells slots (MQ below Qc args s cells slots free) (F0 m pc ls st)) : Z l D K fr lo out pc lv st σ := by
  subst ho
  refine ⟨⟨Nat.le_refl _, Nat.le_refl _⟩, fun p e R s m args below meth c C f1 f2 hK A ls H locs cells slots b1 b2 b3 b4 b5 b6 b7 => ?_⟩
  refine (h (Qc := fun _ _ o t => o = .returned v ∧ t.heap = H) (free := A) C (fun t ht _ => ⟨rfl, ht⟩) b3.2.2).mono (fun t ht => ?_)
  obtain ⟨o, t1, t2, ⟨rfl, t3⟩, L, ⟨-, t4, t5⟩, t6⟩ := ht
  refine ⟨t1, t2, by rw [t3]; exact b4, ⟨by rw [t3]; exact b3.1, fun q h1 h2 => by rw [t3]; exact b3.2.1 q h1 h2⟩, b2, t4, L, ?_, t6⟩
  rw [Nat.sub_self, Nat.sub_self]
  exact t5
theorem z_vret (hr : K.2.2.2.1 = none) (ho : out = (.returned none, σ)) (d : decode K.1 pc = .ok (.return_, 1)) : Z l D K fr lo out pc lv [] σ := Z.ret ho fun C hq hf => W.vret C.1 C.2.1 (C.2.2.2.2.1.trans hr) hq hf d C.2.2.2.2.2.2.1
theorem z_iret {v : Int32} (hr : K.2.2.2.1 = some .int) (ho : out = (.returned (some (.int v)), σ)) (d : decode K.1 pc = .ok (.ireturn, 1)) : Z l D K fr lo out pc lv [.int v] σ := Z.ret ho fun C hq hf => W.iret C.1 C.2.1 (C.2.2.2.2.1.trans hr) hq hf d C.2.2.2.2.2.2.1
theorem z_zret {v : Int32} {ty : FieldType} (hr : K.2.2.2.1 = some ty) (hn : narrow ty (.int v) = .int v) (ho : out = (.returned (some (.int v)), σ)) (d : decode K.1 pc = .ok (.ireturn, 1)) : Z l D K fr lo out pc lv [.int v] σ := Z.ret ho fun C hq hf => W.zret C.1 C.2.1 (C.2.2.2.2.1.trans hr) hn hq hf d C.2.2.2.2.2.2.1
theorem z_lret {v : Int64} (hr : K.2.2.2.1 = some .long) (ho : out = (.returned (some (.long v)), σ)) (d : decode K.1 pc = .ok (.lreturn, 1)) : Z l D K fr lo out pc lv [.long v] σ := Z.ret ho fun C hq hf => W.lret C.1 C.2.1 (C.2.2.2.2.1.trans hr) hq hf d C.2.2.2.2.2.2.1
theorem z_aret {r : Option Nat} {rt : FieldType} (hr : K.2.2.2.1 = some rt) (hrt : (∃ n, rt = .object n) ∨ ∃ t, rt = .array t) (ho : out = (.returned (some (va_rf r)), σ)) (d : decode K.1 pc = .ok (.areturn, 1)) : Z l D K fr lo out pc lv [va_rf r] σ := Z.ret ho fun C hq hf => W.aret C.1 C.2.1 (C.2.2.2.2.1.trans hr) hrt (by cases r with | none => exact Or.inl rfl | some a => exact Or.inr ⟨a, rfl⟩) hq hf d C.2.2.2.2.2.2.1
/-- no handler covers the place: the method ends with the exception -/
theorem zt_out {a : Nat} (ho : out = (.threw a, σ)) (hh : (tableOf K.2.2.2.2.2).all (fun x => !covers x pc) = true) : ZT l D K fr lo out pc lv st σ a := by
  subst ho
  refine ⟨⟨Nat.le_refl _, Nat.le_refl _⟩, fun p e R s m args below meth c C f1 f2 hK A ls H locs cells slots b1 b2 b3 b4 b5 b6 b7 => ?_⟩
  intro T hT X
  obtain ⟨t1, t2, t3, t4, t5⟩ := X.leaveThrown a (g := F0 m pc ls st) rfl rfl rfl (fun x hx => by rw [C.2.2.2.2.2.2.2.1] at hx; have h9 : (!covers x pc) = true := List.all_eq_true.mp hh x hx; show covers x pc = false; cases h8 : covers x pc with | false => rfl | true => rw [h8] at h9; cases h9) C.2.2.2.2.2.2.1
  have t6 : (T.setFrames (.throwing a :: below)).heap = H := hT
  refine ⟨_, t1, t2, t3, by rw [t6]; exact b4, ⟨by rw [t6]; exact b3.1, fun q h1 h2 => by rw [t6]; exact b3.2.1 q h1 h2⟩, b2, t4, locs, ?_, b3.2.2⟩
  rw [Nat.sub_self, Nat.sub_self]
  exact t5
end ZC2
