/-! ===== a catch of a class that may be linked there ===== -/
theorem z_stepCold {e : Env} {s : State} {a : Addr} {f : JFrame} {r : List Frame} {pc : Nat} {vm' : Vm} (htr : ∀ (Q : Handler → Pre) (E : CtlPost) (d : Bool) (acts : List Action), wp (findHandler f a) Q E e d acts s ↔ wp (findHandler f a) Q E e d acts (s.setVm vm')) (hfind : Finds e (s.setVm vm') f a (.found pc)) :
    (stepThrowing e s a (.java f :: r)).Is ((s.setVm vm').setFrames (.java { f with pc := pc, stack := [.ref a] } :: r)) [] := by
  simp only [stepThrowing, searchFrame, vmDo]
  generalize hr : Sem.go _ e false [] s = res
  obtain ⟨as, rfl, ha⟩ := Sem.eq_ok_of hr (a := Handler.found pc) (s' := s.setVm vm') (acts' := []) (by simp [htr, hfind _ _ _ _])
  exact ⟨rfl, ha⟩
theorem z_findCold {e : Env} {s : State} {a : Addr} {f : JFrame} {vm' : Vm} {meth : Method} {code : Code} {x : ExceptionTableEntry} {c : ClassId} (hm : s.vm.method? f.method = some meth) (hm' : vm'.method? f.method = some meth) (hc : meth.code = some code) (hsp : code.exceptionTable.toList = [x]) (hx : covers x f.pc = true) (h0 : x.catchType ≠ 0)
    (hg : (Jvm.resolveClass f.method.cls x.catchType).Gives e.toSetting s.vm (.ok c) vm') (hr : vm'.classReady f.method.cls x.catchType c) (hsz : vm'.classes.size ≤ s.vm.classes.size) :
    ∀ (Q : Handler → Pre) (E : CtlPost) (d : Bool) (acts : List Action), wp (findHandler f a) Q E e d acts s ↔ wp (findHandler f a) Q E e d acts (s.setVm vm') := by
  intro Q E d acts
  rw [W.findHandler_eq hm hc, W.findHandler_eq (s := s.setVm vm') hm' hc, hsp]
  obtain ⟨ha, ht⟩ := hg.op (op := VmOp.resolveClass f.method.cls x.catchType) rfl
  obtain ⟨k, hkd, hres⟩ := hr
  have hmemo := resolveClass_memo e hkd hres
  simp only [covers] at hx
  simp [findHandler.go, hx, h0, ha, ht, hsz, hmemo, VmOp.dirties, VmOp.acts]
  exact Iff.rfl
theorem z_caught {tb : Tables} {e : Env} {s target : State} {g : JFrame} {c : Code} {below : List Frame} {a : Addr} {pc : Nat} {vm' : Vm} (h : At s g.method c below) (htr : ∀ (Q : Handler → Pre) (E : CtlPost) (d : Bool) (acts : List Action), wp (findHandler g a) Q E e d acts ((s.setTop g).pushFrame (.throwing a)) ↔ wp (findHandler g a) Q E e d acts (((s.setTop g).pushFrame (.throwing a)).setVm vm'))
    (hfind : Finds e (((s.setTop g).pushFrame (.throwing a)).setVm vm') g a (.found pc)) (hrest : Steps tb e below ((s.setVm vm').setTop { g with pc := pc, stack := [.ref a] }) target) : Steps tb e below ((s.setTop g).pushFrame (.throwing a)) target := by
  obtain ⟨hgo, hw⟩ := h.throwing a
  refine Steps.head hgo hw ?_
  rw [stepThread_throwing (frames_entered h.top _), (z_stepCold (s := (s.setTop g).pushFrame (.throwing a)) htr hfind).1]
  obtain ⟨g₀, hg⟩ := Option.isSome_iff_exists.mp h.top
  obtain ⟨r, hr⟩ := State.topJava?_eq_some.mp hg
  have hr' : (s.setVm vm').frames = .java g₀ :: r := hr
  rw [State.setTop_of_frames _ hr'] at hrest
  rw [State.pushFrame, State.setTop_of_frames _ hr]
  show Steps tb e below ((((s.setVm vm').setFrames _).setFrames _).setFrames _) target
  rw [State.setFrames_setFrames, State.setFrames_setFrames, hr]
  exact hrest
section ZCATCH
variable {l : Launch} {D : zD} {K : zM} {fr lo : Nat} {out : Outcome × zS} {pc pc' : Nat} {lv lv' : List (Nat × Value)} {st st' : List Value} {σ σ' : zS}
theorem zt_catch {a ci ix tgt s0 e0 : Nat} (w : zCl K.2.2.1 ix ci) (hh : tableOf K.2.2.2.2.2 = [⟨s0, e0, tgt, ix⟩]) (hcov : covers (⟨s0, e0, tgt, ix⟩ : ExceptionTableEntry) pc = true) (hix : ix ≠ 0) (hc : zcls σ a = some ci) (k : Z l D K fr lo out tgt lv [.ref a] σ) : ZT l D K fr lo out pc lv st σ a := by
  obtain ⟨C0, nm, T0, N, w1, w2, w3⟩ := w
  refine ⟨k.1, fun p e R s m args below meth c C f1 f2 hK A ls H locs cells slots b1 b2 b3 b4 b5 b6 b7 => ?_⟩
  intro T hT X
  obtain ⟨bo, fs, hb⟩ := zcls_at hc
  obtain ⟨cell, g1, g2, g3⟩ := z_recv hK b4 w1 hb
  have g3 : s.vm.findClass C0 = some cell.cls := g3
  have hpl : e.platform.magicAccessors = ({} : Platform).magicAccessors := by rw [X.admits.platform]
  obtain ⟨cT, hcT, hcl⟩ := Cond.classLink_spec C.2.2.2.1 (C.hts _ w2) e.platform hpl
  have hasg : s.vm.assignable cell.cls cT = true := by
    rcases w3 with rfl | w3
    · have hcl9 : ClassAt s C0 (D.1.1 ci) := (hK.1.1 ci _ w1).2
      have e1 : cT = D.1.1 ci := Option.some.inj (hcT.symm.trans hcl9.1)
      have e2 : cell.cls = D.1.1 ci := Option.some.inj (g3.symm.trans hcl9.1)
      rw [e1, e2]
      exact va_assign hcl9
    · obtain ⟨c3, t3, w1, w2, w3⟩ := Cond.castable_spec (C.hts _ w3)
      have e1 : cT = t3 := Option.some.inj (hcT.symm.trans w2)
      have e2 : cell.cls = c3 := Option.some.inj (g3.symm.trans w1)
      rw [e1, e2]
      exact w3
  obtain ⟨dk, _, _, kt, hd, _, _, _, _, hkt, _, hopen⟩ := hcl.here
  have hcl₀ := X.warmed.classLinks hcl
  have hW' : s.WarmedH (T.vm.noted m.cls ix (.cls cT)) := X.warmed.noted hd hopen (State.rightAt_cls hcl)
  obtain ⟨kC, hkC, -⟩ := Vm.findClass_spec g3
  obtain ⟨ks', hks', -⟩ := hW'.alike.2.2 _ _ hkC
  obtain ⟨kt', hkt', -⟩ := hW'.alike.2.2 _ _ hkt
  have X' := X.noted hW'
  obtain ⟨t, a1, a2⟩ := k.2 p e R s m args below meth c C f1 f2 hK A ls H locs cells slots b1 b2 b3 b4 b5 b6 b7 (T.setVm (T.vm.noted m.cls ix (.cls cT))) hT X'
  have hm : T.vm.method? m = some meth := by rw [X.warmed.alike.method?]; exact X.method
  have hm' : (T.vm.noted m.cls ix (.cls cT)).method? m = some meth := by rw [hW'.alike.method?]; exact X.method
  have htab : c.exceptionTable.toList = [⟨s0, e0, tgt, ix⟩] := by rw [C.2.2.2.2.2.2.2.1]; exact hh
  have v1 := Stand.throwing_vm T (F0 m pc ls st) a
  have v2 := Stand.throwing_heap T (F0 m pc ls st) a
  refine ⟨t, z_caught (g := F0 m pc ls st) (vm' := T.vm.noted m.cls ix (.cls cT)) X.here (z_findCold (f := F0 m pc ls st) (by rw [v1]; exact hm) hm' X.code htab hcov hix (by rw [v1]; exact resolveClass_links e.toSetting hcl₀) hcl₀.ready ?_) ?_ a1, a2⟩
  · rw [v1]
    exact Nat.le_of_eq (Vm.size_noted ..)
  · refine Finds.catchReady (f := F0 m pc ls st) (c := cT) (cell := cell) hm' X.code [] ⟨s0, e0, tgt, ix⟩ [] htab (fun y hy => by cases hy) hcov hix hcl₀.ready ?_ (VmData.ne_statics_of g2) ⟨ks', hks'⟩ ⟨kt', hkt'⟩ ?_
    · show ((T.setTop (F0 m pc ls st)).pushFrame (.throwing a)).heap[a]? = some cell
      rw [v2, hT]
      exact g1
    · show (T.vm.noted m.cls ix (.cls cT)).assignable cell.cls cT = true
      rw [hW'.alike.assignable]
      exact hasg
end ZCATCH
/-! ===== a contract out of a walk from the very start: what is new since is known ===== -/
theorem zMet.ofE {l : Launch} {D : zD} {y : MethodName} {K : zM} {fr lo : Nat} {av : List Value} {σ : zS} {out : Outcome × zS} (hy : plainName y.cls = true) (hcls : K.2.2.1 = y.cls) (hini : K.2.2.2.2.1 = true → y.name = "<init>") (hlen : (lg_sl av).length ≤ K.2.1) (hmo : σ.1 ≤ out.2.1 ∧ σ.2.1 ≤ out.2.2.1)
    (h : ∀ (p : Program) (e : Env) (R : Room) (s : State) (m : MethodId) (below : List Frame) (meth : Method) (c : Code) (ls : Array Slot), zC p s m av.toArray meth c K → fr ≤ R.frames → lo ≤ R.locals → zK D s → zH D σ s.heap → lv_has ls K.2.1 (lv_args 0 av) → out.2.1 - σ.1 ≤ R.cells → out.2.2.1 - σ.2.1 ≤ R.slots →
      W p l e R s m av.toArray below meth c s.heap [] 0 0 (zQ D below s (zA σ) (out.2.1 - σ.1) (out.2.2.1 - σ.2.1) out) (F0 m 0 ls [])) : zMet l D y K fr lo av σ out := by
  refine ⟨hmo, ?_⟩
  refine MetFree.of_bodyS (code := K.1) (maxLocals := K.2.1) (ret := K.2.2.2.1) hy ?_ ?_
  · intro args s m hp hn
    obtain ⟨meth, c, h1, h2, h3, h4, h5, h6, -, -⟩ := zcw_spec hn (atoms_spec (ws := zcw y K :: ztb) hp _ List.mem_cons_self)
    exact ⟨meth, c, h1, h2, h3, h4, h5, h6⟩
  · intro p e s m args below meth c s₁ B hml hP _
    obtain ⟨rfl, hH, hK⟩ := hP
    have hts := atoms_spec (ws := zcw y K :: ztb) B.pre
    obtain ⟨meth', c', g1, g2, g3, g4, g5, g6, g7, g8⟩ := zcw_spec B.named (hts _ List.mem_cons_self)
    have em : meth' = meth := Option.some.inj (g1.symm.trans B.method)
    subst em
    have hcode : meth'.code = some c := by
      have h := B.here.code
      rw [State.code?_eq, B.method₁] at h
      exact h
    have ec : c' = c := Option.some.inj (g2.symm.trans hcode)
    subst ec
    have C : zC p s m av.toArray meth' c' K := ⟨B.exec, B.bytes, hml, by rw [hcls]; exact findClass_of_methodNamed B.named, B.returns, fun hi => by rw [(name_of_methodNamed B.named B.method).1]; exact hini hi, B.notSynchronized, g7, fun w hw => hts w (List.mem_cons_of_mem _ hw)⟩
    have hl := lv_entry av (n := K.2.1) hlen
    have hh0 : s₁.heap = s.heap := by rw [B.state]; rfl
    have w := h p e (headSpec (zcw y K :: ztb) { frames := fr, cells := out.2.1 - σ.1, slots := out.2.2.1 - σ.2.1, locals := lo }).room s m below meth' c' _ C (Nat.le_refl _) (Nat.le_refl _) hK hH hl (Nat.le_refl _) (Nat.le_refl _)
    have w2 : W p l e (headSpec (zcw y K :: ztb) { frames := fr, cells := out.2.1 - σ.1, slots := out.2.2.1 - σ.2.1, locals := lo }).room s m av.toArray below meth' c' s.heap [] 0 0 (zQ D below s (zA σ) (out.2.1 - σ.1) (out.2.2.1 - σ.2.1) out) (entryFrame m av.toArray K.2.1) := by
      rw [lg_entry_eq]
      exact w
    obtain ⟨t, a1, t1, t2, t3, t4, t5, t6, L, t7, t8⟩ := w2 s₁ hh0 (Stand.of_body B)
    exact ⟨t, out.1, a1, t1, t2, rfl, t3, t4, t5, t6, L, t7, t8⟩
section ZWL
variable {p : Program} {l : Launch} {e : Env} {R : Room} {s : State} {m : MethodId} {args : Array Value} {below : List Frame} {meth : Method} {c : Code} {H : Heap} {locs : List Loc} {cells slots : Nat} {Q : State → Prop} {ls : Array Slot} {D : zD} {K : zM} {σ : zS} {pc : Nat} {st : List Value}
theorem w_getv {a ci j ix : Nat} {b : Bool} {fs : List Value} {v : Value} (C : zC p s m args meth c K) (hK : zK D s) (hH : zH D σ H) (w : zFl K.2.2.1 ix ci j) (d : decode K.1 pc = .ok (.getfield ix, 3)) (hf : σ.2.2 a = some (b, .inr (ci, fs))) (hv : fs[j]? = some v) (k : W p l e R s m args below meth c H locs cells slots Q (F0 m (pc + 3) ls (v :: st))) : W p l e R s m args below meth c H locs cells slots Q (F0 m pc ls (.ref a :: st)) := by
  obtain ⟨ref, Cn, T, N, w1, w2, w3, w4, w5⟩ := w
  cases b with
  | true => exact va_get (D := D.1) (cl := zcl) (tys := []) (ws := [(a, zTo D.2.1 (.inr (ci, fs)))]) C.1 C.2.1 C.hts w2 C.2.2.2.1 hK.1 (hH.one hf) 0 rfl w1 j w3 (C.hts _ w4) (z_same C.hts w5) hv d k
  | false =>
    obtain ⟨cell, hm, hc⟩ := hH.2.1 a _ hf
    obtain ⟨q, h1, h2, h3, h4, h5⟩ := hK.2.2.1 _ hm
    have hq : q = (Cn, T, N) := Option.some.inj (h1.symm.trans w1)
    subst hq
    obtain ⟨hS, hfc, kC, hkC, hkind⟩ := hK.1.1 ci _ w1
    obtain ⟨cf, kf, fi, f, hi, hsl⟩ := hS j w3
    refine W.getf C.1 C.2.1 C.2.2.2.1 (C.hts _ w4) (z_same C.hts w5 _ hi) (u_facts hfc hkC (u_lays C.hts w2 w3) hi).1 hc h3 (v := v) ?_ rfl rfl d k
    rw [hsl]
    have h6 := h5 j w3
    rw [show D.1.2 (ci, fs).1 j = D.1.2 ci j from rfl] at h6
    rw [h6]
    simp [vp_V, hv]
theorem z_laysStatic {q : String × String × String × Value} (h : zSt D q s) (hH : ∀ q ∈ D.2.2.2.1, s.heap[q.1]? = some q.2) : (Cond.laysStatic q.1 q.2.1 q.2.2.1).before args s = true := by
  obtain ⟨cf, kf, fi, f, b, cell, h1, h2, h3, h4, h5, h6, h7, h8, h9, h10⟩ := h
  have hlt : f.slot < cell.slots.size := (Array.getElem?_eq_some_iff.mp h7).1
  have h11 : s.heap[b]? = some cell := hH _ h5
  simp [Cond.before, Cond.holds, Cond.value, h8, h1, h2, h4, h11, h6, h9, hlt, h10]
theorem z_evStatic {q : String × String × String × Value} (h : zSt D q s) (hH : ∀ q ∈ D.2.2.2.1, s.heap[q.1]? = some q.2) (o : Option Outcome) : (Term.static q.1 q.2.1 q.2.2.1).eval args s o [] s = some q.2.2.2 := by
  obtain ⟨cf, kf, fi, f, b, cell, h1, h2, h3, h4, h5, h6, h7, h8, h9, h10⟩ := h
  have h11 : s.heap[b]? = some cell := hH _ h5
  simp [Term.eval, State.fieldNamed?, h1, h2, h4, h11, h6, h7]
theorem z_isRefStatic {q : String × String × String × Value} {r : Option Nat} (h : zSt D q s) (hr : q.2.2.2 = va_rf r) (hH : ∀ q ∈ D.2.2.2.1, s.heap[q.1]? = some q.2) : (Cond.isRef (.static q.1 q.2.1 q.2.2.1)).before args s = true := by
  have h1 := z_evStatic (args := args) h hH none
  rw [hr] at h1
  cases r with
  | none => simp only [Cond.before, Cond.holds, Cond.value, h1]; rfl
  | some a => simp only [Cond.before, Cond.holds, Cond.value, h1]; rfl
end ZWL
