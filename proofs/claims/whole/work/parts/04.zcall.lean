/-! ===== contracts over a world, and calls ===== -/
def zA (σ : zS) : Nat → Prop := fun q => (∃ y : zY, σ.2.2 q = some (true, y)) ∨ σ.1 ≤ q
def zPre (D : zD) (av : List Value) (σ : zS) : Array Value → State → Prop := fun a U => a = av.toArray ∧ zH D σ U.heap ∧ zK D U
def zPost (D : zD) (σ : zS) (out : Outcome × zS) : Array Value → State → Outcome → State → Prop := fun _ s o t => o = out.1 ∧ zH D out.2 t.heap ∧ va_F (zA σ) s t ∧ (∀ (a : Nat) (y : zY), out.2.2.2 a = some (true, y) → zA σ a) ∧ s.WarmedH t.vm ∧ ∃ L : List Loc, s.sameButNew ({ t with vm := s.vm } : State) L (out.2.1 - σ.1) (out.2.2.1 - σ.2.1) ∧ ∀ q ∈ L, zA σ q.base
/-- the word that says a method's code -/
def zcw (y : MethodName) (K : zM) : Cond := match K.2.2.2.2.2 with
  | [] => .code y K.1 K.2.1 K.2.2.2.1
  | h :: hs => .codeWith y K.1 K.2.1 K.2.2.2.1 (h :: hs)
def zMet (l : Launch) (D : zD) (y : MethodName) (K : zM) (fr lo : Nat) (av : List Value) (σ : zS) (out : Outcome × zS) : Prop :=
  (σ.1 ≤ out.2.1 ∧ σ.2.1 ≤ out.2.2.1) ∧ MetFree l y (headSpec (zcw y K :: ztb) { frames := fr, cells := out.2.1 - σ.1, slots := out.2.2.1 - σ.2.1, locals := lo }) (zPre D av σ) (fun _ _ _ _ _ => True) (zPost D σ out)
theorem zcw_spec {y : MethodName} {K : zM} {args : Array Value} {s : State} {m : MethodId} (hn : s.methodNamed? y = some m) (h : (zcw y K).before args s = true) :
    ∃ meth c, s.vm.method? m = some meth ∧ meth.code = some c ∧ c.code = K.1 ∧ c.maxLocals = K.2.1 ∧ meth.sig.returnType = K.2.2.2.1 ∧ meth.locks = false ∧ c.exceptionTable.toList = tableOf K.2.2.2.2.2 ∧ parseMethodDescriptor y.desc = some meth.sig := by
  unfold zcw at h
  split at h
  · rename_i he
    obtain ⟨meth, c, h1, h2, h3, h4, h5, h6, h7, h8⟩ := Cond.code_spec hn h
    refine ⟨meth, c, h1, h2, h3, h4, h5, h6, ?_, h8⟩
    have h9 : c.exceptionTable = #[] := by simpa using h7
    rw [he, h9]
    rfl
  · rename_i hh hs he
    obtain ⟨m9, meth, c, hn9, h1, h2, h3, h4, h7, h5, h6, h8⟩ := Cond.codeWith_spec h
    cases hn.symm.trans hn9
    exact ⟨meth, c, h1, h2, h3, h4, h5, h6, by rw [he, ← h7]; exact (table_eq _).symm, h8⟩
/-- a method's contract out of the walk of its body -/
theorem zMet.ofZ {l : Launch} {D : zD} {y : MethodName} {K : zM} {fr lo : Nat} {av : List Value} {σ : zS} {out : Outcome × zS} (hy : plainName y.cls = true) (hcls : K.2.2.1 = y.cls) (hini : K.2.2.2.2.1 = true → y.name = "<init>") (hlen : (lg_sl av).length ≤ K.2.1) (h : Z l D K fr lo out 0 (lv_args 0 av) [] σ) : zMet l D y K fr lo av σ out := by
  refine ⟨h.1, ?_⟩
  refine MetFree.of_bodyS (code := K.1) (maxLocals := K.2.1) (ret := K.2.2.2.1) hy ?_ ?_
  · intro args s m hp hn
    obtain ⟨meth, c, h1, h2, h3, h4, h5, h6, -, -⟩ := zcw_spec hn (atoms_spec (ws := zcw y K :: ztb) hp _ List.mem_cons_self)
    exact ⟨meth, c, h1, h2, h3, h4, h5, h6⟩
  · intro p e s m args below meth c s₁ B hml hP _
    obtain ⟨rfl, hH, hK⟩ := hP
    have hts := atoms_spec (ws := zcw y K :: ztb) B.pre
    obtain ⟨meth', c', g1, g2, g3, g4, g5, g6, g7, g8⟩ := zcw_spec B.named (hts _ List.mem_cons_self)
    have em : meth' = meth := Option.some.inj (g1.symm.trans B.method)
    subst em
    have hcode : meth'.code = some c := by
      have h := B.here.code
      rw [State.code?_eq, B.method₁] at h
      exact h
    have ec : c' = c := Option.some.inj (g2.symm.trans hcode)
    subst ec
    have C : zC p s m av.toArray meth' c' K := ⟨B.exec, B.bytes, hml, by rw [hcls]; exact findClass_of_methodNamed B.named, B.returns, fun hi => by rw [(name_of_methodNamed B.named B.method).1]; exact hini hi, B.notSynchronized, g7, fun w hw => hts w (List.mem_cons_of_mem _ hw)⟩
    have hl := lv_entry av (n := K.2.1) hlen
    have hh0 : s₁.heap = s.heap := by rw [B.state]; rfl
    have hA : ∀ q, s.heap.size ≤ q → zA σ q := fun q hq => Or.inr (by rw [← hH.1]; exact hq)
    have hA2 : ∀ (a : Nat) (y : zY), σ.2.2 a = some (true, y) → zA σ a := fun a y hx => Or.inl ⟨y, hx⟩
    have w := h.2 p e (headSpec (zcw y K :: ztb) { frames := fr, cells := out.2.1 - σ.1, slots := out.2.2.1 - σ.2.1, locals := lo }).room s m av.toArray below meth' c' C (Nat.le_refl _) (Nat.le_refl _) hK (zA σ) _ s.heap [] 0 0 hA hA2 va_S.rf hH hl (by rw [Nat.zero_add]; exact Nat.le_refl _) (by rw [Nat.zero_add]; exact Nat.le_refl _)
    have w2 : W p l e (headSpec (zcw y K :: ztb) { frames := fr, cells := out.2.1 - σ.1, slots := out.2.2.1 - σ.2.1, locals := lo }).room s m av.toArray below meth' c' s.heap [] 0 0 (zQ D below s (zA σ) (0 + (out.2.1 - σ.1)) (0 + (out.2.2.1 - σ.2.1)) out) (entryFrame m av.toArray K.2.1) := by
      rw [lg_entry_eq]
      exact w
    obtain ⟨t, a1, t1, t2, t3, t4, t5, t6, L, t7, t8⟩ := w2 s₁ hh0 (Stand.of_body B)
    rw [Nat.zero_add, Nat.zero_add] at t7
    exact ⟨t, out.1, a1, t1, t2, rfl, t3, t4, t5, t6, L, t7, t8⟩
section ZCALL
variable {l : Launch} {D : zD} {K : zM} {fr lo : Nat} {out : Outcome × zS} {pc pc' : Nat} {lv lv' : List (Nat × Value)} {st st' : List Value} {σ σ' : zS}
variable {p : Program} {e : Env} {R : Room} {s : State} {m : MethodId} {args : Array Value} {below : List Frame} {meth : Method} {c : Code}
/-- behind a call: back in the caller, or with the exception above its frame -/
def zBehind (p : Program) (e : Env) (below : List Frame) (S0 T' : State) (g : JFrame) (len : Nat) (o : Outcome) : Prop := match o with
  | .returned v => Steps p.tables e below S0 (T'.setTop { g with pc := g.pc + len, stack := v.toList ++ g.stack })
  | .threw a => Steps p.tables e below S0 ((T'.setTop g).pushFrame (.throwing a))
theorem zRun {y : MethodName} {K' : zM} {fr' lo' : Nat} {av : List Value} {o' : Outcome × zS} {U : State} {Ls : List Loc} {c0 s0 : Nat} {g : JFrame} {ig : Instr} {len : Nat} {mk : MethodId} (hM : zMet l D y K' fr' lo' av σ o') (X : Stand p l e R s m args below meth c U Ls c0 s0) (hg : g.method = m) (hsize : g.locals.size = c.maxLocals) (hdg : decode c.code g.pc = .ok (ig, len))
    (hW : 2 * g.monitorRoom + (g.stack.map fun v => v.category).sum ≤ 8) (hn : U.methodNamed? y = some mk) (hws : ∀ w ∈ zcw y K' :: ztb, w.before av.toArray U = true) (hini : Cond.initialized y.cls ∈ ztb) (hfr : fr' + 1 ≤ R.frames) (hlo : 8 + (K'.2.1 + 11) + lo' ≤ R.locals)
    (h4 : c0 + (o'.2.1 - σ.1) ≤ R.cells) (h5 : s0 + (o'.2.2.1 - σ.2.1) ≤ R.slots) (hH : zH D σ U.heap) (hK : zK D U) :
    ∃ (T' : State) (L : List Loc), Stand p l e R s m args below meth c T' (Ls ++ L) (c0 + (o'.2.1 - σ.1)) (s0 + (o'.2.2.1 - σ.2.1)) ∧ zH D o'.2 T'.heap ∧ (U.heap.size ≤ T'.heap.size ∧ ∀ q : Nat, q < U.heap.size → ¬ zA σ q → T'.heap[q]? = U.heap[q]?) ∧ (∀ q ∈ L, zA σ q.base) ∧ (∀ (a : Nat) (y : zY), o'.2.2.2 a = some (true, y) → zA σ a) ∧ zBehind p e below (doInvoke e (U.setTop g) [] mk av.toArray).1 T' g len o'.1 := by
  obtain ⟨hmono, hM⟩ := hM
  obtain ⟨methY, cY, hmY, hcY, -, hlY, -, -, -, -⟩ := zcw_spec hn (hws _ List.mem_cons_self)
  obtain ⟨kY, hkY, -⟩ := className_of_methodNamed hn
  have hinitY : kY.init = .initialized := Cond.initialized_spec (findClass_of_methodNamed hn) hkY (hws _ (List.mem_cons_of_mem _ hini))
  have h : At U g.method c below := by rw [hg]; exact X.here
  have happ : (headSpec (zcw y K' :: ztb) { frames := fr', cells := o'.2.1 - σ.1, slots := o'.2.2.1 - σ.2.1, locals := lo' }).appliesLoose y e.platform (U.calling g mk av.toArray) = true :=
    Spec.appliesLoose_calling (g := g) h hdg hn hkY hinitY
      (X.room_calling (g := g) (R' := { frames := fr', cells := o'.2.1 - σ.1, slots := o'.2.2.1 - σ.2.1, locals := lo' }) hsize hmY hcY hfr (by rw [hlY]; show _ + _ + lo' ≤ _; omega) h4 h5) (atoms_intro hws)
  obtain ⟨mid, hmid⟩ := h.above
  have hfr2 : (U.setTop g).frames = (.java g :: mid) ++ below := by rw [State.frames_setTop' g h.top, hmid]; rfl
  obtain ⟨o, s₂, hsteps, -, hend, hq⟩ := Steps.callFree hM p X.admits X.cas X.clock (acts := []) hfr2 happ ⟨rfl, hH, hK.same rfl⟩ trivial
  have hq' : zPost D σ o' av.toArray (U.calling g mk av.toArray) o s₂ := hq
  rw [State.frames_setTop' g h.top] at hend
  obtain ⟨rfl, z1, z2, z3, hW₂, L, ⟨e2, q2, q3, q4, q5, q6⟩, z4⟩ := hq'
  have e3 : s₂ = ({ (U.calling g mk av.toArray).setFrames s₂.frames with heap := s₂.heap, slotsUsed := s₂.slotsUsed } : State).setVm s₂.vm := by
    have : s₂ = ({ s₂ with vm := (U.calling g mk av.toArray).vm } : State).setVm s₂.vm := rfl
    rw [e2] at this
    exact this
  have hW' : U.WarmedH s₂.vm := hW₂
  obtain ⟨g₀, hg0⟩ := Option.isSome_iff_exists.mp h.top
  obtain ⟨r, hr⟩ := State.topJava?_eq_some.mp hg0
  have hr' : (({ U with heap := s₂.heap, slotsUsed := s₂.slotsUsed } : State).setVm s₂.vm).frames = .java g₀ :: r := hr
  have hsame : U.sameButNew ({ U with heap := s₂.heap, slotsUsed := s₂.slotsUsed } : State) L (o'.2.1 - σ.1) (o'.2.2.1 - σ.2.1) := by
    refine ⟨?_, q2, q3, q4, q5, q6⟩
    obtain ⟨t, ht, -⟩ := State.frames_cons hr
    show ({ U with heap := s₂.heap, slotsUsed := s₂.slotsUsed } : State) = { U.setFrames U.frames with heap := s₂.heap, slotsUsed := s₂.slotsUsed }
    rw [State.setFrames_self ht]
  subst hg
  refine ⟨({ U with heap := s₂.heap, slotsUsed := s₂.slotsUsed } : State).setVm s₂.vm, L,
    ⟨X.admits, X.cas, X.clock, X.frames, X.room, X.hears, X.method, X.code, (X.here.setHeapUsed s₂.heap s₂.slotsUsed).setVm hW'.alike, X.tail, State.WarmedH.trans X.warmed hW', X.limits, X.bytes, X.same.trans (hsame.setVm s.vm)⟩, z1, z2, z4, z3, ?_⟩
  unfold zBehind
  split
  · rename_i v hv
    rw [hv] at hend
    obtain ⟨c₂, i₂, len₂, hc₂, hd₂, hf₂⟩ := hend
    have hcc : c₂ = c := by
      have h1 : s₂.code? g.method = U.code? g.method := by
        rw [State.code?_eq, State.code?_eq, hW'.alike.method?]
      exact Option.some.inj (hc₂.symm.trans (h1.trans h.code))
    subst hcc
    have hlen : len₂ = len := by rw [hdg] at hd₂; cases hd₂; rfl
    subst hlen
    have hs₂ : s₂ = (({ U with heap := s₂.heap, slotsUsed := s₂.slotsUsed } : State).setVm s₂.vm).setTop { g with pc := g.pc + len₂, stack := v.toList ++ g.stack } := by
      refine e3.trans ?_
      rw [hf₂, State.calling_eq h.top, State.setFrames_setFrames, State.setTop_of_frames _ hr', hr]
      rfl
    rw [← hs₂]
    exact hsteps
  · rename_i a hv
    rw [hv] at hend
    have hf₂ : s₂.frames = .throwing a :: .java g :: U.frames.tail := hend
    have hs₂ : s₂ = ((({ U with heap := s₂.heap, slotsUsed := s₂.slotsUsed } : State).setVm s₂.vm).setTop g).pushFrame (.throwing a) := by
      refine e3.trans ?_
      rw [hf₂, State.calling_eq h.top, State.setFrames_setFrames, State.pushFrame, State.frames_setTop _ hr', State.setTop_of_frames _ hr', State.setFrames_setFrames, hr]
      rfl
    rw [← hs₂]
    exact hsteps
end ZCALL
