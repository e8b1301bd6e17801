
/-! ===== a world as ONE function of cells: its size, the slots made, the cells ===== -/
abbrev zY : Type := (Nat × vp_A) ⊕ (Nat × List Value)
/-- a cell of a world: own (true: it may be written) or only read -/
abbrev zE : Type := Bool × zY
abbrev zS : Type := Nat × Nat × (Nat → Option zE)
/-- what never changes: class numbers and slots, array classes, the cells that are only read, the cells of statics, the statics' values, the text constants -/
abbrev zD : Type := va_G × (Nat → ClassId) × List (Nat × Cell × zY) × List (Nat × Cell) × List (String × String × String × Value) × List (String × Nat × String × Nat) × List (String × String) × List (String × Nat)
/-- a method: code, locals, its class, what it returns, whether it is <init>, its handlers -/
abbrev zM : Type := ByteArray × Nat × String × Option FieldType × Bool × List (Nat × Nat × Nat × Nat)
def zTo (dA : Nat → ClassId) (x : zY) : va_E := match x with
  | .inl a => .inl (dA a.1, a.2)
  | .inr o => .inr o
def zcont (x : vp_A) (j : Nat) : Value := match x.2 with
  | .inl f => .int (f j)
  | .inr (.inl f) => .long (f j)
  | .inr (.inr (.inl f)) => .float (f j)
  | .inr (.inr (.inr (.inl f))) => .double (f j)
  | .inr (.inr (.inr (.inr f))) => va_rf (f j)
/-- a cell that is only read -/
def zRo (D : zD) (U : State) (cell : Cell) (y : zY) : Prop := match y with
  | .inl x => ∃ ty : FieldType, zty[x.1]? = some ty ∧ U.isArrayOf cell ty ∧ cell.vm ≠ .unknown ∧ (x.2.1 ≤ cell.slots.size ∧ Int32.ofNat cell.slots.size = Int32.ofNat x.2.1) ∧ ∀ j : Nat, j < x.2.1 → cell.slots[j]? = some (zcont x.2 j)
  | .inr o => ∃ q : vw_C, zcl[o.1]? = some q ∧ cell.vm.isStatics = false ∧ cell.vm ≠ .unknown ∧ U.vm.findClass q.1 = some cell.cls ∧ ∀ k : Nat, k < q.2.2 → cell.slots[D.1.2 o.1 k]? = some (vp_V o.2 k)
def zSt (D : zD) (q : String × String × String × Value) (U : State) : Prop := ∃ (cf : ClassId) (kf : Class) (fi : Nat) (f : Field) (b : Nat) (cell : Cell), U.fieldFound? q.1 q.2.1 q.2.2.1 = some (cf, kf, fi, f) ∧ f.isStatic = true ∧ kf.init = .initialized ∧ kf.statics = some b ∧ (b, cell) ∈ D.2.2.2.1 ∧ cell.vm.isStatics = true ∧ cell.slots[f.slot]? = some q.2.2.2 ∧ U.vm.findClass q.1 = some cf ∧ cell.cls = cf ∧ kf.staticTypes[f.slot]? = some f.type
def zAt (D : zD) (a : Nat) (x : zE) (H : Heap) : Prop := match x with
  | (true, y) => va_at D.1 zcl (a, zTo D.2.1 y) H
  | (false, y) => ∃ cell : Cell, (a, cell, y) ∈ D.2.2.1 ∧ H[a]? = some cell
def zH (D : zD) (σ : zS) (H : Heap) : Prop := H.size = σ.1 ∧ (∀ (a : Nat) (x : zE), σ.2.2 a = some x → zAt D a x H) ∧ ∀ q ∈ D.2.2.2.1, H[q.1]? = some q.2 ∧ σ.2.2 q.1 = none
def zK (D : zD) (U : State) : Prop := va_K D.1 zcl [] U ∧ (∀ (i : Nat) (ty : FieldType), zty[i]? = some ty → ArrOfT U (D.2.1 i) ty ∧ va_RA U (D.2.1 i) ty) ∧ (∀ q ∈ D.2.2.1, zRo D U q.2.1 q.2.2) ∧ (∀ q ∈ D.2.2.2.2.1, zSt D q U) ∧ (∀ q ∈ D.2.2.2.2.2.1, vk_R q.1 q.2.1 q.2.2.1 q.2.2.2 U) ∧ (∀ q ∈ D.2.2.2.2.2.2.1, va_Nc q.1 q.2 U) ∧ ∀ q ∈ D.2.2.2.2.2.2.2, va_Mi q.1 q.2 U
theorem zRo.moved {D : zD} {u U : State} {cell : Cell} {y : zY} (hvm : u.vm.Alike U.vm) (h : zRo D u cell y) : zRo D U cell y := by
  cases y with
  | inl x =>
    obtain ⟨ty, h1, h2, h3⟩ := h
    exact ⟨ty, h1, State.isArrayOf_alike hvm h2, h3⟩
  | inr o =>
    obtain ⟨q, h1, h2, h3, h4, h5⟩ := h
    exact ⟨q, h1, h2, h3, by rw [hvm.findClass]; exact h4, h5⟩
theorem zSt.moved {D : zD} {u U : State} {q : String × String × String × Value} (hvm : u.vm.Alike U.vm) (h : zSt D q u) : zSt D q U := by
  obtain ⟨cf, kf, fi, f, a, cell, h1, h2, h3, h4, h5, h6, h7, h8, h9, h10⟩ := h
  obtain ⟨k', hi', he⟩ := State.fieldFound?_setVm hvm h1
  exact ⟨cf, k', fi, f, a, cell, hi', h2, by rw [he]; exact h3, by rw [he]; exact h4, h5, h6, h7, by rw [hvm.findClass]; exact h8, h9, by rw [he]; exact h10⟩
theorem zK.moved {D : zD} {u U : State} (hW : u.WarmedH U.vm) (h : zK D u) : zK D U := ⟨va_K.moved hW.alike h.1, fun i ty hi => ⟨arrOfT_moved hW.alike (h.2.1 i ty hi).1, (h.2.1 i ty hi).2.moved hW.alike⟩, fun q hq => (h.2.2.1 q hq).moved hW.alike, fun q hq => (h.2.2.2.1 q hq).moved hW.alike, fun q hq => (h.2.2.2.2.1 q hq).warm hW, fun q hq => (h.2.2.2.2.2.1 q hq).moved hW.alike, fun q hq => (h.2.2.2.2.2.2 q hq).moved hW.alike⟩
theorem zK.same {D : zD} {u U : State} (hv : U.vm = u.vm) (h : zK D u) : zK D U := by
  have ha : u.vm.Alike U.vm := by rw [hv]; exact Vm.Alike.refl _
  exact ⟨va_K.moved ha h.1, fun i ty hi => ⟨arrOfT_moved ha (h.2.1 i ty hi).1, (h.2.1 i ty hi).2.moved ha⟩, fun q hq => (h.2.2.1 q hq).moved ha, fun q hq => (h.2.2.2.1 q hq).moved ha, fun q hq => (h.2.2.2.2.1 q hq).same hv, fun q hq => (h.2.2.2.2.2.1 q hq).moved ha, fun q hq => (h.2.2.2.2.2.2 q hq).moved ha⟩
theorem zK.at {D : zD} {U : State} (h : zK D U) {i : Nat} {ty : FieldType} (hi : zty[i]? = some ty) : va_K D.1 zcl [(D.2.1 i, ty)] U := ⟨h.1.1, fun k q hq => by
  have hz : k < 1 := (List.getElem?_eq_some_iff.mp hq).1
  rw [show k = 0 by omega] at hq
  cases hq
  exact h.2.1 i ty hi⟩
theorem zH.one {D : zD} {σ : zS} {H : Heap} (h : zH D σ H) {a : Nat} {y : zY} (hx : σ.2.2 a = some (true, y)) : va_P D.1 zcl [(a, zTo D.2.1 y)] H := fun k q hq => by
  have hz : k < 1 := (List.getElem?_eq_some_iff.mp hq).1
  rw [show k = 0 by omega] at hq
  cases hq
  exact h.2.1 a _ hx
theorem zAt.lt {D : zD} {a : Nat} {x : zE} {H : Heap} (h : zAt D a x H) : a < H.size := by
  obtain ⟨b, y⟩ := x
  cases b with
  | true => exact va_at.lt h
  | false =>
    obtain ⟨cell, -, h2⟩ := h
    exact (Array.getElem?_eq_some_iff.mp h2).1
theorem zAt.kept {D : zD} {a : Nat} {x : zE} {H H1 : Heap} (h : zAt D a x H) (hq : H1[a]? = H[a]?) : zAt D a x H1 := by
  obtain ⟨b, y⟩ := x
  cases b with
  | true => exact va_at.kept h hq
  | false =>
    obtain ⟨cell, h1, h2⟩ := h
    exact ⟨cell, h1, hq.trans h2⟩
theorem zH.lt {D : zD} {σ : zS} {H : Heap} (h : zH D σ H) {a : Nat} {x : zE} (hx : σ.2.2 a = some x) : a < σ.1 := by
  have := (h.2.1 a x hx).lt
  rw [h.1] at this
  exact this
theorem zH.nil {D : zD} {σ : zS} {H : Heap} (h : zH D σ H) {a : Nat} (ha : σ.1 ≤ a) : σ.2.2 a = none := by
  cases hx : σ.2.2 a with
  | none => rfl
  | some x => exact absurd (h.lt hx) (Nat.not_lt.mpr ha)
def zC (p : Program) (s : State) (m : MethodId) (args : Array Value) (meth : Method) (c : Code) (K : zM) : Prop :=
  p.tables.exec = Jvm.exec ∧ c.code = K.1 ∧ c.maxLocals = K.2.1 ∧ s.vm.findClass K.2.2.1 = some m.cls ∧ meth.sig.returnType = K.2.2.2.1 ∧ (K.2.2.2.2.1 = true → meth.name = "<init>") ∧ meth.locks = false ∧ c.exceptionTable.toList = tableOf K.2.2.2.2.2 ∧ ∀ w ∈ ztb, w.before args s = true
def zQ (D : zD) (below : List Frame) (s : State) (A : Nat → Prop) (cE sE : Nat) (out : Outcome × zS) (t : State) : Prop :=
  t.status = .running ∧ Ended t below out.1 ∧ zH D out.2 t.heap ∧ va_F A s t ∧ (∀ (a : Nat) (y : zY), out.2.2.2 a = some (true, y) → A a) ∧ s.WarmedH t.vm ∧ ∃ L : List Loc, s.sameButNew ({ t with vm := s.vm } : State) L cE sE ∧ ∀ q ∈ L, A q.base
/-- from pc on, with these locals, this stack, this world, the method comes to its end 'out' -/
def Z (l : Launch) (D : zD) (K : zM) (fr lo : Nat) (out : Outcome × zS) (pc : Nat) (lv : List (Nat × Value)) (st : List Value) (σ : zS) : Prop :=
  (σ.1 ≤ out.2.1 ∧ σ.2.1 ≤ out.2.2.1) ∧ ∀ (p : Program) (e : Env) (R : Room) (s : State) (m : MethodId) (args : Array Value) (below : List Frame) (meth : Method) (c : Code), zC p s m args meth c K → fr ≤ R.frames → lo ≤ R.locals → zK D s →
    ∀ (A : Nat → Prop) (ls : Array Slot) (H : Heap) (locs : List Loc) (cells slots : Nat), (∀ q, s.heap.size ≤ q → A q) → (∀ (a : Nat) (y : zY), σ.2.2 a = some (true, y) → A a) → va_S A s.heap H locs → zH D σ H → lv_has ls K.2.1 lv → cells + (out.2.1 - σ.1) ≤ R.cells → slots + (out.2.2.1 - σ.2.1) ≤ R.slots →
      W p l e R s m args below meth c H locs cells slots (zQ D below s A (cells + (out.2.1 - σ.1)) (slots + (out.2.2.1 - σ.2.1)) out) (F0 m pc ls st)
/-! what is read off a world -/
def zfs (σ : zS) (a ci : Nat) : Option (List Value) := match σ.2.2 a with
  | some (_, .inr o) => if o.1 = ci then some o.2 else none
  | _ => none
def zar (σ : zS) (a t : Nat) : Option vp_A := match σ.2.2 a with
  | some (_, .inl x) => if x.1 = t then some x.2 else none
  | _ => none
def zown (σ : zS) (a : Nat) : Bool := match σ.2.2 a with
  | some (b, _) => b
  | none => false
theorem zfs_at {σ : zS} {a ci : Nat} {fs : List Value} (h : zfs σ a ci = some fs) : ∃ b, σ.2.2 a = some (b, .inr (ci, fs)) := by
  unfold zfs at h
  split at h
  · rename_i b o ho
    split at h
    · rename_i e
      cases h
      exact ⟨b, by rw [ho, ← e]⟩
    · cases h
  · cases h
theorem zar_at {σ : zS} {a t : Nat} {x : vp_A} (h : zar σ a t = some x) : ∃ b, σ.2.2 a = some (b, .inl (t, x)) := by
  unfold zar at h
  split at h
  · rename_i b o ho
    split at h
    · rename_i e
      cases h
      exact ⟨b, by rw [ho, ← e]⟩
    · cases h
  · cases h
theorem zown_at {σ : zS} {a : Nat} {b : Bool} {y : zY} (h : σ.2.2 a = some (b, y)) (ho : zown σ a = true) : b = true := by
  unfold zown at ho
  rw [h] at ho
  exact ho
def zupd (σ : zS) (a : Nat) (y : zY) : zS := (σ.1, σ.2.1, va_up σ.2.2 a (some (true, y)))
def znew (σ : zS) (n : Nat) (y : zY) : zS := (σ.1 + 1, σ.2.1 + n, va_up σ.2.2 σ.1 (some (true, y)))
def zgI (σ : zS) (a ci k : Nat) : Option Int32 := match zfs σ a ci with
  | some fs => match fs[k]? with
    | some (.int x) => some x
    | _ => none
  | none => none
def zgL (σ : zS) (a ci k : Nat) : Option Int64 := match zfs σ a ci with
  | some fs => match fs[k]? with
    | some (.long x) => some x
    | _ => none
  | none => none
def zgR (σ : zS) (a ci k : Nat) : Option (Option Nat) := match zfs σ a ci with
  | some fs => match fs[k]? with
    | some (.ref x) => some (some x)
    | some .null => some none
    | _ => none
  | none => none
def zpF (σ : zS) (a ci k : Nat) (v : Value) : Option zS := match zfs σ a ci with
  | some fs => if k < fs.length ∧ zown σ a = true then some (zupd σ a (.inr (ci, fs.set k v))) else none
  | none => none
theorem zgI_at {σ : zS} {a ci k : Nat} {x : Int32} (h : zgI σ a ci k = some x) : ∃ b fs, σ.2.2 a = some (b, .inr (ci, fs)) ∧ fs[k]? = some (.int x) := by
  unfold zgI at h
  split at h
  · rename_i fs hfs
    split at h
    · rename_i y hy
      cases h
      exact ⟨_, fs, (zfs_at hfs).choose_spec, hy⟩
    · cases h
  · cases h
theorem zgL_at {σ : zS} {a ci k : Nat} {x : Int64} (h : zgL σ a ci k = some x) : ∃ b fs, σ.2.2 a = some (b, .inr (ci, fs)) ∧ fs[k]? = some (.long x) := by
  unfold zgL at h
  split at h
  · rename_i fs hfs
    split at h
    · rename_i y hy
      cases h
      exact ⟨_, fs, (zfs_at hfs).choose_spec, hy⟩
    · cases h
  · cases h
theorem zgR_at {σ : zS} {a ci k : Nat} {x : Option Nat} (h : zgR σ a ci k = some x) : ∃ b fs, σ.2.2 a = some (b, .inr (ci, fs)) ∧ fs[k]? = some (va_rf x) := by
  unfold zgR at h
  split at h
  · rename_i fs hfs
    split at h
    · rename_i y hy
      cases h
      exact ⟨_, fs, (zfs_at hfs).choose_spec, hy⟩
    · rename_i hy
      cases h
      exact ⟨_, fs, (zfs_at hfs).choose_spec, hy⟩
    · cases h
  · cases h
section ZR
variable {l : Launch} {D : zD} {K : zM} {fr lo : Nat} {out : Outcome × zS} {pc pc' : Nat} {lv lv' : List (Nat × Value)} {st st' : List Value} {σ σ' : zS}
theorem Z.go (k : Z l D K fr lo out pc' lv st' σ)
    (h : ∀ {p : Program} {e : Env} {R : Room} {s : State} {m : MethodId} {args : Array Value} {below : List Frame} {meth : Method} {c : Code} {H : Heap} {locs : List Loc} {cells slots : Nat} {Q : State → Prop} {ls : Array Slot}, zC p s m args meth c K → lv_has ls K.2.1 lv →
      W p l e R s m args below meth c H locs cells slots Q (F0 m pc' ls st') → W p l e R s m args below meth c H locs cells slots Q (F0 m pc ls st)) : Z l D K fr lo out pc lv st σ :=
  ⟨k.1, fun p e R s m args below meth c C f1 f2 hK A ls H locs cells slots b1 b2 b3 b4 b5 b6 b7 => h C b5 (k.2 p e R s m args below meth c C f1 f2 hK A ls H locs cells slots b1 b2 b3 b4 b5 b6 b7)⟩
theorem Z.sto (k : Z l D K fr lo out pc' lv' st' σ)
    (h : ∀ {p : Program} {e : Env} {R : Room} {s : State} {m : MethodId} {args : Array Value} {below : List Frame} {meth : Method} {c : Code} {H : Heap} {locs : List Loc} {cells slots : Nat} {Q : State → Prop} {ls : Array Slot}, zC p s m args meth c K → lv_has ls K.2.1 lv →
      (∀ ls' : Array Slot, lv_has ls' K.2.1 lv' → W p l e R s m args below meth c H locs cells slots Q (F0 m pc' ls' st')) → W p l e R s m args below meth c H locs cells slots Q (F0 m pc ls st)) : Z l D K fr lo out pc lv st σ :=
  ⟨k.1, fun p e R s m args below meth c C f1 f2 hK A ls H locs cells slots b1 b2 b3 b4 b5 b6 b7 => h C b5 (fun ls' b5' => k.2 p e R s m args below meth c C f1 f2 hK A ls' H locs cells slots b1 b2 b3 b4 b5' b6 b7)⟩
theorem Z.br {cnd : Prop} {pt pf : Nat} (hd : cnd ∨ ¬ cnd) (kt : cnd → Z l D K fr lo out pt lv st' σ) (kf : ¬ cnd → Z l D K fr lo out pf lv st' σ)
    (h : ∀ {p : Program} {e : Env} {R : Room} {s : State} {m : MethodId} {args : Array Value} {below : List Frame} {meth : Method} {c : Code} {H : Heap} {locs : List Loc} {cells slots : Nat} {Q : State → Prop} {ls : Array Slot}, zC p s m args meth c K → lv_has ls K.2.1 lv →
      (cnd → W p l e R s m args below meth c H locs cells slots Q (F0 m pt ls st')) → (¬ cnd → W p l e R s m args below meth c H locs cells slots Q (F0 m pf ls st')) → W p l e R s m args below meth c H locs cells slots Q (F0 m pc ls st)) : Z l D K fr lo out pc lv st σ :=
  ⟨hd.elim (fun q => (kt q).1) (fun q => (kf q).1), fun p e R s m args below meth c C f1 f2 hK A ls H locs cells slots b1 b2 b3 b4 b5 b6 b7 => h C b5 (fun q => (kt q).2 p e R s m args below meth c C f1 f2 hK A ls H locs cells slots b1 b2 b3 b4 b5 b6 b7) (fun q => (kf q).2 p e R s m args below meth c C f1 f2 hK A ls H locs cells slots b1 b2 b3 b4 b5 b6 b7)⟩
theorem z_iconst {n : Int} {v : Int32} (d : decode K.1 pc = .ok (.iconst n, 1)) (hv : Int32.ofInt n = v) (k : Z l D K fr lo out (pc + 1) lv (.int v :: st) σ) : Z l D K fr lo out pc lv (st) σ :=
  k.go fun C h k => lv_iconst C.1 C.2.1 d hv k
theorem z_bipush {n : Int} {v : Int32} (d : decode K.1 pc = .ok (.bipush n, 2)) (hv : (Int8.ofInt n).toInt32 = v) (k : Z l D K fr lo out (pc + 2) lv (.int v :: st) σ) : Z l D K fr lo out pc lv (st) σ :=
  k.go fun C h k => lv_bipush C.1 C.2.1 d hv k
theorem z_sipush {n : Int} {v : Int32} (d : decode K.1 pc = .ok (.sipush n, 3)) (hv : (Int16.ofInt n).toInt32 = v) (k : Z l D K fr lo out (pc + 3) lv (.int v :: st) σ) : Z l D K fr lo out pc lv (st) σ :=
  k.go fun C h k => lv_sipush C.1 C.2.1 d hv k
theorem z_lconst {n : Fin 2} {v : Int64} (d : decode K.1 pc = .ok (.lconst n, 1)) (hv : Int64.ofNat (n : Nat) = v) (k : Z l D K fr lo out (pc + 1) lv (.long v :: st) σ) : Z l D K fr lo out pc lv (st) σ :=
  k.go fun C h k => lv_lconst C.1 C.2.1 d hv k
theorem z_iadd {x y : Int32} (d : decode K.1 pc = .ok (.iadd, 1)) (k : Z l D K fr lo out (pc + 1) lv (.int (x + y) :: st) σ) : Z l D K fr lo out pc lv (.int y :: .int x :: st) σ :=
  k.go fun C h k => lv_iadd C.1 C.2.1 d k
theorem z_isub {x y : Int32} (d : decode K.1 pc = .ok (.isub, 1)) (k : Z l D K fr lo out (pc + 1) lv (.int (x - y) :: st) σ) : Z l D K fr lo out pc lv (.int y :: .int x :: st) σ :=
  k.go fun C h k => lv_isub C.1 C.2.1 d k
theorem z_imul {x y : Int32} (d : decode K.1 pc = .ok (.imul, 1)) (k : Z l D K fr lo out (pc + 1) lv (.int (x * y) :: st) σ) : Z l D K fr lo out pc lv (.int y :: .int x :: st) σ :=
  k.go fun C h k => lv_imul C.1 C.2.1 d k
theorem z_iand {x y : Int32} (d : decode K.1 pc = .ok (.iand, 1)) (k : Z l D K fr lo out (pc + 1) lv (.int (x &&& y) :: st) σ) : Z l D K fr lo out pc lv (.int y :: .int x :: st) σ :=
  k.go fun C h k => lv_iand C.1 C.2.1 d k
theorem z_ior {x y : Int32} (d : decode K.1 pc = .ok (.ior, 1)) (k : Z l D K fr lo out (pc + 1) lv (.int (x ||| y) :: st) σ) : Z l D K fr lo out pc lv (.int y :: .int x :: st) σ :=
  k.go fun C h k => lv_ior C.1 C.2.1 d k
theorem z_ixor {x y : Int32} (d : decode K.1 pc = .ok (.ixor, 1)) (k : Z l D K fr lo out (pc + 1) lv (.int (x ^^^ y) :: st) σ) : Z l D K fr lo out pc lv (.int y :: .int x :: st) σ :=
  k.go fun C h k => lv_ixor C.1 C.2.1 d k
theorem z_ladd {x y : Int64} (d : decode K.1 pc = .ok (.ladd, 1)) (k : Z l D K fr lo out (pc + 1) lv (.long (x + y) :: st) σ) : Z l D K fr lo out pc lv (.long y :: .long x :: st) σ :=
  k.go fun C h k => lv_ladd C.1 C.2.1 d k
theorem z_lsub {x y : Int64} (d : decode K.1 pc = .ok (.lsub, 1)) (k : Z l D K fr lo out (pc + 1) lv (.long (x - y) :: st) σ) : Z l D K fr lo out pc lv (.long y :: .long x :: st) σ :=
  k.go fun C h k => lv_lsub C.1 C.2.1 d k
theorem z_lmul {x y : Int64} (d : decode K.1 pc = .ok (.lmul, 1)) (k : Z l D K fr lo out (pc + 1) lv (.long (x * y) :: st) σ) : Z l D K fr lo out pc lv (.long y :: .long x :: st) σ :=
  k.go fun C h k => lv_lmul C.1 C.2.1 d k
theorem z_land {x y : Int64} (d : decode K.1 pc = .ok (.land, 1)) (k : Z l D K fr lo out (pc + 1) lv (.long (x &&& y) :: st) σ) : Z l D K fr lo out pc lv (.long y :: .long x :: st) σ :=
  k.go fun C h k => lv_land C.1 C.2.1 d k
theorem z_lor {x y : Int64} (d : decode K.1 pc = .ok (.lor, 1)) (k : Z l D K fr lo out (pc + 1) lv (.long (x ||| y) :: st) σ) : Z l D K fr lo out pc lv (.long y :: .long x :: st) σ :=
  k.go fun C h k => lv_lor C.1 C.2.1 d k
theorem z_lxor {x y : Int64} (d : decode K.1 pc = .ok (.lxor, 1)) (k : Z l D K fr lo out (pc + 1) lv (.long (x ^^^ y) :: st) σ) : Z l D K fr lo out pc lv (.long y :: .long x :: st) σ :=
  k.go fun C h k => lv_lxor C.1 C.2.1 d k
theorem z_ineg {x : Int32} (d : decode K.1 pc = .ok (.ineg, 1)) (k : Z l D K fr lo out (pc + 1) lv (.int (-x) :: st) σ) : Z l D K fr lo out pc lv (.int x :: st) σ :=
  k.go fun C h k => lv_ineg C.1 C.2.1 d k
theorem z_lneg {x : Int64} (d : decode K.1 pc = .ok (.lneg, 1)) (k : Z l D K fr lo out (pc + 1) lv (.long (-x) :: st) σ) : Z l D K fr lo out pc lv (.long x :: st) σ :=
  k.go fun C h k => lv_lneg C.1 C.2.1 d k
theorem z_idiv {x y : Int32} (d : decode K.1 pc = .ok (.idiv, 1)) (hne : ¬ y = 0) (k : Z l D K fr lo out (pc + 1) lv (.int (x / y) :: st) σ) : Z l D K fr lo out pc lv (.int y :: .int x :: st) σ :=
  k.go fun C h k => lv_idiv C.1 C.2.1 d hne k
theorem z_ldiv {x y : Int64} (d : decode K.1 pc = .ok (.ldiv, 1)) (hne : ¬ y = 0) (k : Z l D K fr lo out (pc + 1) lv (.long (x / y) :: st) σ) : Z l D K fr lo out pc lv (.long y :: .long x :: st) σ :=
  k.go fun C h k => lv_ldiv C.1 C.2.1 d hne k
theorem z_ishl {x y : Int32} (d : decode K.1 pc = .ok (.ishl, 1)) (k : Z l D K fr lo out (pc + 1) lv (.int (x <<< (y &&& 31)) :: st) σ) : Z l D K fr lo out pc lv (.int y :: .int x :: st) σ :=
  k.go fun C h k => lv_ishl C.1 C.2.1 d k
theorem z_ishr {x y : Int32} (d : decode K.1 pc = .ok (.ishr, 1)) (k : Z l D K fr lo out (pc + 1) lv (.int (x >>> (y &&& 31)) :: st) σ) : Z l D K fr lo out pc lv (.int y :: .int x :: st) σ :=
  k.go fun C h k => lv_ishr C.1 C.2.1 d k
theorem z_lshl {x v : Int64} {y : Int32} (d : decode K.1 pc = .ok (.lshl, 1)) (hv : x <<< (y.toInt64 &&& 63) = v) (k : Z l D K fr lo out (pc + 1) lv (.long v :: st) σ) : Z l D K fr lo out pc lv (.int y :: .long x :: st) σ :=
  k.go fun C h k => lv_lshl C.1 C.2.1 d hv k
theorem z_i2l {x : Int32} (d : decode K.1 pc = .ok (.i2l, 1)) (k : Z l D K fr lo out (pc + 1) lv (.long x.toInt64 :: st) σ) : Z l D K fr lo out pc lv (.int x :: st) σ :=
  k.go fun C h k => lv_i2l C.1 C.2.1 d rfl k
theorem z_l2i {x : Int64} (d : decode K.1 pc = .ok (.l2i, 1)) (k : Z l D K fr lo out (pc + 1) lv (.int x.toInt32 :: st) σ) : Z l D K fr lo out pc lv (.long x :: st) σ :=
  k.go fun C h k => lv_l2i C.1 C.2.1 d rfl k
theorem z_i2b {x : Int32} (d : decode K.1 pc = .ok (.i2b, 1)) (k : Z l D K fr lo out (pc + 1) lv (.int x.toInt8.toInt32 :: st) σ) : Z l D K fr lo out pc lv (.int x :: st) σ :=
  k.go fun C h k => lv_i2b C.1 C.2.1 d rfl k
theorem z_i2s {x : Int32} (d : decode K.1 pc = .ok (.i2s, 1)) (k : Z l D K fr lo out (pc + 1) lv (.int x.toInt16.toInt32 :: st) σ) : Z l D K fr lo out pc lv (.int x :: st) σ :=
  k.go fun C h k => lv_i2s C.1 C.2.1 d rfl k
theorem z_i2c {x : Int32} (d : decode K.1 pc = .ok (.i2c, 1)) (k : Z l D K fr lo out (pc + 1) lv (.int (x.toUInt32 % 65536).toInt32 :: st) σ) : Z l D K fr lo out pc lv (.int x :: st) σ :=
  k.go fun C h k => lv_i2c C.1 C.2.1 d rfl k
theorem z_lcmp {x y : Int64} (d : decode K.1 pc = .ok (.lcmp, 1)) (k : Z l D K fr lo out (pc + 1) lv (.int (lg_cmp x y) :: st) σ) : Z l D K fr lo out pc lv (.long y :: .long x :: st) σ :=
  k.go fun C h k => W.lcmp C.1 C.2.1 d k
theorem z_dup {v : Value} (d : decode K.1 pc = .ok (.dup, 1)) (hv : v.category = 1) (k : Z l D K fr lo out (pc + 1) lv (v :: v :: st) σ) : Z l D K fr lo out pc lv (v :: st) σ :=
  k.go fun C h k => lv_dup C.1 C.2.1 d hv k
theorem z_pop {v : Value} (d : decode K.1 pc = .ok (.pop, 1)) (hv : v.category = 1) (k : Z l D K fr lo out (pc + 1) lv (st) σ) : Z l D K fr lo out pc lv (v :: st) σ :=
  k.go fun C h k => lv_pop C.1 C.2.1 d hv k
theorem z_dup_x1 {v w : Value} (d : decode K.1 pc = .ok (.dup_x1, 1)) (hv : v.category = 1) (hw : w.category = 1) (k : Z l D K fr lo out (pc + 1) lv (v :: w :: v :: st) σ) : Z l D K fr lo out pc lv (v :: w :: st) σ :=
  k.go fun C h k => lv_dup_x1 C.1 C.2.1 d hv hw k
theorem z_dup2 {v w : Value} (d : decode K.1 pc = .ok (.dup2, 1)) (hv : v.category = 1) (hw : w.category = 1) (k : Z l D K fr lo out (pc + 1) lv (v :: w :: v :: w :: st) σ) : Z l D K fr lo out pc lv (v :: w :: st) σ :=
  k.go fun C h k => lv_dup2_11 C.1 C.2.1 d hv hw k
theorem z_iload_n {n : Fin 4} {x : Int32} (i : Nat) {j : Nat} (d : decode K.1 pc = .ok (.iload_n n, 1)) (hn : (n : Nat) = j) (hl : lv[i]? = some (j, .int x)) (k : Z l D K fr lo out (pc + 1) lv (.int x :: st) σ) : Z l D K fr lo out pc lv (st) σ :=
  k.go fun C h k => lv_iload_n C.1 C.2.1 d hn (lv_at h i hl) k
theorem z_iload {x : Int32} (i : Nat) {j : Nat} (d : decode K.1 pc = .ok (.iload j, 2)) (hl : lv[i]? = some (j, .int x)) (k : Z l D K fr lo out (pc + 2) lv (.int x :: st) σ) : Z l D K fr lo out pc lv (st) σ :=
  k.go fun C h k => lv_iload C.1 C.2.1 d (lv_at h i hl) k
theorem z_lload_n {n : Fin 4} {x : Int64} (i : Nat) {j : Nat} (d : decode K.1 pc = .ok (.lload_n n, 1)) (hn : (n : Nat) = j) (hl : lv[i]? = some (j, .long x)) (k : Z l D K fr lo out (pc + 1) lv (.long x :: st) σ) : Z l D K fr lo out pc lv (st) σ :=
  k.go fun C h k => lv_lload_n C.1 C.2.1 d hn (lv_at h i hl) k
theorem z_lload {x : Int64} (i : Nat) {j : Nat} (d : decode K.1 pc = .ok (.lload j, 2)) (hl : lv[i]? = some (j, .long x)) (k : Z l D K fr lo out (pc + 2) lv (.long x :: st) σ) : Z l D K fr lo out pc lv (st) σ :=
  k.go fun C h k => lv_lload C.1 C.2.1 d (lv_at h i hl) k
theorem z_aload_n {n : Fin 4} {x : Nat} (i : Nat) {j : Nat} (d : decode K.1 pc = .ok (.aload_n n, 1)) (hn : (n : Nat) = j) (hl : lv[i]? = some (j, .ref x)) (k : Z l D K fr lo out (pc + 1) lv (.ref x :: st) σ) : Z l D K fr lo out pc lv (st) σ :=
  k.go fun C h k => lv_aload_n C.1 C.2.1 d hn (lv_at h i hl) k
theorem z_aload {x : Nat} (i : Nat) {j : Nat} (d : decode K.1 pc = .ok (.aload j, 2)) (hl : lv[i]? = some (j, .ref x)) (k : Z l D K fr lo out (pc + 2) lv (.ref x :: st) σ) : Z l D K fr lo out pc lv (st) σ :=
  k.go fun C h k => lv_aload C.1 C.2.1 d (lv_at h i hl) k
theorem z_istore_n {n : Fin 4} {x : Int32} {j : Nat} (d : decode K.1 pc = .ok (.istore_n n, 1)) (hn : (n : Nat) = j) (hj : j < K.2.1) (hl : (j, Value.int x) :: lv.filter (fun q => !(q.1 == j) && !(q.1 + 1 == j && q.2.category == 2)) = lv') (k : Z l D K fr lo out (pc + 1) lv' st σ) : Z l D K fr lo out pc lv (.int x :: st) σ :=
  k.sto fun C h k => lv_istore_n C.1 C.2.1 d hn h hj hl k
theorem z_istore {x : Int32} {j : Nat} (d : decode K.1 pc = .ok (.istore j, 2)) (hj : j < K.2.1) (hl : (j, Value.int x) :: lv.filter (fun q => !(q.1 == j) && !(q.1 + 1 == j && q.2.category == 2)) = lv') (k : Z l D K fr lo out (pc + 2) lv' st σ) : Z l D K fr lo out pc lv (.int x :: st) σ :=
  k.sto fun C h k => lv_istore C.1 C.2.1 d h hj hl k
theorem z_lstore_n {n : Fin 4} {x : Int64} {j : Nat} (d : decode K.1 pc = .ok (.lstore_n n, 1)) (hn : (n : Nat) = j) (hj : j + 1 < K.2.1) (hl : (j, Value.long x) :: lv.filter (fun q => !(q.1 == j) && (!(q.1 == j + 1) && !(q.1 + 1 == j && q.2.category == 2))) = lv') (k : Z l D K fr lo out (pc + 1) lv' st σ) : Z l D K fr lo out pc lv (.long x :: st) σ :=
  k.sto fun C h k => lv_lstore_n C.1 C.2.1 d hn h hj hl k
theorem z_lstore {x : Int64} {j : Nat} (d : decode K.1 pc = .ok (.lstore j, 2)) (hj : j + 1 < K.2.1) (hl : (j, Value.long x) :: lv.filter (fun q => !(q.1 == j) && (!(q.1 == j + 1) && !(q.1 + 1 == j && q.2.category == 2))) = lv') (k : Z l D K fr lo out (pc + 2) lv' st σ) : Z l D K fr lo out pc lv (.long x :: st) σ :=
  k.sto fun C h k => lv_lstore C.1 C.2.1 d h hj hl k
theorem z_astore_n {n : Fin 4} {x : Nat} {j : Nat} (d : decode K.1 pc = .ok (.astore_n n, 1)) (hn : (n : Nat) = j) (hj : j < K.2.1) (hl : (j, Value.ref x) :: lv.filter (fun q => !(q.1 == j) && !(q.1 + 1 == j && q.2.category == 2)) = lv') (k : Z l D K fr lo out (pc + 1) lv' st σ) : Z l D K fr lo out pc lv (.ref x :: st) σ :=
  k.sto fun C h k => lv_astore_n C.1 C.2.1 d hn h hj hl k
theorem z_astore {x : Nat} {j : Nat} (d : decode K.1 pc = .ok (.astore j, 2)) (hj : j < K.2.1) (hl : (j, Value.ref x) :: lv.filter (fun q => !(q.1 == j) && !(q.1 + 1 == j && q.2.category == 2)) = lv') (k : Z l D K fr lo out (pc + 2) lv' st σ) : Z l D K fr lo out pc lv (.ref x :: st) σ :=
  k.sto fun C h k => lv_astore C.1 C.2.1 d h hj hl k
theorem z_iinc {n : Int} {x v : Int32} (i : Nat) {j : Nat} (d : decode K.1 pc = .ok (.iinc j n, 3)) (hk : lv[i]? = some (j, .int x)) (hv : x + Int32.ofInt n = v) (hj : j < K.2.1) (hl : (j, Value.int v) :: lv.filter (fun q => !(q.1 == j) && !(q.1 + 1 == j && q.2.category == 2)) = lv') (k : Z l D K fr lo out (pc + 3) lv' st σ) : Z l D K fr lo out pc lv st σ :=
  k.sto fun C h k => lv_iinc C.1 C.2.1 d h hk hv hj hl k
theorem z_goto {off : Int} {tgt : Nat} (d : decode K.1 pc = .ok (.goto off, 3)) (ht : (pc : Int) + off = (tgt : Int)) (k : Z l D K fr lo out tgt lv st σ) : Z l D K fr lo out pc lv st σ :=
  k.go fun C h k => lv_goto C.1 C.2.1 d ht k
theorem z_if_eq {x : Int32} {off : Int} {tgt : Nat} (d : decode K.1 pc = .ok (.ifCond .eq off, 3)) (ht : (pc : Int) + off = (tgt : Int)) (kt : x = 0 → Z l D K fr lo out tgt lv st σ) (kf : ¬ (x = 0) → Z l D K fr lo out (pc + 3) lv st σ) : Z l D K fr lo out pc lv (.int x :: st) σ :=
  Z.br (Classical.em _) kt kf fun C h kt kf => lv_if_eq C.1 C.2.1 d ht kt kf
theorem z_icmp_eq {x y : Int32} {off : Int} {tgt : Nat} (d : decode K.1 pc = .ok (.if_icmp .eq off, 3)) (ht : (pc : Int) + off = (tgt : Int)) (kt : x = y → Z l D K fr lo out tgt lv st σ) (kf : ¬ (x = y) → Z l D K fr lo out (pc + 3) lv st σ) : Z l D K fr lo out pc lv (.int y :: .int x :: st) σ :=
  Z.br (Classical.em _) kt kf fun C h kt kf => lv_icmp_eq C.1 C.2.1 d ht kt kf
theorem z_if_ne {x : Int32} {off : Int} {tgt : Nat} (d : decode K.1 pc = .ok (.ifCond .ne off, 3)) (ht : (pc : Int) + off = (tgt : Int)) (kt : ¬ (x = 0) → Z l D K fr lo out tgt lv st σ) (kf : x = 0 → Z l D K fr lo out (pc + 3) lv st σ) : Z l D K fr lo out pc lv (.int x :: st) σ :=
  Z.br (Classical.em _) kf kt fun C h kf kt => lv_if_ne C.1 C.2.1 d ht kt kf
theorem z_icmp_ne {x y : Int32} {off : Int} {tgt : Nat} (d : decode K.1 pc = .ok (.if_icmp .ne off, 3)) (ht : (pc : Int) + off = (tgt : Int)) (kt : ¬ (x = y) → Z l D K fr lo out tgt lv st σ) (kf : x = y → Z l D K fr lo out (pc + 3) lv st σ) : Z l D K fr lo out pc lv (.int y :: .int x :: st) σ :=
  Z.br (Classical.em _) kf kt fun C h kf kt => lv_icmp_ne C.1 C.2.1 d ht kt kf
theorem z_if_lt {x : Int32} {off : Int} {tgt : Nat} (d : decode K.1 pc = .ok (.ifCond .lt off, 3)) (ht : (pc : Int) + off = (tgt : Int)) (kt : x < 0 → Z l D K fr lo out tgt lv st σ) (kf : ¬ (x < 0) → Z l D K fr lo out (pc + 3) lv st σ) : Z l D K fr lo out pc lv (.int x :: st) σ :=
  Z.br (Classical.em _) kt kf fun C h kt kf => lv_if_lt C.1 C.2.1 d ht kt kf
theorem z_icmp_lt {x y : Int32} {off : Int} {tgt : Nat} (d : decode K.1 pc = .ok (.if_icmp .lt off, 3)) (ht : (pc : Int) + off = (tgt : Int)) (kt : x < y → Z l D K fr lo out tgt lv st σ) (kf : ¬ (x < y) → Z l D K fr lo out (pc + 3) lv st σ) : Z l D K fr lo out pc lv (.int y :: .int x :: st) σ :=
  Z.br (Classical.em _) kt kf fun C h kt kf => lv_icmp_lt C.1 C.2.1 d ht kt kf
theorem z_if_ge {x : Int32} {off : Int} {tgt : Nat} (d : decode K.1 pc = .ok (.ifCond .ge off, 3)) (ht : (pc : Int) + off = (tgt : Int)) (kt : 0 ≤ x → Z l D K fr lo out tgt lv st σ) (kf : ¬ (0 ≤ x) → Z l D K fr lo out (pc + 3) lv st σ) : Z l D K fr lo out pc lv (.int x :: st) σ :=
  Z.br (Classical.em _) kt kf fun C h kt kf => lv_if_ge C.1 C.2.1 d ht kt kf
theorem z_icmp_ge {x y : Int32} {off : Int} {tgt : Nat} (d : decode K.1 pc = .ok (.if_icmp .ge off, 3)) (ht : (pc : Int) + off = (tgt : Int)) (kt : y ≤ x → Z l D K fr lo out tgt lv st σ) (kf : ¬ (y ≤ x) → Z l D K fr lo out (pc + 3) lv st σ) : Z l D K fr lo out pc lv (.int y :: .int x :: st) σ :=
  Z.br (Classical.em _) kt kf fun C h kt kf => lv_icmp_ge C.1 C.2.1 d ht kt kf
theorem z_if_gt {x : Int32} {off : Int} {tgt : Nat} (d : decode K.1 pc = .ok (.ifCond .gt off, 3)) (ht : (pc : Int) + off = (tgt : Int)) (kt : 0 < x → Z l D K fr lo out tgt lv st σ) (kf : ¬ (0 < x) → Z l D K fr lo out (pc + 3) lv st σ) : Z l D K fr lo out pc lv (.int x :: st) σ :=
  Z.br (Classical.em _) kt kf fun C h kt kf => lv_if_gt C.1 C.2.1 d ht kt kf
theorem z_icmp_gt {x y : Int32} {off : Int} {tgt : Nat} (d : decode K.1 pc = .ok (.if_icmp .gt off, 3)) (ht : (pc : Int) + off = (tgt : Int)) (kt : y < x → Z l D K fr lo out tgt lv st σ) (kf : ¬ (y < x) → Z l D K fr lo out (pc + 3) lv st σ) : Z l D K fr lo out pc lv (.int y :: .int x :: st) σ :=
  Z.br (Classical.em _) kt kf fun C h kt kf => lv_icmp_gt C.1 C.2.1 d ht kt kf
theorem z_if_le {x : Int32} {off : Int} {tgt : Nat} (d : decode K.1 pc = .ok (.ifCond .le off, 3)) (ht : (pc : Int) + off = (tgt : Int)) (kt : x ≤ 0 → Z l D K fr lo out tgt lv st σ) (kf : ¬ (x ≤ 0) → Z l D K fr lo out (pc + 3) lv st σ) : Z l D K fr lo out pc lv (.int x :: st) σ :=
  Z.br (Classical.em _) kt kf fun C h kt kf => lv_if_le C.1 C.2.1 d ht kt kf
theorem z_icmp_le {x y : Int32} {off : Int} {tgt : Nat} (d : decode K.1 pc = .ok (.if_icmp .le off, 3)) (ht : (pc : Int) + off = (tgt : Int)) (kt : x ≤ y → Z l D K fr lo out tgt lv st σ) (kf : ¬ (x ≤ y) → Z l D K fr lo out (pc + 3) lv st σ) : Z l D K fr lo out pc lv (.int y :: .int x :: st) σ :=
  Z.br (Classical.em _) kt kf fun C h kt kf => lv_icmp_le C.1 C.2.1 d ht kt kf
end ZR
