/-! ===== System.arraycopy, class objects, private methods of a superclass, a catch ===== -/
section ZCPY
variable {l : Launch} {D : zD} {K : zM} {fr lo : Nat} {out : Outcome × zS} {pc pc' : Nat} {lv lv' : List (Nat × Value)} {st st' : List Value} {σ σ' : zS}
def zCw (own : String) (ix : Nat) : Prop := Cond.methodLink own ix arraycopyName ∈ ztb ∧ Cond.native arraycopyName ∈ ztb ∧ Cond.static arraycopyName ∈ ztb ∧ Cond.initialized "java/lang/System" ∈ ztb
theorem z_nn (z : Int32) (hz : ¬ z < 0) : z.toInt = (z.toNatClampNeg : Int) := by
  have hz0 : (0 : Int) ≤ z.toInt := by
    have := Int32.not_lt.mp hz
    simpa using Int32.le_iff_toInt_le.mp this
  show z.toInt = ((z.toInt.toNat : Nat) : Int)
  omega
theorem z_copyG {α : Type} (mk : α → Value) (inj : (Nat → α) → ((Nat → Int32) ⊕ (Nat → Int64) ⊕ (Nat → UInt32) ⊕ (Nat → UInt64) ⊕ (Nat → Option Nat))) (hinj : ∀ (c : ClassId) (n : Nat) (f : Nat → α), vp_cell c (n, inj f) = arrV c n (fun j => mk (f j))) (hcont : ∀ (n : Nat) (f : Nat → α) (j : Nat), zcont (n, inj f) j = mk (f j))
    {a0 a t n0 n1 ix : Nat} {b : Bool} {f g : Nat → α} {ty : FieldType} {sp dp n : Int32} (w : zCw K.2.2.1 ix) (ht : zty[t]? = some ty) (hty : ((refKind ty != refKind ty) || (!refKind ty && ty != ty)) = false) (e0 : σ.2.2 a0 = some (b, .inl (t, n0, inj f))) (e1 : σ.2.2 a = some (true, .inl (t, n1, inj g)))
    (h1 : ¬ sp < 0) (h2 : ¬ dp < 0) (h3 : ¬ n < 0) (h4 : sp.toNatClampNeg + n.toNatClampNeg ≤ n0) (h5 : dp.toNatClampNeg + n.toNatClampNeg ≤ n1)
    (hel : ∀ (s : State) (args : Array Value) (T : State), (∀ w ∈ ztb, w.before args s = true) → zK D s → zH D σ T.heap → ∀ (kd : Class) (cm : ClassId), s.vm.classes[D.2.1 t]? = some kd → kd.kind = .array cm ty → ∀ vm' : Vm, s.vm.Alike vm' → ∀ i, i < n.toNatClampNeg → fits ty (mk (f (sp.toNatClampNeg + i))) = true ∧ (T.setVm vm').takes cm (mk (f (sp.toNatClampNeg + i))))
    (hfr : 1 ≤ fr) (hlo : (st.map fun v => v.category).sum + (nativeFrameWords "java/lang/System" "arraycopy" 5 + 11) ≤ lo) (d : decode K.1 pc = .ok (.invokestatic ix, 3))
    (k : Z l D K fr lo out (pc + 3) lv st (zupd σ a (.inl (t, n1, inj (va_cpy f g sp.toNatClampNeg dp.toNatClampNeg n.toNatClampNeg))))) : Z l D K fr lo out pc lv (.int n :: .int dp :: .ref a :: .int sp :: .ref a0 :: st) σ := by
  refine ⟨k.1, fun p e R s m args below meth c C f1 f2 hK A ls H locs cells slots b1 b2 b3 b4 b5 b6 b7 => ?_⟩
  intro T hT X
  obtain ⟨cs, g1, g2, g3, g4, g5⟩ := z_arr hK b4 ht e0
  obtain ⟨hs2, k0, hk0, cm0, hkk0⟩ := g2
  have hc1 : H[a]? = some (vp_cell (D.2.1 t) (n1, inj g)) := b4.2.1 a _ e1
  rw [hinj] at hc1
  obtain ⟨-, k1, hk1, cm1, hkk1⟩ := (hK.2.1 t _ ht).1 n1 (fun j => mk (g j))
  obtain ⟨vm', X', step⟩ := X.arraycopy C.1 C.2.2.2.1 (C.hts _ w.1) (C.hts _ w.2.1) (C.hts _ w.2.2.1) (C.hts _ w.2.2.2) (src := a0) (dst := a) (cs := cs) (cd := arrV (D.2.1 t) n1 (fun j => mk (g j))) (srcPos := sp) (destPos := dp) (n := n) (by rw [hT]; exact g1) (by rw [hT]; exact hc1)
    hs2 (fun _ h => by cases h) g3 (fun h => by cases h) hk0 hk1 hkk0 hkk1 hty h1 h2 h3
    (by rw [z_nn sp h1, z_nn n h3]; have g9 : n0 ≤ cs.slots.size := g4.1; omega)
    (by rw [z_nn dp h2, z_nn n h3, arrV_size]; omega)
    (fun vm₁ hal i hi => by
      have e9 : cs.slots.getD (sp.toNatClampNeg + i) .null = mk (f (sp.toNatClampNeg + i)) := by
        rw [Array.getD_eq_getD_getElem?, g5 _ (show sp.toNatClampNeg + i < n0 by omega), hcont]
        rfl
      rw [e9]
      exact hel s args T C.hts hK (by rw [hT]; exact b4) k1 cm1 hk1 hkk1 vm₁ hal i hi)
    (g := F0 m pc ls (.int n :: .int dp :: .ref a :: .int sp :: .ref a0 :: st)) rfl (by rw [C.2.2.1]; exact b5.1) (rest := st) rfl (by rw [C.2.1]; exact d) (by omega) (by show 2 * 0 + _ + _ ≤ _; omega)
  have e2 : copied cs (arrV (D.2.1 t) n1 (fun j => mk (g j))) sp dp n = arrV (D.2.1 t) n1 (fun j => mk (va_cpy f g sp.toNatClampNeg dp.toNatClampNeg n.toNatClampNeg j)) := va_copiedX mk cs (D.2.1 t) f g (fun j hj => by rw [g5 j hj, hcont]) h4
  rw [e2] at X' step
  have hl : a < H.size := (Array.getElem?_eq_some_iff.mp hc1).1
  have hheap : ((T.setVm vm').setCell a (arrV (D.2.1 t) n1 (fun j => mk (va_cpy f g sp.toNatClampNeg dp.toNatClampNeg n.toNatClampNeg j)))).heap = H.setIfInBounds a (arrV (D.2.1 t) n1 (fun j => mk (va_cpy f g sp.toNatClampNeg dp.toNatClampNeg n.toNatClampNeg j))) := by rw [← hT]; rfl
  have oq : ∀ q : Nat, q ≠ a → (H.setIfInBounds a (arrV (D.2.1 t) n1 (fun j => mk (va_cpy f g sp.toNatClampNeg dp.toNatClampNeg n.toNatClampNeg j))))[q]? = H[q]? := fun q hq => by simp [Array.getElem?_setIfInBounds, Ne.symm hq]
  have hsz : (H.setIfInBounds a (arrV (D.2.1 t) n1 (fun j => mk (va_cpy f g sp.toNatClampNeg dp.toNatClampNeg n.toNatClampNeg j)))).size = H.size := by simp
  have he : va_at D.1 zcl (a, zTo D.2.1 (.inl (t, n1, inj (va_cpy f g sp.toNatClampNeg dp.toNatClampNeg n.toNatClampNeg)))) (H.setIfInBounds a (arrV (D.2.1 t) n1 (fun j => mk (va_cpy f g sp.toNatClampNeg dp.toNatClampNeg n.toNatClampNeg j)))) := by
    show (H.setIfInBounds a _)[a]? = some (vp_cell (D.2.1 t) (n1, inj (va_cpy f g sp.toNatClampNeg dp.toNatClampNeg n.toNatClampNeg)))
    rw [hinj]
    simp [Array.getElem?_setIfInBounds, hl]
  obtain ⟨t9, a1, a2⟩ := k.2 p e R s m args below meth c C f1 f2 hK A ls _ (locs ++ (cs.stretch sp.toNatClampNeg n.toNatClampNeg).zipIdx.map fun q => ⟨a, dp.toNatClampNeg + q.2⟩) cells slots b1 (zupd_dom e1 b2) ⟨by rw [hsz]; exact b3.1, fun q q1 q2 => (oq q (fun e9 => q2 (by rw [e9]; exact b2 a _ e1))).trans (b3.2.1 q q1 q2), fun q hq => by
      rcases List.mem_append.mp hq with h | h
      · exact b3.2.2 q h
      · obtain ⟨z, -, hz⟩ := List.mem_map.mp h
        rw [← hz]
        exact b2 a _ e1⟩ (b4.upd e1 he hsz oq) b5 b6 b7 _ hheap X'
  exact ⟨t9, step t9 a1, a2⟩
/-! what the copy does to a world -/
def zcpI (σ : zS) (ty : FieldType) (a0 a t : Nat) (sp dp n : Int32) : Option zS := match zar σ a0 t, zar σ a t with
  | some (n0, .inl f), some (n1, .inl g) => if ((¬ sp < 0 ∧ ¬ dp < 0 ∧ ¬ n < 0) ∧ sp.toNatClampNeg + n.toNatClampNeg ≤ n0 ∧ dp.toNatClampNeg + n.toNatClampNeg ≤ n1) ∧ zown σ a = true ∧ ∀ i, i < n.toNatClampNeg → fits ty (.int (f (sp.toNatClampNeg + i))) = true then some (zupd σ a (.inl (t, n1, .inl (va_cpy f g sp.toNatClampNeg dp.toNatClampNeg n.toNatClampNeg)))) else none
  | _, _ => none
def zcpL (σ : zS) (a0 a t : Nat) (sp dp n : Int32) : Option zS := match zar σ a0 t, zar σ a t with
  | some (n0, .inr (.inl f)), some (n1, .inr (.inl g)) => if ((¬ sp < 0 ∧ ¬ dp < 0 ∧ ¬ n < 0) ∧ sp.toNatClampNeg + n.toNatClampNeg ≤ n0 ∧ dp.toNatClampNeg + n.toNatClampNeg ≤ n1) ∧ zown σ a = true then some (zupd σ a (.inl (t, n1, .inr (.inl (va_cpy f g sp.toNatClampNeg dp.toNatClampNeg n.toNatClampNeg))))) else none
  | _, _ => none
def zcpR (σ : zS) (a0 a t : Nat) (sp dp n : Int32) : Option zS := match zar σ a0 t, zar σ a t with
  | some (n0, .inr (.inr (.inr (.inr f)))), some (n1, .inr (.inr (.inr (.inr g)))) => if ((¬ sp < 0 ∧ ¬ dp < 0 ∧ ¬ n < 0) ∧ sp.toNatClampNeg + n.toNatClampNeg ≤ n0 ∧ dp.toNatClampNeg + n.toNatClampNeg ≤ n1) ∧ zown σ a = true ∧ ∀ i, i < n.toNatClampNeg → zokR σ t (f (sp.toNatClampNeg + i)) = true then some (zupd σ a (.inl (t, n1, .inr (.inr (.inr (.inr (va_cpy f g sp.toNatClampNeg dp.toNatClampNeg n.toNatClampNeg))))))) else none
  | _, _ => none
theorem z_copyI {a0 a t ix : Nat} {ty : FieldType} {sp dp n : Int32} (w : zCw K.2.2.1 ix) (ht : zty[t]? = some ty) (hp : refKind ty = false) (hfr : 1 ≤ fr) (hlo : (st.map fun v => v.category).sum + (nativeFrameWords "java/lang/System" "arraycopy" 5 + 11) ≤ lo) (d : decode K.1 pc = .ok (.invokestatic ix, 3)) (h : zcpI σ ty a0 a t sp dp n = some σ')
    (k : Z l D K fr lo out (pc + 3) lv st σ') : Z l D K fr lo out pc lv (.int n :: .int dp :: .ref a :: .int sp :: .ref a0 :: st) σ := by
  unfold zcpI at h
  split at h
  · rename_i n0 f n1 g e0 e1
    split at h
    · rename_i hh
      cases h
      obtain ⟨b, e0⟩ := zar_at e0
      obtain ⟨b1, e1⟩ := zar_at e1
      have hb := zown_at e1 hh.2.1
      subst hb
      exact z_copyG (fun z => .int z) (fun f => .inl f) (fun _ _ _ => rfl) (fun _ _ _ => rfl) w ht (by simp [hp]) e0 e1 hh.1.1.1 hh.1.1.2.1 hh.1.1.2.2 hh.1.2.1 hh.1.2.2 (fun s args T hts hK hH kd cm hk1 hk2 vm' hal i hi => ⟨hh.2.2 i hi, trivial⟩) hfr hlo d k
    · cases h
  · cases h
theorem z_copyL {a0 a t ix : Nat} {sp dp n : Int32} (w : zCw K.2.2.1 ix) (ht : zty[t]? = some .long) (hfr : 1 ≤ fr) (hlo : (st.map fun v => v.category).sum + (nativeFrameWords "java/lang/System" "arraycopy" 5 + 11) ≤ lo) (d : decode K.1 pc = .ok (.invokestatic ix, 3)) (h : zcpL σ a0 a t sp dp n = some σ')
    (k : Z l D K fr lo out (pc + 3) lv st σ') : Z l D K fr lo out pc lv (.int n :: .int dp :: .ref a :: .int sp :: .ref a0 :: st) σ := by
  unfold zcpL at h
  split at h
  · rename_i n0 f n1 g e0 e1
    split at h
    · rename_i hh
      cases h
      obtain ⟨b, e0⟩ := zar_at e0
      obtain ⟨b1, e1⟩ := zar_at e1
      have hb := zown_at e1 hh.2
      subst hb
      exact z_copyG (fun z => .long z) (fun f => .inr (.inl f)) (fun _ _ _ => rfl) (fun _ _ _ => rfl) w ht (by simp) e0 e1 hh.1.1.1 hh.1.1.2.1 hh.1.1.2.2 hh.1.2.1 hh.1.2.2 (fun s args T hts hK hH kd cm hk1 hk2 vm' hal i hi => ⟨rfl, trivial⟩) hfr hlo d k
    · cases h
  · cases h
theorem z_copyR {a0 a t ix : Nat} {E : String} {sp dp n : Int32} (w : zCw K.2.2.1 ix) (ht : zty[t]? = some (.object E)) (hfr : 1 ≤ fr) (hlo : (st.map fun v => v.category).sum + (nativeFrameWords "java/lang/System" "arraycopy" 5 + 11) ≤ lo) (d : decode K.1 pc = .ok (.invokestatic ix, 3)) (h : zcpR σ a0 a t sp dp n = some σ')
    (k : Z l D K fr lo out (pc + 3) lv st σ') : Z l D K fr lo out pc lv (.int n :: .int dp :: .ref a :: .int sp :: .ref a0 :: st) σ := by
  unfold zcpR at h
  split at h
  · rename_i n0 f n1 g e0 e1
    split at h
    · rename_i hh
      cases h
      obtain ⟨b, e0⟩ := zar_at e0
      obtain ⟨b1, e1⟩ := zar_at e1
      have hb := zown_at e1 hh.2.1
      subst hb
      refine z_copyG (fun z => va_rf z) (fun f => .inr (.inr (.inr (.inr f)))) (fun _ _ _ => vp_cell_q ..) (fun _ _ _ => rfl) w ht rfl e0 e1 hh.1.1.1 hh.1.1.2.1 hh.1.1.2.2 hh.1.2.1 hh.1.2.2 (fun s args T hts hK hH kd cm hk1 hk2 vm' hal i hi => ?_) hfr hlo d k
      have h9 := hh.2.2 i hi
      cases hy : f (sp.toNatClampNeg + i) with
      | none => exact ⟨rfl, trivial⟩
      | some y =>
        rw [hy] at h9
        unfold zokR at h9
        dsimp only at h9
        split at h9
        · rename_i bo o ho
          obtain ⟨cellV, g1, g3, ⟨kC, hkC⟩, hasg⟩ := z_asgn (D := D) (zasg_ok _ (by simpa using h9)) ht hts hK hH (a := y) (fs := o.2) ho
          obtain ⟨kA, comp, r1, r2, r3, -⟩ := (hK.2.1 t _ ht).2
          cases hk1.symm.trans r1
          cases hk2.symm.trans r2
          obtain ⟨kE, hkE, -⟩ := Vm.findClass_spec r3
          obtain ⟨kC', hkC', -⟩ := hal.2.2 _ _ hkC
          obtain ⟨kE', hkE', -⟩ := hal.2.2 _ _ hkE
          refine ⟨rfl, cellV, g1, (fun q h => by rw [h] at g3; cases g3), ⟨kC', hkC'⟩, ⟨kE', hkE'⟩, ?_⟩
          show vm'.assignable _ _ = true
          rw [hal.assignable]
          exact hasg _ r3
        · cases h9
    · cases h
  · cases h
/-- a private method of the class that own names, on an object of class C -/
def zWl (own : String) (ix ci : Nat) (y : MethodName) (K' : zM) (n : Nat) : Prop := ∃ (C : String) (T : u_T) (N : Nat) (y2 : MethodName), zcl[ci]? = some (C, T, N) ∧ Cond.methodLink own ix y ∈ ztb ∧ Cond.instanceMethod y ∈ ztb ∧ Cond.privateMethod y ∈ ztb ∧ (Cond.selects C y2 y2 ∈ ztb ∧ y2.cls = y.cls) ∧ Cond.initialized y.cls ∈ ztb ∧ zcw y K' ∈ ztb ∧ (y.cls ≠ "java/lang/invoke/MethodHandle" ∧ y.cls ≠ "java/lang/invoke/VarHandle") ∧ (parseMethodDescriptor y.desc).map (fun d => d.parameters.length) = some n
theorem z_callW' {y : MethodName} {K' : zM} {fr' lo' ix ci b : Nat} {ow : Bool} {fs : List Value} {av : List Value} {o' : Outcome × zS} (w : zWl K.2.2.1 ix ci y K' av.length) (hb : σ.2.2 b = some (ow, .inr (ci, fs))) (hM : zMet l D y K' fr' lo' (.ref b :: av) σ o') (hfr : fr' + 1 ≤ fr) (hlo : 8 + (K'.2.1 + 11) + lo' ≤ lo) (d : decode K.1 pc = .ok (.invokevirtual ix, 3)) (hst : (st.map fun v => v.category).sum ≤ 8)
    (kr : ∀ v, o'.1 = .returned v → Z l D K fr lo out (pc + 3) lv (v.toList ++ st) o'.2) (kt : ∀ a, o'.1 = .threw a → ZT l D K fr lo out pc lv st o'.2 a) : Z l D K fr lo out pc lv (av.reverse ++ .ref b :: st) σ := by
  obtain ⟨Cn, T0, N, y2, hc, w1, w2, wp, ⟨wsel, wcl⟩, w3, w4, w5, w6⟩ := w
  refine Z.call hM w4 w3 hfr hlo d hst (fun {p e R s m args below meth c T locs cells slots ls} C hK hH X => ?_) kr kt
  obtain ⟨cellB, hcell, hobj, hcls⟩ := z_recv hK hH hc hb
  obtain ⟨mk, methM, hnamed, hmethM, hstM, habM⟩ := Cond.instanceMethod_spec (C.hts _ w2)
  obtain ⟨methM', cM, hmethM', -, -, -, -, -, -, hsigM⟩ := zcw_spec hnamed (C.hts _ w4)
  cases hmethM.symm.trans hmethM'
  obtain ⟨c2, r2, m2, q1, q2, q3, q4, kP, hkP, hkPi⟩ := Cond.selects_spec (C.hts _ wsel)
  have hm2 : m2.cls = mk.cls := by
    have g1 := findClass_of_methodNamed hnamed
    have g3 := findClass_of_methodNamed q3
    rw [wcl] at g3
    exact Option.some.inj (g3.symm.trans g1)
  rw [hm2] at hkP
  have hselP : selectMethod e.platform s.vm cellB.cls mk = .method mk := by
    rw [Launch.admits_selectMethod X.admits]
    exact selectMethod_private hmethM (Cond.privateMethod_at (C.hts _ wp) mk methM hnamed hmethM)
  obtain ⟨vm₁, X₁, hstep₁⟩ := X.invokevirtual C.1 C.2.2.2.1 (C.hts _ w1) hnamed hmethM hstM hkP hkPi w5 (a := b) (cell := cellB) hcell
    (fun z h => by rw [h] at hobj; cases hobj) hselP hmethM habM hkP hkPi (g := F0 m pc ls (av.reverse ++ .ref b :: st)) rfl (argsL := av) (rest := st) (z_len w6 rfl _ hsigM) rfl (by rw [C.2.1]; exact d)
  exact ⟨vm₁, mk, X₁, hnamed, fun tg h => hstep₁ tg fun acts => by rw [doInvoke_state]; exact h⟩
/-! class objects -/
theorem z_ldcM {ix q : Nat} {nm : String} (w : Cond.classLink K.2.2.1 ix nm ∈ ztb) (hq : (nm, q) ∈ D.2.2.2.2.2.2.2) (d : decode K.1 pc = .ok (.ldc ix, 2)) (k : Z l D K fr lo out (pc + 2) lv (.ref q :: st) σ) : Z l D K fr lo out pc lv st σ := by
  refine k.rd fun {p e R s m args below meth c H locs cells slots Q ls} C hK hH k => ?_
  exact va_ldcM C.1 C.2.1 C.2.2.2.1 (C.hts _ w) (hK.2.2.2.2.2.2 _ hq) d k
abbrev zgetClass : MethodName := ⟨"java/lang/Object", "getClass", "()Ljava/lang/Class;"⟩
def zoa (σ : zS) (a t : Nat) : Option Unit := match zar σ a t with
  | some _ => if zown σ a = true then some () else none
  | none => none
theorem zoa_at {σ : zS} {a t : Nat} {u : Unit} (h : zoa σ a t = some u) : ∃ x : vp_A, σ.2.2 a = some (true, .inl (t, x)) := by
  unfold zoa at h
  split at h
  · rename_i x hx
    split at h
    · rename_i ho
      obtain ⟨b, e⟩ := zar_at hx
      have hb := zown_at e ho
      subst hb
      exact ⟨x, e⟩
    · cases h
  · cases h
theorem z_getC {a t q ix : Nat} {u : Unit} {E nm : String} (w : Cond.methodLink K.2.2.1 ix zgetClass ∈ ztb ∧ Cond.declares zgetClass ∈ ztb ∧ Cond.selects nm zgetClass zgetClass ∈ ztb ∧ Cond.instanceMethod zgetClass ∈ ztb ∧ Cond.native zgetClass ∈ ztb) (ht : zty[t]? = some (.object E)) (hn : "[" ++ (FieldType.object E).toString = nm) (hq : (nm, q) ∈ D.2.2.2.2.2.2.2)
    (h : zoa σ a t = some u) (hfr : 1 ≤ fr) (hlo : (st.map fun v => v.category).sum + 14 ≤ lo) (d : decode K.1 pc = .ok (.invokevirtual ix, 3)) (k : Z l D K fr lo out (pc + 3) lv (.ref q :: st) σ) : Z l D K fr lo out pc lv (.ref a :: st) σ := by
  refine ⟨k.1, fun p e R s m args below meth c C f1 f2 hK A ls H locs cells slots b1 b2 b3 b4 b5 b6 b7 => ?_⟩
  obtain ⟨⟨n, x⟩, h1⟩ := zoa_at h
  have hfc := va_nmO (hK.2.1 t _ ht).2 hn
  have g1 : H[a]? = some (vp_cell (D.2.1 t) (n, x)) := b4.2.1 a _ h1
  refine va_getC C.1 C.2.1 (C.2.2.1.trans b5.1.symm) C.2.2.2.1 (C.hts _ w.1) (C.hts _ w.2.1) (C.hts _ w.2.2.1) (C.hts _ w.2.2.2.1) (C.hts _ w.2.2.2.2) (hK.2.2.2.2.2.2 _ hq) ⟨_, g1, ?_, ?_⟩ (by omega) (by omega) d (k.2 p e R s m args below meth c C f1 f2 hK A ls H locs cells slots b1 b2 b3 b4 b5 b6 b7)
  · rcases x with f | f | f | f | f <;> rfl
  · rw [hfc]
    rcases x with f | f | f | f | f <;> rfl
end ZCPY
