/-! ===== rows that read, write and make cells ===== -/
def zFl (own : String) (ix ci k : Nat) : Prop := ∃ (ref C : String) (T : u_T) (N : Nat), zcl[ci]? = some (C, T, N) ∧ (∀ w ∈ u_ws C T N, w ∈ ztb) ∧ k < N ∧ Cond.fieldLink own ix ref (T k).2.1 (T k).2.2.1 ∈ ztb ∧ (ref = (T k).1 ∨ Cond.sameField ref (T k).1 (T k).2.1 (T k).2.2.1 ∈ ztb)
def zPl (own : String) (ix ci k : Nat) (ty : FieldType) (fin : Bool) : Prop := ∃ (ref C : String) (T : u_T) (N : Nat) (ty0 : Nat → FieldType), zcl[ci]? = some (C, T, N) ∧ (∀ w ∈ u_ws C T N, w ∈ ztb) ∧ k < N ∧ Cond.fieldLink own ix ref (T k).2.1 (T k).2.2.1 ∈ ztb ∧ (ref = (T k).1 ∨ Cond.sameField ref (T k).1 (T k).2.1 (T k).2.2.1 ∈ ztb) ∧
  (∀ k, k < N → parseFieldDescriptor (T k).2.2.1 = some (ty0 k)) ∧ (∀ a, a < N → ∀ b, b < N → a ≠ b → (T a).2.1 ≠ (T b).2.1) ∧ (T k).2.2.2 = fin ∧ (fin = true → (T k).1 = own) ∧ parseFieldDescriptor (T k).2.2.1 = some ty
theorem zH.upd {D : zD} {σ : zS} {H H1 : Heap} {a : Nat} {y0 y : zY} (h : zH D σ H) (h0 : σ.2.2 a = some (true, y0)) (he : va_at D.1 zcl (a, zTo D.2.1 y) H1) (z : H1.size = H.size) (oq : ∀ q : Nat, q ≠ a → H1[q]? = H[q]?) : zH D (zupd σ a y) H1 := by
  refine ⟨z.trans h.1, fun b x hx => ?_, fun q hq => ?_⟩
  · by_cases hb : b = a
    · subst hb
      have : va_up σ.2.2 b (some (true, y)) b = some x := hx
      rw [va_up_self] at this
      cases this
      exact he
    · have : va_up σ.2.2 a (some (true, y)) b = some x := hx
      rw [va_up_ne _ _ hb] at this
      exact (h.2.1 b x this).kept (oq b hb)
  · obtain ⟨h1, h2⟩ := h.2.2 q hq
    have hb : q.1 ≠ a := fun e => by rw [e, h0] at h2; cases h2
    refine ⟨(oq q.1 hb).trans h1, ?_⟩
    show va_up σ.2.2 a (some (true, y)) q.1 = none
    rw [va_up_ne _ _ hb]
    exact h2
theorem zH.new {D : zD} {σ : zS} {H H1 : Heap} {n : Nat} {y : zY} (h : zH D σ H) (he : va_at D.1 zcl (H.size, zTo D.2.1 y) H1) (z : H1.size = H.size + 1) (oq : ∀ q : Nat, q < H.size → H1[q]? = H[q]?) : zH D (znew σ n y) H1 := by
  refine ⟨by rw [z, h.1]; rfl, fun b x hx => ?_, fun q hq => ?_⟩
  · by_cases hb : b = σ.1
    · have : va_up σ.2.2 σ.1 (some (true, y)) b = some x := hx
      rw [hb, va_up_self] at this
      cases this
      rw [hb, ← h.1]
      exact he
    · have : va_up σ.2.2 σ.1 (some (true, y)) b = some x := hx
      rw [va_up_ne _ _ hb] at this
      exact (h.2.1 b x this).kept (oq b (h.2.1 b x this).lt)
  · obtain ⟨h1, h2⟩ := h.2.2 q hq
    have hlt : q.1 < H.size := (Array.getElem?_eq_some_iff.mp h1).1
    refine ⟨(oq q.1 hlt).trans h1, ?_⟩
    show va_up σ.2.2 σ.1 (some (true, y)) q.1 = none
    rw [va_up_ne _ _ (by rw [← h.1]; exact Nat.ne_of_lt hlt)]
    exact h2
theorem zupd_dom {σ : zS} {a : Nat} {y0 y : zY} {A : Nat → Prop} (h0 : σ.2.2 a = some (true, y0)) (h : ∀ (a : Nat) (y : zY), σ.2.2 a = some (true, y) → A a) : ∀ (b : Nat) (x : zY), (zupd σ a y).2.2 b = some (true, x) → A b := by
  intro b x hx
  by_cases hb : b = a
  · subst hb
    exact h b y0 h0
  · have : va_up σ.2.2 a (some (true, y)) b = some (true, x) := hx
    rw [va_up_ne _ _ hb] at this
    exact h b x this
theorem znew_dom {σ : zS} {n : Nat} {y : zY} {A : Nat → Prop} (h0 : A σ.1) (h : ∀ (a : Nat) (y : zY), σ.2.2 a = some (true, y) → A a) : ∀ (b : Nat) (x : zY), (znew σ n y).2.2 b = some (true, x) → A b := by
  intro b x hx
  by_cases hb : b = σ.1
  · subst hb
    exact h0
  · have : va_up σ.2.2 σ.1 (some (true, y)) b = some (true, x) := hx
    rw [va_up_ne _ _ hb] at this
    exact h b x this
section ZW
variable {l : Launch} {D : zD} {K : zM} {fr lo : Nat} {out : Outcome × zS} {pc pc' : Nat} {lv lv' : List (Nat × Value)} {st st' : List Value} {σ σ' : zS}
/-- a row that reads the world -/
theorem Z.rd (k : Z l D K fr lo out pc' lv st' σ)
    (h : ∀ {p : Program} {e : Env} {R : Room} {s : State} {m : MethodId} {args : Array Value} {below : List Frame} {meth : Method} {c : Code} {H : Heap} {locs : List Loc} {cells slots : Nat} {Q : State → Prop} {ls : Array Slot}, zC p s m args meth c K → zK D s → zH D σ H →
      W p l e R s m args below meth c H locs cells slots Q (F0 m pc' ls st') → W p l e R s m args below meth c H locs cells slots Q (F0 m pc ls st)) : Z l D K fr lo out pc lv st σ :=
  ⟨k.1, fun p e R s m args below meth c C f1 f2 hK A ls H locs cells slots b1 b2 b3 b4 b5 b6 b7 => h C hK b4 (k.2 p e R s m args below meth c C f1 f2 hK A ls H locs cells slots b1 b2 b3 b4 b5 b6 b7)⟩
/-- a row that writes one cell -/
theorem Z.wr {a : Nat} {x0 x : zY} (h0 : σ.2.2 a = some (true, x0)) (k : Z l D K fr lo out pc' lv st' (zupd σ a x))
    (h : ∀ {p : Program} {e : Env} {R : Room} {s : State} {m : MethodId} {args : Array Value} {below : List Frame} {meth : Method} {c : Code} {H : Heap} {locs : List Loc} {cells slots : Nat} {Q : State → Prop} {ls : Array Slot}, zC p s m args meth c K → zK D s → zH D σ H →
      (∀ (H1 : Heap) (i : Nat), va_at D.1 zcl (a, zTo D.2.1 x) H1 → H1.size = H.size → (∀ q : Nat, q ≠ a → H1[q]? = H[q]?) → W p l e R s m args below meth c H1 (locs ++ [⟨a, i⟩]) cells slots Q (F0 m pc' ls st')) → W p l e R s m args below meth c H locs cells slots Q (F0 m pc ls st)) : Z l D K fr lo out pc lv st σ :=
  ⟨k.1, fun p e R s m args below meth c C f1 f2 hK A ls H locs cells slots b1 b2 b3 b4 b5 b6 b7 => h C hK b4 (fun H1 i he z oq => k.2 p e R s m args below meth c C f1 f2 hK A ls H1 (locs ++ [⟨a, i⟩]) cells slots b1 (zupd_dom h0 b2) (b3.put z oq (b2 a x0 h0)) (b4.upd h0 he z oq) b5 b6 b7)⟩
/-- a row that makes a cell of n slots -/
theorem Z.mk {n : Nat} {x : zY} (k : Z l D K fr lo out pc' lv st' (znew σ n x))
    (h : ∀ {p : Program} {e : Env} {R : Room} {s : State} {m : MethodId} {args : Array Value} {below : List Frame} {meth : Method} {c : Code} {H : Heap} {locs : List Loc} {cells slots : Nat} {Q : State → Prop} {ls : Array Slot}, zC p s m args meth c K → zK D s → zH D σ H → cells + 1 ≤ R.cells → slots + n ≤ R.slots →
      (∀ (H1 : Heap), va_at D.1 zcl (H.size, zTo D.2.1 x) H1 → H1.size = H.size + 1 → (∀ q : Nat, q < H.size → H1[q]? = H[q]?) → W p l e R s m args below meth c H1 locs (cells + 1) (slots + n) Q (F0 m pc' ls st')) → W p l e R s m args below meth c H locs cells slots Q (F0 m pc ls st)) : Z l D K fr lo out pc lv st σ := by
  have k1 : σ.1 + 1 ≤ out.2.1 := k.1.1
  have k2 : σ.2.1 + n ≤ out.2.2.1 := k.1.2
  refine ⟨⟨by omega, by omega⟩, fun p e R s m args below meth c C f1 f2 hK A ls H locs cells slots b1 b2 b3 b4 b5 b6 b7 => h C hK b4 (by omega) (by omega) (fun H1 he z oq => ?_)⟩
  have hz : σ.1 = H.size := b4.1.symm
  have w := k.2 p e R s m args below meth c C f1 f2 hK A ls H1 locs (cells + 1) (slots + n) b1 (znew_dom (b1 _ (by rw [hz]; exact b3.1)) b2) ⟨Nat.le_trans b3.1 (by omega), fun q h1 h2 => (oq q (Nat.lt_of_lt_of_le h1 b3.1)).trans (b3.2.1 q h1 h2), b3.2.2⟩ (b4.new he z oq) b5
    (by show cells + 1 + (out.2.1 - (σ.1 + 1)) ≤ R.cells; omega) (by show slots + n + (out.2.2.1 - (σ.2.1 + n)) ≤ R.slots; omega)
  have e1 : cells + 1 + (out.2.1 - (znew σ n x).1) = cells + (out.2.1 - σ.1) := by show cells + 1 + (out.2.1 - (σ.1 + 1)) = _; omega
  have e2 : slots + n + (out.2.2.1 - (znew σ n x).2.1) = slots + (out.2.2.1 - σ.2.1) := by show slots + n + (out.2.2.1 - (σ.2.1 + n)) = _; omega
  rw [e1, e2] at w
  exact w
theorem z_same {args : Array Value} {s : State} (hts : ∀ w ∈ ztb, w.before args s = true) {ref owner name desc : String} (h : ref = owner ∨ Cond.sameField ref owner name desc ∈ ztb) : ∀ x, s.fieldFound? owner name desc = some x → s.fieldFound? ref name desc = some x := by
  rcases h with rfl | h
  · exact fun _ h => h
  · exact fun x hx => u_same (hts _ h) x hx
theorem zC.hts {p : Program} {s : State} {m : MethodId} {args : Array Value} {meth : Method} {c : Code} (C : zC p s m args meth c K) : ∀ w ∈ ztb, w.before args s = true := C.2.2.2.2.2.2.2.2
theorem z_getv {a ci j ix : Nat} {b : Bool} {fs : List Value} {v : Value} (w : zFl K.2.2.1 ix ci j) (d : decode K.1 pc = .ok (.getfield ix, 3)) (hf : σ.2.2 a = some (b, .inr (ci, fs))) (hv : fs[j]? = some v) (k : Z l D K fr lo out (pc + 3) lv (v :: st) σ) : Z l D K fr lo out pc lv (.ref a :: st) σ := by
  obtain ⟨ref, Cn, T, N, w1, w2, w3, w4, w5⟩ := w
  cases b with
  | true => exact k.rd fun C hK hH k => va_get (D := D.1) (cl := zcl) (tys := []) (ws := [(a, zTo D.2.1 (.inr (ci, fs)))]) C.1 C.2.1 C.hts w2 C.2.2.2.1 hK.1 (hH.one hf) 0 rfl w1 j w3 (C.hts _ w4) (z_same C.hts w5) hv d k
  | false =>
    refine k.rd fun C hK hH k => ?_
    obtain ⟨cell, hm, hc⟩ := hH.2.1 a _ hf
    obtain ⟨q, h1, h2, h3, h4, h5⟩ := hK.2.2.1 _ hm
    have hq : q = (Cn, T, N) := Option.some.inj (h1.symm.trans w1)
    subst hq
    obtain ⟨hS, hfc, kC, hkC, hkind⟩ := hK.1.1 ci _ w1
    obtain ⟨cf, kf, fi, f, hi, hsl⟩ := hS j w3
    refine W.getf C.1 C.2.1 C.2.2.2.1 (C.hts _ w4) (z_same C.hts w5 _ hi) (u_facts hfc hkC (u_lays C.hts w2 w3) hi).1 hc h3 (v := v) ?_ rfl rfl d k
    rw [hsl]
    have h6 := h5 j w3
    rw [show D.1.2 (ci, fs).1 j = D.1.2 ci j from rfl] at h6
    rw [h6]
    simp [vp_V, hv]
theorem z_getI {a ci j ix : Nat} {x : Int32} (w : zFl K.2.2.1 ix ci j) (d : decode K.1 pc = .ok (.getfield ix, 3)) (h : zgI σ a ci j = some x) (k : Z l D K fr lo out (pc + 3) lv (.int x :: st) σ) : Z l D K fr lo out pc lv (.ref a :: st) σ := by
  obtain ⟨b, fs, h1, h2⟩ := zgI_at h
  exact z_getv w d h1 h2 k
theorem z_getL {a ci j ix : Nat} {x : Int64} (w : zFl K.2.2.1 ix ci j) (d : decode K.1 pc = .ok (.getfield ix, 3)) (h : zgL σ a ci j = some x) (k : Z l D K fr lo out (pc + 3) lv (.long x :: st) σ) : Z l D K fr lo out pc lv (.ref a :: st) σ := by
  obtain ⟨b, fs, h1, h2⟩ := zgL_at h
  exact z_getv w d h1 h2 k
theorem z_getR {a ci j ix : Nat} {x : Option Nat} (w : zFl K.2.2.1 ix ci j) (d : decode K.1 pc = .ok (.getfield ix, 3)) (h : zgR σ a ci j = some x) (k : Z l D K fr lo out (pc + 3) lv (va_rf x :: st) σ) : Z l D K fr lo out pc lv (.ref a :: st) σ := by
  obtain ⟨b, fs, h1, h2⟩ := zgR_at h
  exact z_getv w d h1 h2 k
theorem z_putv {a ci j ix : Nat} {fs : List Value} {v : Value} {ty : FieldType} {fin : Bool} (w : zPl K.2.2.1 ix ci j ty fin) (hi : fin = true → K.2.2.2.2.1 = true) (d : decode K.1 pc = .ok (.putfield ix, 3)) (hn : narrow ty v = v) (hfit : fits ty v = true) (hf : σ.2.2 a = some (true, .inr (ci, fs))) (hl : j < fs.length)
    (k : Z l D K fr lo out (pc + 3) lv st (zupd σ a (.inr (ci, fs.set j v)))) : Z l D K fr lo out pc lv (v :: .ref a :: st) σ := by
  obtain ⟨ref, Cn, T, N, ty0, w1, w2, w3, w4, w5, hty, hnm, wf, wo, hd⟩ := w
  refine k.wr hf fun {p e R s m args below meth c H locs cells slots Q ls} C hK hH k => ?_
  have hap := va_apart (own := K.2.2.1) C.hts w2 ty0 hty hnm hK.1 w1
  obtain ⟨r, h1, cell, q1, q2, q3, q4⟩ := hH.2.1 a _ hf
  have hr : r = (Cn, T, N) := Option.some.inj (h1.symm.trans w1)
  subst hr
  obtain ⟨hS, hfc, kC, hkC, hkind⟩ := hK.1.1 ci _ w1
  obtain ⟨cf, kf, fi, f, hi', hsl⟩ := hS j w3
  have hlay := C.hts _ (w2 _ (u_in_lay w3))
  unfold u_lay at hlay
  have hst := (u_facts hfc hkC (u_lays C.hts w2 w3) hi').1
  cases fin with
  | false =>
    rw [if_neg (by rw [wf]; decide)] at hlay
    have h6 := u_store hfc hkC hkind hlay hi' hd hn hfit
    refine W.putK C.1 C.2.1 (f := f) ⟨C.2.2.2.1, C.hts _ w4, ⟨_, _, _, z_same C.hts w5 _ hi'⟩, hst⟩ (by rw [q2]; exact h6) q1 q3 (by rw [hsl]; exact k2_hasslot (q4 j w3)) rfl rfl d fun H' e1 e2 e3 => ?_
    rw [hsl] at e1 ⊢
    exact k H' _ ⟨_, w1, t_OB.to (V := updV (vp_V fs) j v) ⟨_, e1, q2, q3, t_set q4 hap w3 v⟩ (fun j _ => vp_updV_set hl v j)⟩ e2 e3
  | true =>
    rw [if_pos wf] at hlay
    have hcf : m.cls = cf := by
      obtain ⟨_, _, c', _, _, _, -, -, hf', -, -, -, hown2, -⟩ := Cond.laysFinal_spec hlay
      have e1 : c' = cf := by have := hi'.symm.trans hf'; simp at this; exact this.1.symm
      rw [wo rfl] at hown2
      rw [← e1]; exact Option.some.inj (C.2.2.2.1.symm.trans hown2)
    have h6 := u_fits hfc hkC hkind (Or.inr hlay) hi' hd hn hfit
    refine W.putFinK C.1 C.2.1 C.2.2.2.1 (C.hts _ w4) (z_same C.hts w5 _ hi') hst hcf (C.2.2.2.2.2.1 (hi rfl)) (by rw [q2]; exact h6) q1 q3 (by rw [hsl]; exact k2_hasslot (q4 j w3)) rfl rfl d fun H' e1 e2 e3 => ?_
    rw [hsl] at e1 ⊢
    exact k H' _ ⟨_, w1, t_OB.to (V := updV (vp_V fs) j v) ⟨_, e1, q2, q3, t_set q4 hap w3 v⟩ (fun j _ => vp_updV_set hl v j)⟩ e2 e3
theorem zpF_at {a ci j : Nat} {v : Value} (h : zpF σ a ci j v = some σ') : ∃ fs, σ.2.2 a = some (true, .inr (ci, fs)) ∧ j < fs.length ∧ σ' = zupd σ a (.inr (ci, fs.set j v)) := by
  unfold zpF at h
  split at h
  · rename_i fs hfs
    split at h
    · rename_i hl
      cases h
      obtain ⟨b, hb⟩ := zfs_at hfs
      have hz := zown_at hb hl.2
      subst hz
      exact ⟨fs, hb, hl.1, rfl⟩
    · cases h
  · cases h
theorem z_put {a ci j ix : Nat} {v : Value} {ty : FieldType} {fin : Bool} (w : zPl K.2.2.1 ix ci j ty fin) (hi : fin = true → K.2.2.2.2.1 = true) (d : decode K.1 pc = .ok (.putfield ix, 3)) (hn : narrow ty v = v) (hfit : fits ty v = true) (h : zpF σ a ci j v = some σ')
    (k : Z l D K fr lo out (pc + 3) lv st σ') : Z l D K fr lo out pc lv (v :: .ref a :: st) σ := by
  obtain ⟨fs, h1, h2, rfl⟩ := zpF_at h
  exact z_putv w hi d hn hfit h1 h2 k
/-- new -/
def zNl (own : String) (ix ci n : Nat) (fs : List Value) : Prop := ∃ (C : String) (T : u_T) (ty : Nat → FieldType), zcl[ci]? = some (C, T, n) ∧ (∀ w ∈ u_ws C T n, w ∈ ztb) ∧ (∀ k, k < n → parseFieldDescriptor (T k).2.2.1 = some (ty k)) ∧ Cond.classLink own ix C ∈ ztb ∧ Cond.instantiable C n ∈ ztb ∧ Cond.initialized C ∈ ztb ∧ ∀ j, j < n → defaultValue (ty j) = vp_V fs j
theorem z_new {ci n ix : Nat} {fs : List Value} (w : zNl K.2.2.1 ix ci n fs) (d : decode K.1 pc = .ok (.new ix, 3)) (k : Z l D K fr lo out (pc + 3) lv (.ref σ.1 :: st) (znew σ n (.inr (ci, fs)))) : Z l D K fr lo out pc lv st σ := by
  obtain ⟨Cn, T, ty, w1, w2, hty, w3, w4, w5, hfs⟩ := w
  refine k.mk fun C hK hH hc hs k => ?_
  have hKn := hK.1.1 ci _ w1
  rw [← hH.1] at k
  refine W.newcK C.1 C.2.1 C.2.2.2.1 (C.hts _ w3) (C.hts _ w4) (C.hts _ w5) rfl d hc hs hKn.2.1 rfl fun H1 kC hkC e1 z1 o1 => ?_
  exact k H1 ⟨_, w1, (u_born ty C.hts w2 hKn hkC e1 hty).to hfs⟩ z1 o1
end ZW
