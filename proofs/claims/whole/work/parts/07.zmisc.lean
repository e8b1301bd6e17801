/-! ===== further rows: null, casts, switches, constants, statics, texts, Object's constructor, athrow ===== -/
section ZMISC
variable {l : Launch} {D : zD} {K : zM} {fr lo : Nat} {out : Outcome × zS} {pc pc' : Nat} {lv lv' : List (Nat × Value)} {st st' : List Value} {σ σ' : zS}
theorem z_rfc (r : Option Nat) : (va_rf r).category = 1 := by cases r <;> rfl
theorem z_null (d : decode K.1 pc = .ok (.aconst_null, 1)) (k : Z l D K fr lo out (pc + 1) lv (.null :: st) σ) : Z l D K fr lo out pc lv st σ := k.go fun C h k => lv_null C.1 C.2.1 d k
theorem z_aload_nR {n : Fin 4} {r : Option Nat} (i : Nat) {j : Nat} (d : decode K.1 pc = .ok (.aload_n n, 1)) (hn : (n : Nat) = j) (hl : lv[i]? = some (j, va_rf r)) (k : Z l D K fr lo out (pc + 1) lv (va_rf r :: st) σ) : Z l D K fr lo out pc lv st σ := by
  cases r with
  | none => exact k.go fun C h k => lv_aload_nN C.1 C.2.1 d hn (lv_at h i hl) k
  | some a => exact k.go fun C h k => lv_aload_n C.1 C.2.1 d hn (lv_at h i hl) k
theorem z_aloadR {r : Option Nat} (i : Nat) {j : Nat} (d : decode K.1 pc = .ok (.aload j, 2)) (hl : lv[i]? = some (j, va_rf r)) (k : Z l D K fr lo out (pc + 2) lv (va_rf r :: st) σ) : Z l D K fr lo out pc lv st σ := by
  cases r with
  | none => exact k.go fun C h k => lv_aloadN C.1 C.2.1 d (lv_at h i hl) k
  | some a => exact k.go fun C h k => lv_aload C.1 C.2.1 d (lv_at h i hl) k
theorem z_astore_nR {n : Fin 4} {r : Option Nat} {j : Nat} (d : decode K.1 pc = .ok (.astore_n n, 1)) (hn : (n : Nat) = j) (hj : j < K.2.1) (hl : (j, va_rf r) :: lv.filter (fun q => !(q.1 == j) && !(q.1 + 1 == j && q.2.category == 2)) = lv') (k : Z l D K fr lo out (pc + 1) lv' st σ) : Z l D K fr lo out pc lv (va_rf r :: st) σ := by
  cases r with
  | none => exact k.sto fun C h k => lv_astore_nN C.1 C.2.1 d hn h hj hl k
  | some a => exact k.sto fun C h k => lv_astore_n C.1 C.2.1 d hn h hj hl k
theorem z_astoreR {r : Option Nat} {j : Nat} (d : decode K.1 pc = .ok (.astore j, 2)) (hj : j < K.2.1) (hl : (j, va_rf r) :: lv.filter (fun q => !(q.1 == j) && !(q.1 + 1 == j && q.2.category == 2)) = lv') (k : Z l D K fr lo out (pc + 2) lv' st σ) : Z l D K fr lo out pc lv (va_rf r :: st) σ := by
  cases r with
  | none => exact k.sto fun C h k => lv_astoreN C.1 C.2.1 d h hj hl k
  | some a => exact k.sto fun C h k => lv_astore C.1 C.2.1 d h hj hl k
theorem z_ifnull {r : Option Nat} {off : Int} {tgt : Nat} (d : decode K.1 pc = .ok (.ifnull off, 3)) (ht : (pc : Int) + off = (tgt : Int)) (kt : r = none → Z l D K fr lo out tgt lv st σ) (kf : ∀ a, r = some a → Z l D K fr lo out (pc + 3) lv st σ) : Z l D K fr lo out pc lv (va_rf r :: st) σ := by
  cases r with
  | none => exact (kt rfl).go fun C h k => lv_ifnullN C.1 C.2.1 d ht k
  | some a => exact (kf a rfl).go fun C h k => lv_ifnull C.1 C.2.1 d k
theorem z_ifnonnull {r : Option Nat} {off : Int} {tgt : Nat} (d : decode K.1 pc = .ok (.ifnonnull off, 3)) (ht : (pc : Int) + off = (tgt : Int)) (kt : ∀ a, r = some a → Z l D K fr lo out tgt lv st σ) (kf : r = none → Z l D K fr lo out (pc + 3) lv st σ) : Z l D K fr lo out pc lv (va_rf r :: st) σ := by
  cases r with
  | none => exact (kf rfl).go fun C h k => lv_ifnonnullN C.1 C.2.1 d k
  | some a => exact (kt a rfl).go fun C h k => lv_ifnonnull C.1 C.2.1 d ht k
theorem z_acmp_eq {rx ry : Option Nat} {off : Int} {tgt : Nat} (d : decode K.1 pc = .ok (.if_acmp .eq off, 3)) (ht : (pc : Int) + off = (tgt : Int)) (kt : rx = ry → Z l D K fr lo out tgt lv st σ) (kf : ¬ rx = ry → Z l D K fr lo out (pc + 3) lv st σ) : Z l D K fr lo out pc lv (va_rf ry :: va_rf rx :: st) σ :=
  Z.br (Classical.em _) kt kf fun C h kt kf => lv_acmp_eq C.1 C.2.1 d ht kt kf
theorem z_acmp_ne {rx ry : Option Nat} {off : Int} {tgt : Nat} (d : decode K.1 pc = .ok (.if_acmp .ne off, 3)) (ht : (pc : Int) + off = (tgt : Int)) (kt : ¬ rx = ry → Z l D K fr lo out tgt lv st σ) (kf : rx = ry → Z l D K fr lo out (pc + 3) lv st σ) : Z l D K fr lo out pc lv (va_rf ry :: va_rf rx :: st) σ :=
  Z.br (Classical.em _) kf kt fun C h kf kt => lv_acmp_ne C.1 C.2.1 d ht kt kf
/-- the class of the object at an address -/
def zcls (σ : zS) (a : Nat) : Option Nat := match σ.2.2 a with
  | some (_, .inr o) => some o.1
  | _ => none
theorem zcls_at {a ci : Nat} (h : zcls σ a = some ci) : ∃ b fs, σ.2.2 a = some (b, .inr (ci, fs)) := by
  unfold zcls at h
  split at h
  · rename_i b o ho
    cases h
    exact ⟨b, o.2, ho⟩
  · cases h
def zCl (own : String) (ix ci : Nat) : Prop := ∃ (C nm : String) (T : u_T) (N : Nat), zcl[ci]? = some (C, T, N) ∧ Cond.classLink own ix nm ∈ ztb ∧ (C = nm ∨ Cond.castable C nm ∈ ztb)
theorem z_castN {ix : Nat} (d : decode K.1 pc = .ok (.checkcast ix, 3)) (k : Z l D K fr lo out (pc + 3) lv (.null :: st) σ) : Z l D K fr lo out pc lv (.null :: st) σ := k.go fun C h k => lv_castN C.1 C.2.1 d k
theorem z_cast {a ci ix : Nat} (w : zCl K.2.2.1 ix ci) (d : decode K.1 pc = .ok (.checkcast ix, 3)) (hc : zcls σ a = some ci) (k : Z l D K fr lo out (pc + 3) lv (.ref a :: st) σ) : Z l D K fr lo out pc lv (.ref a :: st) σ := by
  obtain ⟨b, fs, hb⟩ := zcls_at hc
  obtain ⟨Cn, nm, T, N, w1, w2, w3⟩ := w
  refine k.rd fun C hK hH k => ?_
  rcases w3 with rfl | w3
  · exact va_castS C.1 C.2.1 C.2.2.2.1 (C.hts _ w2) (hK.1.1 ci _ w1).2 (z_recv hK hH w1 hb) d k
  · exact va_castY C.1 C.2.1 C.2.2.2.1 (C.hts _ w2) (va_Nw.of rfl (C.hts _ w3)) (z_recv hK hH w1 hb) d k
theorem z_inst1 {a ci ix : Nat} (w : zCl K.2.2.1 ix ci) (d : decode K.1 pc = .ok (.instanceof ix, 3)) (hc : zcls σ a = some ci) (k : Z l D K fr lo out (pc + 3) lv (.int 1 :: st) σ) : Z l D K fr lo out pc lv (.ref a :: st) σ := by
  obtain ⟨b, fs, hb⟩ := zcls_at hc
  obtain ⟨Cn, nm, T, N, w1, w2, w3⟩ := w
  refine k.rd fun C hK hH k => ?_
  rcases w3 with rfl | w3
  · exact va_instS C.1 C.2.1 C.2.2.2.1 (C.hts _ w2) (hK.1.1 ci _ w1).2 (z_recv hK hH w1 hb) d k
  · exact va_instY C.1 C.2.1 C.2.2.2.1 (C.hts _ w2) (va_Nw.of rfl (C.hts _ w3)) (z_recv hK hH w1 hb) d k
theorem z_instN {ix : Nat} (d : decode K.1 pc = .ok (.instanceof ix, 3)) (k : Z l D K fr lo out (pc + 3) lv (.int 0 :: st) σ) : Z l D K fr lo out pc lv (.null :: st) σ := k.go fun C h k => lv_instN C.1 C.2.1 d k
theorem z_inst0 {a ci ix N : Nat} {Cn nm : String} {T : u_T} (w1 : zcl[ci]? = some (Cn, T, N)) (w2 : Cond.classLink K.2.2.1 ix nm ∈ ztb) (w3 : (Cn, nm) ∈ D.2.2.2.2.2.2.1) (d : decode K.1 pc = .ok (.instanceof ix, 3)) (hc : zcls σ a = some ci) (k : Z l D K fr lo out (pc + 3) lv (.int 0 :: st) σ) : Z l D K fr lo out pc lv (.ref a :: st) σ := by
  obtain ⟨b, fs, hb⟩ := zcls_at hc
  exact k.rd fun C hK hH k => va_instNo C.1 C.2.1 C.2.2.2.1 (C.hts _ w2) (hK.2.2.2.2.2.1 _ w3) (z_recv hK hH w1 hb) d k
theorem z_tableOut {dflt lo' hi : Int} {offs : Array Int} {len : Nat} {x : Int32} {tgt : Nat} (d : decode K.1 pc = .ok (.tableswitch dflt lo' hi offs, len)) (h : x.toInt < lo' ∨ hi < x.toInt) (ht : (pc : Int) + dflt = (tgt : Int)) (k : Z l D K fr lo out tgt lv st σ) : Z l D K fr lo out pc lv (.int x :: st) σ := k.go fun C _ k => lv_tableOut C.1 C.2.1 d h ht k
theorem z_tableIn {dflt lo' hi : Int} {offs : Array Int} {len : Nat} {x : Int32} {off : Int} {tgt : Nat} (d : decode K.1 pc = .ok (.tableswitch dflt lo' hi offs, len)) (h1 : ¬ x.toInt < lo') (h2 : ¬ hi < x.toInt) (ho : offs[(x.toInt - lo').toNat]? = some off) (ht : (pc : Int) + off = (tgt : Int)) (k : Z l D K fr lo out tgt lv st σ) : Z l D K fr lo out pc lv (.int x :: st) σ := k.go fun C _ k => lv_tableIn C.1 C.2.1 d h1 h2 ho ht k
theorem z_lookup {dflt : Int} {ps : Array (Int × Int)} {len : Nat} {x : Int32} {off : Int} {tgt : Nat} (d : decode K.1 pc = .ok (.lookupswitch dflt ps, len)) (hp : (ps.toList.zip (ps.toList.drop 1)).all (fun (a, next) => a.1 < next.1) = true) (ho : Op.lookupswitch.offset ps.toList dflt x.toInt = off) (ht : (pc : Int) + off = (tgt : Int)) (k : Z l D K fr lo out tgt lv st σ) : Z l D K fr lo out pc lv (.int x :: st) σ := k.go fun C _ k => lv_lookup C.1 C.2.1 d hp ho ht k
theorem z_ldc {ix : Nat} {v : Int32} (w : Cond.constant K.2.2.1 ix v ∈ ztb) (d : decode K.1 pc = .ok (.ldc ix, 2)) (k : Z l D K fr lo out (pc + 2) lv (.int v :: st) σ) : Z l D K fr lo out pc lv st σ := k.go fun C _ k => lv_ldc C.1 C.2.1 C.2.2.2.1 (C.hts _ w) d k
theorem z_ldcw {ix : Nat} {v : Int32} (w : Cond.constant K.2.2.1 ix v ∈ ztb) (d : decode K.1 pc = .ok (.ldc_w ix, 3)) (k : Z l D K fr lo out (pc + 3) lv (.int v :: st) σ) : Z l D K fr lo out pc lv st σ := k.go fun C _ k => lv_ldcw C.1 C.2.1 C.2.2.2.1 (C.hts _ w) d k
theorem z_ldc2 {ix : Nat} {v : Int64} (w : Cond.constantLong K.2.2.1 ix v ∈ ztb) (d : decode K.1 pc = .ok (.ldc2_w ix, 3)) (k : Z l D K fr lo out (pc + 3) lv (.long v :: st) σ) : Z l D K fr lo out pc lv st σ := k.go fun C _ k => lv_ldc2 C.1 C.2.1 C.2.2.2.1 (C.hts _ w) d k
theorem z_ldcS {ix q : Nat} {tx : String} (w : (K.2.2.1, ix, tx, q) ∈ D.2.2.2.2.2.1) (d : decode K.1 pc = .ok (.ldc ix, 2)) (k : Z l D K fr lo out (pc + 2) lv (.ref q :: st) σ) : Z l D K fr lo out pc lv st σ := by
  refine k.rd fun {p e R s m args below meth c H locs cells slots Q ls} C hK _ k => ?_
  have h9 := hK.2.2.2.2.1 (K.2.2.1, ix, tx, q) w
  dsimp only at h9
  exact va_ldcS (own := K.2.2.1) (tx := tx) (index := ix) (q := q) C.1 C.2.1 C.2.2.2.1 h9 d k
theorem z_gets {ix : Nat} {Cn n dd ref : String} {v : Value} (w : (Cn, n, dd, v) ∈ D.2.2.2.2.1) (w2 : Cond.fieldLink K.2.2.1 ix ref n dd ∈ ztb) (w3 : ref = Cn ∨ Cond.sameField ref Cn n dd ∈ ztb) (d : decode K.1 pc = .ok (.getstatic ix, 3)) (k : Z l D K fr lo out (pc + 3) lv (v :: st) σ) : Z l D K fr lo out pc lv st σ := by
  refine k.rd fun {p e R s m args below meth c H locs cells slots Q ls} C hK hH k => ?_
  obtain ⟨cf, kf, fi, f, b, cell, h1, h2, h3, h4, h5, h6, h7, -⟩ := hK.2.2.2.1 _ w
  have h1 : s.fieldFound? Cn n dd = some (cf, kf, fi, f) := h1
  have h7 : cell.slots[f.slot]? = some v := h7
  have h8 : H[b]? = some cell := (hH.2.2 _ h5).1
  have h9 : s.fieldFound? ref n dd = some (cf, kf, fi, f) := z_same C.hts w3 _ h1
  have h10 : (Cond.fieldLink K.2.2.1 ix ref n dd).before args s = true := C.hts _ w2
  exact W.gets C.1 C.2.1 C.2.2.2.1 h10 h9 h2 h3 h4 h8 (fun e => by rw [e] at h6; cases h6) h7 rfl d k
/-- Object's constructor -/
theorem z_objInit {ix a : Nat} (w1 : Cond.methodLink K.2.2.1 ix objectInit ∈ ztb) (w2 : Cond.instanceMethod objectInit ∈ ztb) (w3 : Cond.code objectInit ⟨#[0xb1]⟩ 1 none ∈ ztb) (hfr : 1 ≤ fr) (hlo : (st.map fun v => v.category).sum + 12 ≤ lo) (d : decode K.1 pc = .ok (.invokespecial ix, 3)) (k : Z l D K fr lo out (pc + 3) lv st σ) : Z l D K fr lo out pc lv (.ref a :: st) σ :=
  ⟨k.1, fun p e R s m args below meth c C f1 f2 hK A ls H locs cells slots b1 b2 b3 b4 b5 b6 b7 => W.objInit C.1 C.2.1 C.2.2.2.1 (C.hts _ w1) (C.hts _ w2) (C.hts _ w3) rfl (by rw [C.2.2.1]; exact b5.1) rfl d (by omega) (by show 2 * 0 + (st.map fun v => v.category).sum + 12 ≤ R.locals; omega) (k.2 p e R s m args below meth c C f1 f2 hK A ls H locs cells slots b1 b2 b3 b4 b5 b6 b7)⟩
/-- athrow where no handler covers the place -/
theorem z_athrow {a : Nat} (ho : out = (.threw a, σ)) (hh : (tableOf K.2.2.2.2.2).all (fun x => !covers x pc) = true) (d : decode K.1 pc = .ok (.athrow, 1)) : Z l D K fr lo out pc lv (.ref a :: st) σ := by
  subst ho
  refine ⟨⟨Nat.le_refl _, Nat.le_refl _⟩, fun p e R s m args below meth c C f1 f2 hK A ls H locs cells slots b1 b2 b3 b4 b5 b6 b7 => ?_⟩
  intro T hT X
  obtain ⟨t1, t2, t3, t4, t5⟩ := X.athrowLeaves C.1 (g := F0 m pc ls (.ref a :: st)) rfl rfl rfl (fun x hx => by rw [C.2.2.2.2.2.2.2.1] at hx; have h9 : (!covers x pc) = true := List.all_eq_true.mp hh x hx; show covers x pc = false; cases h8 : covers x pc with | false => rfl | true => rw [h8] at h9; cases h9) rfl (by rw [C.2.1]; exact d) C.2.2.2.2.2.2.1
  have t6 : (T.setFrames (.throwing a :: below)).heap = H := hT
  refine ⟨_, t1, t2, t3, by rw [t6]; exact b4, ⟨by rw [t6]; exact b3.1, fun q h1 h2 => by rw [t6]; exact b3.2.1 q h1 h2⟩, b2, t4, locs, ?_, b3.2.2⟩
  rw [Nat.sub_self, Nat.sub_self]
  exact t5
end ZMISC
