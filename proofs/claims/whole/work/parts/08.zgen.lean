theorem z_ci (x : Int32) : (Value.int x).category = 1 := rfl
theorem z_cl (x : Int64) : (Value.long x).category = 2 := rfl
theorem z_cr (x : Nat) : (Value.ref x).category = 1 := rfl
theorem z_cn : Value.null.category = 1 := rfl
def zfuel : Nat := 1048576
theorem z_nb {e : Int32} (h : e = 0 ∨ e = 1) : narrow .boolean (.int e) = .int e := by rcases h with rfl | rfl <;> rfl
theorem z_fb {e : Int32} (h : e = 0 ∨ e = 1) : fits .boolean (.int e) = true := by rcases h with rfl | rfl <;> rfl
theorem z_nr (C : String) (r : Option Nat) : narrow (.object C) (va_rf r) = va_rf r := by cases r <;> rfl
theorem z_fr (C : String) (r : Option Nat) : fits (.object C) (va_rf r) = true := by cases r <;> rfl
theorem z_nra (C : FieldType) (r : Option Nat) : narrow (.array C) (va_rf r) = va_rf r := by cases r <;> rfl
theorem z_fra (C : FieldType) (r : Option Nat) : fits (.array C) (va_rf r) = true := by cases r <;> rfl
def zis (σ : zS) (a ci : Nat) : Option Unit := if zcls σ a = some ci then some () else none
theorem zis_at {σ : zS} {a ci : Nat} {u : Unit} (h : zis σ a ci = some u) : zcls σ a = some ci := by
  unfold zis at h
  split at h
  · assumption
  · cases h
section ZGEN
variable {l : Launch} {D : zD} {K : zM} {fr lo : Nat} {out : Outcome × zS} {pc pc' : Nat} {lv lv' : List (Nat × Value)} {st st' : List Value} {σ σ' : zS}
theorem z_lv (ks : List Nat) (hl : lv_pick lv ks = lv') (k : Z l D K fr lo out pc lv' st σ) : Z l D K fr lo out pc lv st σ :=
  ⟨k.1, fun p e R s m args below meth c C f1 f2 hK A ls H locs cells slots b1 b2 b3 b4 b5 b6 b7 => k.2 p e R s m args below meth c C f1 f2 hK A ls H locs cells slots b1 b2 b3 b4 (lv_sub b5 ks hl) b6 b7⟩
theorem z_callS {y : MethodName} {K' : zM} {fr' lo' ix : Nat} {av : List Value} {v : Option Value} {σ1 : zS} (w : zSl K.2.2.1 ix y K' av.length) (hM : zMet l D y K' fr' lo' av σ (.returned v, σ1)) (hfr : fr' + 1 ≤ fr) (hlo : 8 + (K'.2.1 + 11) + lo' ≤ lo) (d : decode K.1 pc = .ok (.invokestatic ix, 3)) (hst : (st.map fun v => v.category).sum ≤ 8) (k : Z l D K fr lo out (pc + 3) lv (v.toList ++ st) σ1) : Z l D K fr lo out pc lv (av.reverse ++ st) σ :=
  z_callS' w hM hfr hlo d hst (fun v' hv => by cases hv; exact k) (fun a ha => by cases ha)
theorem z_callV {y : MethodName} {K' : zM} {fr' lo' ix ci b : Nat} {ow : Bool} {fs : List Value} {av : List Value} {v : Option Value} {σ1 : zS} (w : zVl K.2.2.1 ix ci y K' av.length) (hb : σ.2.2 b = some (ow, .inr (ci, fs))) (hM : zMet l D y K' fr' lo' (.ref b :: av) σ (.returned v, σ1)) (hfr : fr' + 1 ≤ fr) (hlo : 8 + (K'.2.1 + 11) + lo' ≤ lo) (d : decode K.1 pc = .ok (.invokevirtual ix, 3)) (hst : (st.map fun v => v.category).sum ≤ 8) (k : Z l D K fr lo out (pc + 3) lv (v.toList ++ st) σ1) : Z l D K fr lo out pc lv (av.reverse ++ .ref b :: st) σ :=
  z_callV' w hb hM hfr hlo d hst (fun v' hv => by cases hv; exact k) (fun a ha => by cases ha)
theorem z_callI {y : MethodName} {K' : zM} {fr' lo' ix b : Nat} {av : List Value} {v : Option Value} {σ1 : zS} (w : zIl K.2.2.1 ix y K' av.length) (hM : zMet l D y K' fr' lo' (.ref b :: av) σ (.returned v, σ1)) (hfr : fr' + 1 ≤ fr) (hlo : 8 + (K'.2.1 + 11) + lo' ≤ lo) (d : decode K.1 pc = .ok (.invokespecial ix, 3)) (hst : (st.map fun v => v.category).sum ≤ 8) (k : Z l D K fr lo out (pc + 3) lv (v.toList ++ st) σ1) : Z l D K fr lo out pc lv (av.reverse ++ .ref b :: st) σ :=
  z_callI' w hM hfr hlo d hst (fun v' hv => by cases hv; exact k) (fun a ha => by cases ha)
end ZGEN
