theorem z_ci (x : Int32) : (Value.int x).category = 1 := rfl
theorem z_cl (x : Int64) : (Value.long x).category = 2 := rfl
theorem z_cr (x : Nat) : (Value.ref x).category = 1 := rfl
theorem z_cn : Value.null.category = 1 := rfl
def zfuel : Nat := 1048576
theorem z_nb {e : Int32} (h : e = 0 ∨ e = 1) : narrow .boolean (.int e) = .int e := by rcases h with rfl | rfl <;> rfl
theorem z_fb {e : Int32} (h : e = 0 ∨ e = 1) : fits .boolean (.int e) = true := by rcases h with rfl | rfl <;> rfl
theorem z_nr (C : String) (r : Option Nat) : narrow (.object C) (va_rf r) = va_rf r := by cases r <;> rfl
theorem z_fr (C : String) (r : Option Nat) : fits (.object C) (va_rf r) = true := by cases r <;> rfl
theorem z_nra (C : FieldType) (r : Option Nat) : narrow (.array C) (va_rf r) = va_rf r := by cases r <;> rfl
theorem z_fra (C : FieldType) (r : Option Nat) : fits (.array C) (va_rf r) = true := by cases r <;> rfl
theorem z_nB {e : Int32} (h : e = 0 ∨ e = 1) : narrow .byte (.int e) = .int e := by rcases h with rfl | rfl <;> rfl
theorem z_fB {e : Int32} (h : e = 0 ∨ e = 1) : fits .byte (.int e) = true := by rcases h with rfl | rfl <;> rfl
theorem z_nc {e : Int32} (h : vp_nar .char e = e) : narrow .char (.int e) = .int e := by
  have h2 : narrow .char (.int e) = .int (vp_nar .char e) := rfl
  rw [h2, h]
theorem z_ns {e : Int32} (h : vp_nar .short e = e) : narrow .short (.int e) = .int e := by
  have h2 : narrow .short (.int e) = .int (vp_nar .short e) := rfl
  rw [h2, h]
theorem z_nb' {e : Int32} (h : vp_nar .byte e = e) : narrow .byte (.int e) = .int e := by
  have h2 : narrow .byte (.int e) = .int (vp_nar .byte e) := rfl
  rw [h2, h]
def zis (σ : zS) (a ci : Nat) : Option Unit := if zcls σ a = some ci then some () else none
theorem zis_at {σ : zS} {a ci : Nat} {u : Unit} (h : zis σ a ci = some u) : zcls σ a = some ci := by
  unfold zis at h
  split at h
  · assumption
  · cases h
def zis2 (σ : zS) (a c1 c2 : Nat) : Option Unit := if zcls σ a = some c1 then some () else zis σ a c2
section ZGEN
variable {l : Launch} {D : zD} {K : zM} {fr lo : Nat} {out : Outcome × zS} {pc pc' : Nat} {lv lv' : List (Nat × Value)} {st st' : List Value} {σ σ' : zS}
theorem z_lv (ks : List Nat) (hl : lv_pick lv ks = lv') (k : Z l D K fr lo out pc lv' st σ) : Z l D K fr lo out pc lv st σ :=
  ⟨k.1, fun p e R s m args below meth c C f1 f2 hK A ls H locs cells slots b1 b2 b3 b4 b5 b6 b7 => k.2 p e R s m args below meth c C f1 f2 hK A ls H locs cells slots b1 b2 b3 b4 (lv_sub b5 ks hl) b6 b7⟩
theorem z_cast2 {a c1 c2 ix : Nat} {u : Unit} (w1 : zCl K.2.2.1 ix c1) (w2 : zCl K.2.2.1 ix c2) (d : decode K.1 pc = .ok (.checkcast ix, 3)) (h : zis2 σ a c1 c2 = some u) (k : Z l D K fr lo out (pc + 3) lv (.ref a :: st) σ) : Z l D K fr lo out pc lv (.ref a :: st) σ := by
  unfold zis2 at h
  split at h
  · rename_i h1
    exact z_cast w1 d h1 k
  · exact z_cast w2 d (zis_at h) k
theorem z_callS {y : MethodName} {K' : zM} {fr' lo' ix : Nat} {av : List Value} {v : Option Value} {σ1 : zS} (w : zSl K.2.2.1 ix y K' av.length) (hM : zMet l D y K' fr' lo' av σ (.returned v, σ1)) (hfr : fr' + 1 ≤ fr) (hlo : 8 + (K'.2.1 + 11) + lo' ≤ lo) (d : decode K.1 pc = .ok (.invokestatic ix, 3)) (hst : (st.map fun v => v.category).sum ≤ 8) (k : Z l D K fr lo out (pc + 3) lv (v.toList ++ st) σ1) : Z l D K fr lo out pc lv (av.reverse ++ st) σ :=
  z_callS' w hM hfr hlo d hst (fun v' hv => by cases hv; exact k) (fun a ha => by cases ha)
theorem z_callV {y : MethodName} {K' : zM} {fr' lo' ix ci b : Nat} {ow : Bool} {fs : List Value} {av : List Value} {v : Option Value} {σ1 : zS} (w : zVl K.2.2.1 ix ci y K' av.length) (hb : σ.2.2 b = some (ow, .inr (ci, fs))) (hM : zMet l D y K' fr' lo' (.ref b :: av) σ (.returned v, σ1)) (hfr : fr' + 1 ≤ fr) (hlo : 8 + (K'.2.1 + 11) + lo' ≤ lo) (d : decode K.1 pc = .ok (.invokevirtual ix, 3)) (hst : (st.map fun v => v.category).sum ≤ 8) (k : Z l D K fr lo out (pc + 3) lv (v.toList ++ st) σ1) : Z l D K fr lo out pc lv (av.reverse ++ .ref b :: st) σ :=
  z_callV' w hb hM hfr hlo d hst (fun v' hv => by cases hv; exact k) (fun a ha => by cases ha)
theorem z_callI {y : MethodName} {K' : zM} {fr' lo' ix b : Nat} {av : List Value} {v : Option Value} {σ1 : zS} (w : zIl K.2.2.1 ix y K' av.length) (hM : zMet l D y K' fr' lo' (.ref b :: av) σ (.returned v, σ1)) (hfr : fr' + 1 ≤ fr) (hlo : 8 + (K'.2.1 + 11) + lo' ≤ lo) (d : decode K.1 pc = .ok (.invokespecial ix, 3)) (hst : (st.map fun v => v.category).sum ≤ 8) (k : Z l D K fr lo out (pc + 3) lv (v.toList ++ st) σ1) : Z l D K fr lo out pc lv (av.reverse ++ .ref b :: st) σ :=
  z_callI' w hM hfr hlo d hst (fun v' hv => by cases hv; exact k) (fun a ha => by cases ha)
theorem z_callW {y : MethodName} {K' : zM} {fr' lo' ix ci b : Nat} {ow : Bool} {fs : List Value} {av : List Value} {v : Option Value} {σ1 : zS} (w : zWl K.2.2.1 ix ci y K' av.length) (hb : σ.2.2 b = some (ow, .inr (ci, fs))) (hM : zMet l D y K' fr' lo' (.ref b :: av) σ (.returned v, σ1)) (hfr : fr' + 1 ≤ fr) (hlo : 8 + (K'.2.1 + 11) + lo' ≤ lo) (d : decode K.1 pc = .ok (.invokevirtual ix, 3)) (hst : (st.map fun v => v.category).sum ≤ 8) (k : Z l D K fr lo out (pc + 3) lv (v.toList ++ st) σ1) : Z l D K fr lo out pc lv (av.reverse ++ .ref b :: st) σ :=
  z_callW' w hb hM hfr hlo d hst (fun v' hv => by cases hv; exact k) (fun a ha => by cases ha)
theorem z_callS_t {y : MethodName} {K' : zM} {fr' lo' ix a : Nat} {av : List Value} {σ1 : zS} (w : zSl K.2.2.1 ix y K' av.length) (hM : zMet l D y K' fr' lo' av σ (.threw a, σ1)) (hfr : fr' + 1 ≤ fr) (hlo : 8 + (K'.2.1 + 11) + lo' ≤ lo) (d : decode K.1 pc = .ok (.invokestatic ix, 3)) (hst : (st.map fun v => v.category).sum ≤ 8) (k : ZT l D K fr lo out pc lv st σ1 a) : Z l D K fr lo out pc lv (av.reverse ++ st) σ :=
  z_callS' w hM hfr hlo d hst (fun v' hv => by cases hv) (fun a ha => by cases ha; exact k)
theorem z_callV_t {y : MethodName} {K' : zM} {fr' lo' ix ci b a : Nat} {ow : Bool} {fs : List Value} {av : List Value} {σ1 : zS} (w : zVl K.2.2.1 ix ci y K' av.length) (hb : σ.2.2 b = some (ow, .inr (ci, fs))) (hM : zMet l D y K' fr' lo' (.ref b :: av) σ (.threw a, σ1)) (hfr : fr' + 1 ≤ fr) (hlo : 8 + (K'.2.1 + 11) + lo' ≤ lo) (d : decode K.1 pc = .ok (.invokevirtual ix, 3)) (hst : (st.map fun v => v.category).sum ≤ 8) (k : ZT l D K fr lo out pc lv st σ1 a) : Z l D K fr lo out pc lv (av.reverse ++ .ref b :: st) σ :=
  z_callV' w hb hM hfr hlo d hst (fun v' hv => by cases hv) (fun a ha => by cases ha; exact k)
end ZGEN
/-- the launch is one without stack traces -/
def zLo (l : Launch) : Prop := l.flags = pinnedFlags ++ [noTraceFlag]
def zoV : Unit ⊕ Nat → Outcome
  | .inl _ => .returned none
  | .inr a => .threw a
def zoI : Int32 ⊕ Nat → Outcome
  | .inl x => .returned (some (.int x))
  | .inr a => .threw a
def zoJ : Int64 ⊕ Nat → Outcome
  | .inl x => .returned (some (.long x))
  | .inr a => .threw a
/-- what the statics and texts are: g names the addresses that only the start knows -/
abbrev zG : Type := Nat → Option Nat
def zGok (g : zG) (D : zD) : Prop := ("java/lang/String", "COMPACT_STRINGS", "Z", Value.int 1) ∈ D.2.2.2.2.1 ∧ ("java/lang/StringUTF16", "$assertionsDisabled", "Z", Value.int 1) ∈ D.2.2.2.2.1 ∧ ("java/lang/StringUTF16", "HI_BYTE_SHIFT", "I", Value.int 0) ∈ D.2.2.2.2.1 ∧ ("java/lang/StringUTF16", "LO_BYTE_SHIFT", "I", Value.int 8) ∈ D.2.2.2.2.1 ∧ ("java/util/ArrayList", "DEFAULTCAPACITY_EMPTY_ELEMENTDATA", "[Ljava/lang/Object;", va_rf (g 0)) ∈ D.2.2.2.2.1 ∧ ("java/lang/Throwable", "UNASSIGNED_STACK", "[Ljava/lang/StackTraceElement;", va_rf (g 1)) ∈ D.2.2.2.2.1 ∧ ("java/lang/Throwable", "SUPPRESSED_SENTINEL", "Ljava/util/List;", va_rf (g 2)) ∈ D.2.2.2.2.1 ∧ ("jdk/internal/util/Preconditions", "SIOOBE_FORMATTER", "Ljava/util/function/BiFunction;", va_rf (g 3)) ∈ D.2.2.2.2.1 ∧ (∀ q : Nat, g 20 = some q → ("NumberOffice$SeriesBook", 29, "", q) ∈ D.2.2.2.2.2.1) ∧ (∀ q : Nat, g 21 = some q → ("NumberOffice", 207, "this side is down", q) ∈ D.2.2.2.2.2.1) ∧ (∀ q : Nat, g 22 = some q → ("NumberOffice$ListText", 63, " U ", q) ∈ D.2.2.2.2.2.1) ∧ (∀ q : Nat, g 23 = some q → ("NumberOffice$ListText", 65, " V ", q) ∈ D.2.2.2.2.2.1) ∧ (∀ q : Nat, g 24 = some q → ("NumberOffice$ListText", 67, " L", q) ∈ D.2.2.2.2.2.1) ∧ (∀ q : Nat, g 25 = some q → ("NumberOffice$ListText", 40, "T ", q) ∈ D.2.2.2.2.2.1) ∧ ("NumberOffice$Answer", "NumberOffice$Letter") ∈ D.2.2.2.2.2.2.1 ∧ ("NumberOffice$Letter", "NumberOffice$Answer") ∈ D.2.2.2.2.2.2.1 ∧ (∀ q : Nat, g 10 = some q → ("[Ljava/lang/Object;", q) ∈ D.2.2.2.2.2.2.2)
theorem zG_0 {g : zG} {D : zD} (h : zGok g D) : ("java/lang/String", "COMPACT_STRINGS", "Z", Value.int 1) ∈ D.2.2.2.2.1 := h.1
theorem zG_1 {g : zG} {D : zD} (h : zGok g D) : ("java/lang/StringUTF16", "$assertionsDisabled", "Z", Value.int 1) ∈ D.2.2.2.2.1 := h.2.1
theorem zG_2 {g : zG} {D : zD} (h : zGok g D) : ("java/lang/StringUTF16", "HI_BYTE_SHIFT", "I", Value.int 0) ∈ D.2.2.2.2.1 := h.2.2.1
theorem zG_3 {g : zG} {D : zD} (h : zGok g D) : ("java/lang/StringUTF16", "LO_BYTE_SHIFT", "I", Value.int 8) ∈ D.2.2.2.2.1 := h.2.2.2.1
theorem zG_4 {g : zG} {D : zD} (h : zGok g D) : ("java/util/ArrayList", "DEFAULTCAPACITY_EMPTY_ELEMENTDATA", "[Ljava/lang/Object;", va_rf (g 0)) ∈ D.2.2.2.2.1 := h.2.2.2.2.1
theorem zG_5 {g : zG} {D : zD} (h : zGok g D) : ("java/lang/Throwable", "UNASSIGNED_STACK", "[Ljava/lang/StackTraceElement;", va_rf (g 1)) ∈ D.2.2.2.2.1 := h.2.2.2.2.2.1
theorem zG_6 {g : zG} {D : zD} (h : zGok g D) : ("java/lang/Throwable", "SUPPRESSED_SENTINEL", "Ljava/util/List;", va_rf (g 2)) ∈ D.2.2.2.2.1 := h.2.2.2.2.2.2.1
theorem zG_7 {g : zG} {D : zD} (h : zGok g D) : ("jdk/internal/util/Preconditions", "SIOOBE_FORMATTER", "Ljava/util/function/BiFunction;", va_rf (g 3)) ∈ D.2.2.2.2.1 := h.2.2.2.2.2.2.2.1
theorem zG_8 {g : zG} {D : zD} (h : zGok g D) : (∀ q : Nat, g 20 = some q → ("NumberOffice$SeriesBook", 29, "", q) ∈ D.2.2.2.2.2.1) := h.2.2.2.2.2.2.2.2.1
theorem zG_9 {g : zG} {D : zD} (h : zGok g D) : (∀ q : Nat, g 21 = some q → ("NumberOffice", 207, "this side is down", q) ∈ D.2.2.2.2.2.1) := h.2.2.2.2.2.2.2.2.2.1
theorem zG_10 {g : zG} {D : zD} (h : zGok g D) : (∀ q : Nat, g 22 = some q → ("NumberOffice$ListText", 63, " U ", q) ∈ D.2.2.2.2.2.1) := h.2.2.2.2.2.2.2.2.2.2.1
theorem zG_11 {g : zG} {D : zD} (h : zGok g D) : (∀ q : Nat, g 23 = some q → ("NumberOffice$ListText", 65, " V ", q) ∈ D.2.2.2.2.2.1) := h.2.2.2.2.2.2.2.2.2.2.2.1
theorem zG_12 {g : zG} {D : zD} (h : zGok g D) : (∀ q : Nat, g 24 = some q → ("NumberOffice$ListText", 67, " L", q) ∈ D.2.2.2.2.2.1) := h.2.2.2.2.2.2.2.2.2.2.2.2.1
theorem zG_13 {g : zG} {D : zD} (h : zGok g D) : (∀ q : Nat, g 25 = some q → ("NumberOffice$ListText", 40, "T ", q) ∈ D.2.2.2.2.2.1) := h.2.2.2.2.2.2.2.2.2.2.2.2.2.1
theorem zG_14 {g : zG} {D : zD} (h : zGok g D) : ("NumberOffice$Answer", "NumberOffice$Letter") ∈ D.2.2.2.2.2.2.1 := h.2.2.2.2.2.2.2.2.2.2.2.2.2.2.1
theorem zG_15 {g : zG} {D : zD} (h : zGok g D) : ("NumberOffice$Letter", "NumberOffice$Answer") ∈ D.2.2.2.2.2.2.1 := h.2.2.2.2.2.2.2.2.2.2.2.2.2.2.2.1
theorem zG_16 {g : zG} {D : zD} (h : zGok g D) : (∀ q : Nat, g 10 = some q → ("[Ljava/lang/Object;", q) ∈ D.2.2.2.2.2.2.2) := h.2.2.2.2.2.2.2.2.2.2.2.2.2.2.2.2
