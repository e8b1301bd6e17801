/-! ===== arrays: what is read off a world, and rows ===== -/
def zaI (σ : zS) (a t : Nat) (i : Int32) : Option Int32 := match zar σ a t with
  | some (n, .inl f) => if i < 0 ∨ n ≤ i.toNatClampNeg then none else some (f i.toNatClampNeg)
  | _ => none
def zaL (σ : zS) (a t : Nat) (i : Int32) : Option Int64 := match zar σ a t with
  | some (n, .inr (.inl f)) => if i < 0 ∨ n ≤ i.toNatClampNeg then none else some (f i.toNatClampNeg)
  | _ => none
def zaR (σ : zS) (a t : Nat) (i : Int32) : Option (Option Nat) := match zar σ a t with
  | some (n, .inr (.inr (.inr (.inr f)))) => if i < 0 ∨ n ≤ i.toNatClampNeg then none else some (f i.toNatClampNeg)
  | _ => none
def zal (σ : zS) (a t : Nat) : Option Int32 := match zar σ a t with
  | some x => some (Int32.ofNat x.1)
  | none => none
def zsI (σ : zS) (a t : Nat) (i y : Int32) : Option zS := match zar σ a t with
  | some (n, .inl f) => if (i < 0 ∨ n ≤ i.toNatClampNeg) ∨ zown σ a = false then none else some (zupd σ a (.inl (t, n, .inl (upd f i.toNatClampNeg y))))
  | _ => none
def zsL (σ : zS) (a t : Nat) (i : Int32) (y : Int64) : Option zS := match zar σ a t with
  | some (n, .inr (.inl f)) => if (i < 0 ∨ n ≤ i.toNatClampNeg) ∨ zown σ a = false then none else some (zupd σ a (.inl (t, n, .inr (.inl (vp_updL f i.toNatClampNeg y)))))
  | _ => none
/-- may an object of class ci stand in an array of type t -/
def zAs (t ci : Nat) : Prop := ∃ (C E : String) (T : u_T) (N : Nat), zcl[ci]? = some (C, T, N) ∧ zty[t]? = some (.object E) ∧ (C = E ∨ Cond.castable C E ∈ ztb)
def zokR (σ : zS) (t : Nat) (r : Option Nat) : Bool := match r with
  | none => true
  | some v => match σ.2.2 v with
    | some (_, .inr o) => zasg.contains (t, o.1)
    | _ => false
def zsR (σ : zS) (a t : Nat) (i : Int32) (r : Option Nat) : Option zS := match zar σ a t with
  | some (n, .inr (.inr (.inr (.inr f)))) => if ((i < 0 ∨ n ≤ i.toNatClampNeg) ∨ zown σ a = false) ∨ zokR σ t r = false then none else some (zupd σ a (.inl (t, n, .inr (.inr (.inr (.inr (va_up f i.toNatClampNeg r)))))))
  | _ => none
theorem zasg_ok : ∀ q ∈ zasg, zAs q.1 q.2 := by
  intro q hq
  simp only [zasg, List.mem_cons, List.not_mem_nil, or_false] at hq
  rcases hq with rfl | rfl | rfl | rfl | rfl | rfl | rfl | rfl | rfl | rfl | rfl | rfl | rfl | rfl | rfl | rfl | rfl
  · exact ⟨"NumberOffice$Branch", "NumberOffice$Branch", zF_Branch, 9, rfl, rfl, Or.inl rfl⟩
  · exact ⟨"NumberOffice$BranchSeries", "NumberOffice$BranchSeries", zF_BranchSeries, 10, rfl, rfl, Or.inl rfl⟩
  · exact ⟨"NumberOffice$SeriesBook", "NumberOffice$SeriesBook", zF_SeriesBook, 8, rfl, rfl, Or.inl rfl⟩
  · exact ⟨"NumberOffice$Answer", "NumberOffice$Answer", zF_Answer, 5, rfl, rfl, Or.inl rfl⟩
  · exact ⟨"NumberOffice", "java/lang/Object", zF_NumberOffice, 3, rfl, rfl, Or.inr (ztb_of 1522 (by decide +kernel) rfl)⟩
  · exact ⟨"NumberOffice$Branch", "java/lang/Object", zF_Branch, 9, rfl, rfl, Or.inr (ztb_of 1523 (by decide +kernel) rfl)⟩
  · exact ⟨"NumberOffice$BranchSeries", "java/lang/Object", zF_BranchSeries, 10, rfl, rfl, Or.inr (ztb_of 1524 (by decide +kernel) rfl)⟩
  · exact ⟨"NumberOffice$Office", "java/lang/Object", zF_Office, 7, rfl, rfl, Or.inr (ztb_of 1525 (by decide +kernel) rfl)⟩
  · exact ⟨"NumberOffice$SeriesBook", "java/lang/Object", zF_SeriesBook, 8, rfl, rfl, Or.inr (ztb_of 1526 (by decide +kernel) rfl)⟩
  · exact ⟨"NumberOffice$Answer", "java/lang/Object", zF_Answer, 5, rfl, rfl, Or.inr (ztb_of 1532 (by decide +kernel) rfl)⟩
  · exact ⟨"NumberOffice$Block", "java/lang/Object", zF_Block, 2, rfl, rfl, Or.inr (ztb_of 1533 (by decide +kernel) rfl)⟩
  · exact ⟨"NumberOffice$Letter", "java/lang/Object", zF_Letter, 6, rfl, rfl, Or.inr (ztb_of 1528 (by decide +kernel) rfl)⟩
  · exact ⟨"NumberOffice$Event", "java/lang/Object", zF_Event, 4, rfl, rfl, Or.inr (ztb_of 1529 (by decide +kernel) rfl)⟩
  · exact ⟨"NumberOffice$ListText", "java/lang/Object", zF_ListText, 2, rfl, rfl, Or.inr (ztb_of 1530 (by decide +kernel) rfl)⟩
  · exact ⟨"java/lang/String", "java/lang/Object", zF_String, 4, rfl, rfl, Or.inr (ztb_of 1531 (by decide +kernel) rfl)⟩
  · exact ⟨"NumberOfficeModel", "java/lang/Object", zF_NumberOfficeModel, 40, rfl, rfl, Or.inr (ztb_of 1527 (by decide +kernel) rfl)⟩
  · exact ⟨"NumberOffice$Event", "NumberOffice$Event", zF_Event, 4, rfl, rfl, Or.inl rfl⟩
theorem zaI_at {σ : zS} {a t : Nat} {i : Int32} {x : Int32} (h : zaI σ a t i = some x) : ∃ (b : Bool) (n : Nat) (f : Nat → Int32), σ.2.2 a = some (b, .inl (t, n, .inl f)) ∧ vp_in i n ∧ f i.toNatClampNeg = x := by
  unfold zaI at h
  split at h
  · rename_i n f hz
    split at h
    · cases h
    · rename_i hi
      cases h
      obtain ⟨b, hb⟩ := zar_at hz
      exact ⟨b, n, f, hb, hi, rfl⟩
  · cases h
theorem zaL_at {σ : zS} {a t : Nat} {i : Int32} {x : Int64} (h : zaL σ a t i = some x) : ∃ (b : Bool) (n : Nat) (f : Nat → Int64), σ.2.2 a = some (b, .inl (t, n, .inr (.inl f))) ∧ vp_in i n ∧ f i.toNatClampNeg = x := by
  unfold zaL at h
  split at h
  · rename_i n f hz
    split at h
    · cases h
    · rename_i hi
      cases h
      obtain ⟨b, hb⟩ := zar_at hz
      exact ⟨b, n, f, hb, hi, rfl⟩
  · cases h
theorem zaR_at {σ : zS} {a t : Nat} {i : Int32} {x : Option Nat} (h : zaR σ a t i = some x) : ∃ (b : Bool) (n : Nat) (f : Nat → Option Nat), σ.2.2 a = some (b, .inl (t, n, .inr (.inr (.inr (.inr f))))) ∧ vp_in i n ∧ f i.toNatClampNeg = x := by
  unfold zaR at h
  split at h
  · rename_i n f hz
    split at h
    · cases h
    · rename_i hi
      cases h
      obtain ⟨b, hb⟩ := zar_at hz
      exact ⟨b, n, f, hb, hi, rfl⟩
  · cases h
theorem zown_ar {σ : zS} {a t : Nat} {x : vp_A} (h : zar σ a t = some x) (ho : ¬ zown σ a = false) : σ.2.2 a = some (true, .inl (t, x)) := by
  obtain ⟨b, hb⟩ := zar_at h
  have hz := zown_at hb (by cases hz : zown σ a with | true => rfl | false => exact absurd hz ho)
  subst hz
  exact hb
theorem zal_at {σ : zS} {a t : Nat} {x : Int32} (h : zal σ a t = some x) : ∃ (b : Bool) (v : vp_A), σ.2.2 a = some (b, .inl (t, v)) ∧ Int32.ofNat v.1 = x := by
  unfold zal at h
  split at h
  · rename_i v hz
    cases h
    obtain ⟨b, hb⟩ := zar_at hz
    exact ⟨b, v, hb, rfl⟩
  · cases h
theorem zsI_at {σ σ' : zS} {a t : Nat} {i y : Int32} (h : zsI σ a t i y = some σ') : ∃ (n : Nat) (f : Nat → Int32), σ.2.2 a = some (true, .inl (t, n, .inl f)) ∧ vp_in i n ∧ σ' = zupd σ a (.inl (t, n, .inl (upd f i.toNatClampNeg y))) := by
  unfold zsI at h
  split at h
  · rename_i n f hz
    split at h
    · cases h
    · rename_i hi
      cases h
      exact ⟨n, f, zown_ar hz (fun q => hi (Or.inr q)), fun q => hi (Or.inl q), rfl⟩
  · cases h
theorem zsL_at {σ σ' : zS} {a t : Nat} {i : Int32} {y : Int64} (h : zsL σ a t i y = some σ') : ∃ (n : Nat) (f : Nat → Int64), σ.2.2 a = some (true, .inl (t, n, .inr (.inl f))) ∧ vp_in i n ∧ σ' = zupd σ a (.inl (t, n, .inr (.inl (vp_updL f i.toNatClampNeg y)))) := by
  unfold zsL at h
  split at h
  · rename_i n f hz
    split at h
    · cases h
    · rename_i hi
      cases h
      exact ⟨n, f, zown_ar hz (fun q => hi (Or.inr q)), fun q => hi (Or.inl q), rfl⟩
  · cases h
theorem zsR_at {σ σ' : zS} {a t : Nat} {i : Int32} {r : Option Nat} (h : zsR σ a t i r = some σ') : ∃ (n : Nat) (f : Nat → Option Nat), σ.2.2 a = some (true, .inl (t, n, .inr (.inr (.inr (.inr f))))) ∧ vp_in i n ∧ zokR σ t r = true ∧ σ' = zupd σ a (.inl (t, n, .inr (.inr (.inr (.inr (va_up f i.toNatClampNeg r)))))) := by
  unfold zsR at h
  split at h
  · rename_i n f hz
    split at h
    · cases h
    · rename_i hi
      cases h
      refine ⟨n, f, zown_ar hz (fun q => hi (Or.inl (Or.inr q))), fun q => hi (Or.inl (Or.inl q)), ?_, rfl⟩
      cases hz : zokR σ t r with
      | true => rfl
      | false => exact absurd (Or.inr hz) hi
  · cases h
theorem z_arr {D : zD} {σ : zS} {s : State} {H : Heap} {a t : Nat} {b : Bool} {x : vp_A} {ty : FieldType} (hK : zK D s) (hH : zH D σ H) (ht : zty[t]? = some ty) (he : σ.2.2 a = some (b, .inl (t, x))) : ∃ cell : Cell, H[a]? = some cell ∧ s.isArrayOf cell ty ∧ cell.vm ≠ .unknown ∧ (x.1 ≤ cell.slots.size ∧ Int32.ofNat cell.slots.size = Int32.ofNat x.1) ∧ ∀ j : Nat, j < x.1 → cell.slots[j]? = some (zcont x j) := by
  cases b with
  | true =>
    have h1 : H[a]? = some (vp_cell (D.2.1 t) x) := hH.2.1 a _ he
    obtain ⟨n, f | f | f | f | f⟩ := x <;> exact ⟨_, h1, (hK.2.1 t _ ht).1 n _, (fun q => by cases q), ⟨Nat.le_of_eq (arrV_size ..).symm, congrArg Int32.ofNat (arrV_size ..)⟩, fun j hj => arrV_read _ _ hj⟩
  | false =>
    obtain ⟨cell, hm, hc⟩ := hH.2.1 a _ he
    obtain ⟨ty', h1, h2, h3, h4, h5⟩ := hK.2.2.1 _ hm
    cases ht.symm.trans h1
    exact ⟨cell, hc, h2, h3, h4, h5⟩
section ZARR
variable {l : Launch} {D : zD} {K : zM} {fr lo : Nat} {out : Outcome × zS} {pc pc' : Nat} {lv lv' : List (Nat × Value)} {st st' : List Value} {σ σ' : zS}
theorem z_iaload {a t : Nat} {i x : Int32} (ht : zty[t]? = some .int) (d : decode K.1 pc = .ok (.iaload, 1)) (h : zaI σ a t i = some x) (k : Z l D K fr lo out (pc + 1) lv (.int x :: st) σ) : Z l D K fr lo out pc lv (.int i :: .ref a :: st) σ := by
  obtain ⟨b, n, f, h1, h2, rfl⟩ := zaI_at h
  refine k.rd fun C hK hH k => ?_
  obtain ⟨cell, g1, g2, g3, g4, g5⟩ := z_arr hK hH ht h1
  exact W.iald (v := .int (f i.toNatClampNeg)) C.1 C.2.1 g1 g2 g3 (fun q => h2 (q.imp id (fun q => Nat.le_trans g4.1 q))) (g5 _ (Nat.not_le.mp fun q => h2 (Or.inr q))) rfl rfl d k
theorem z_baload {a t : Nat} {i x : Int32} (ht : zty[t]? = some .byte) (d : decode K.1 pc = .ok (.baload, 1)) (h : zaI σ a t i = some x) (k : Z l D K fr lo out (pc + 1) lv (.int x :: st) σ) : Z l D K fr lo out pc lv (.int i :: .ref a :: st) σ := by
  obtain ⟨b, n, f, h1, h2, rfl⟩ := zaI_at h
  refine k.rd fun C hK hH k => ?_
  obtain ⟨cell, g1, g2, g3, g4, g5⟩ := z_arr hK hH ht h1
  exact W.bald (v := .int (f i.toNatClampNeg)) C.1 C.2.1 g1 g2 g3 (fun q => h2 (q.imp id (fun q => Nat.le_trans g4.1 q))) (g5 _ (Nat.not_le.mp fun q => h2 (Or.inr q))) rfl rfl d k
theorem z_zaload {a t : Nat} {i x : Int32} (ht : zty[t]? = some .boolean) (d : decode K.1 pc = .ok (.baload, 1)) (h : zaI σ a t i = some x) (k : Z l D K fr lo out (pc + 1) lv (.int x :: st) σ) : Z l D K fr lo out pc lv (.int i :: .ref a :: st) σ := by
  obtain ⟨b, n, f, h1, h2, rfl⟩ := zaI_at h
  refine k.rd fun C hK hH k => ?_
  obtain ⟨cell, g1, g2, g3, g4, g5⟩ := z_arr hK hH ht h1
  exact W.zald (v := .int (f i.toNatClampNeg)) C.1 C.2.1 g1 g2 g3 (fun q => h2 (q.imp id (fun q => Nat.le_trans g4.1 q))) (g5 _ (Nat.not_le.mp fun q => h2 (Or.inr q))) rfl rfl d k
theorem z_caload {a t : Nat} {i x : Int32} (ht : zty[t]? = some .char) (d : decode K.1 pc = .ok (.caload, 1)) (h : zaI σ a t i = some x) (k : Z l D K fr lo out (pc + 1) lv (.int x :: st) σ) : Z l D K fr lo out pc lv (.int i :: .ref a :: st) σ := by
  obtain ⟨b, n, f, h1, h2, rfl⟩ := zaI_at h
  refine k.rd fun C hK hH k => ?_
  obtain ⟨cell, g1, g2, g3, g4, g5⟩ := z_arr hK hH ht h1
  exact W.cald (v := .int (f i.toNatClampNeg)) C.1 C.2.1 g1 g2 g3 (fun q => h2 (q.imp id (fun q => Nat.le_trans g4.1 q))) (g5 _ (Nat.not_le.mp fun q => h2 (Or.inr q))) rfl rfl d k
theorem z_saload {a t : Nat} {i x : Int32} (ht : zty[t]? = some .short) (d : decode K.1 pc = .ok (.saload, 1)) (h : zaI σ a t i = some x) (k : Z l D K fr lo out (pc + 1) lv (.int x :: st) σ) : Z l D K fr lo out pc lv (.int i :: .ref a :: st) σ := by
  obtain ⟨b, n, f, h1, h2, rfl⟩ := zaI_at h
  refine k.rd fun C hK hH k => ?_
  obtain ⟨cell, g1, g2, g3, g4, g5⟩ := z_arr hK hH ht h1
  exact W.sald (v := .int (f i.toNatClampNeg)) C.1 C.2.1 g1 g2 g3 (fun q => h2 (q.imp id (fun q => Nat.le_trans g4.1 q))) (g5 _ (Nat.not_le.mp fun q => h2 (Or.inr q))) rfl rfl d k
theorem z_laload {a t : Nat} {i : Int32} {x : Int64} (ht : zty[t]? = some .long) (d : decode K.1 pc = .ok (.laload, 1)) (h : zaL σ a t i = some x) (k : Z l D K fr lo out (pc + 1) lv (.long x :: st) σ) : Z l D K fr lo out pc lv (.int i :: .ref a :: st) σ := by
  obtain ⟨b, n, f, h1, h2, rfl⟩ := zaL_at h
  refine k.rd fun C hK hH k => ?_
  obtain ⟨cell, g1, g2, g3, g4, g5⟩ := z_arr hK hH ht h1
  exact W.lald (v := .long (f i.toNatClampNeg)) C.1 C.2.1 g1 g2 g3 (fun q => h2 (q.imp id (fun q => Nat.le_trans g4.1 q))) (g5 _ (Nat.not_le.mp fun q => h2 (Or.inr q))) rfl rfl d k
theorem z_aaload {a t : Nat} {i : Int32} {x : Option Nat} {E : String} (ht : zty[t]? = some (.object E)) (d : decode K.1 pc = .ok (.aaload, 1)) (h : zaR σ a t i = some x) (k : Z l D K fr lo out (pc + 1) lv (va_rf x :: st) σ) : Z l D K fr lo out pc lv (.int i :: .ref a :: st) σ := by
  obtain ⟨b, n, f, h1, h2, rfl⟩ := zaR_at h
  refine k.rd fun C hK hH k => ?_
  obtain ⟨cell, g1, g2, g3, g4, g5⟩ := z_arr hK hH ht h1
  exact W.aald (v := va_rf (f i.toNatClampNeg)) (ty := .object E) C.1 C.2.1 g1 g2 rfl g3 (fun q => h2 (q.imp id (fun q => Nat.le_trans g4.1 q))) (g5 _ (Nat.not_le.mp fun q => h2 (Or.inr q))) rfl rfl d k
theorem z_alen {a t : Nat} {x : Int32} {ty : FieldType} (ht : zty[t]? = some ty) (d : decode K.1 pc = .ok (.arraylength, 1)) (h : zal σ a t = some x) (k : Z l D K fr lo out (pc + 1) lv (.int x :: st) σ) : Z l D K fr lo out pc lv (.ref a :: st) σ := by
  obtain ⟨b, v, h1, h2⟩ := zal_at h
  refine k.rd fun C hK hH k => ?_
  obtain ⟨cell, g1, g2, g3, g4, g5⟩ := z_arr hK hH ht h1
  exact W.alen C.1 C.2.1 g1 g2 (g4.2.trans h2) rfl rfl d k
theorem z_iastore {a t : Nat} {i x : Int32} (ht : zty[t]? = some .int) (d : decode K.1 pc = .ok (.iastore, 1)) (h : zsI σ a t i x = some σ') (k : Z l D K fr lo out (pc + 1) lv st σ') : Z l D K fr lo out pc lv (.int x :: .int i :: .ref a :: st) σ := by
  obtain ⟨n, f, h1, h2, rfl⟩ := zsI_at h
  refine k.wr h1 fun C hK hH k => ?_
  refine W.iast C.1 C.2.1 (hH.2.1 a _ h1) ((hK.2.1 t _ ht).1 n (fun j => .int (f j))) (fun q => by cases q) (by show ¬ (i < 0 ∨ (arrV _ _ _).slots.size ≤ _); rw [arrV_size]; exact h2) rfl rfl d fun H1 e z oq => ?_
  refine k H1 _ ?_ z oq
  show H1[a]? = some (vp_cell _ _)
  rw [e]
  show some (Cell.setSlot (vp_cell (D.2.1 t) (n, .inl f)) _ _) = some (vp_cell (D.2.1 t) (n, .inl (upd f i.toNatClampNeg x)))
  rw [vp_cell_i, vp_cell_i, arrV_store]
  congr 2
  funext q
  by_cases hq : q = i.toNatClampNeg
  · subst hq
    simp [updV, upd]
    try rfl
  · simp [updV, upd, hq]
theorem z_bastore {a t : Nat} {i x : Int32} (ht : zty[t]? = some .byte) (d : decode K.1 pc = .ok (.bastore, 1)) (h : zsI σ a t i (vp_nar .byte x) = some σ') (k : Z l D K fr lo out (pc + 1) lv st σ') : Z l D K fr lo out pc lv (.int x :: .int i :: .ref a :: st) σ := by
  obtain ⟨n, f, h1, h2, rfl⟩ := zsI_at h
  refine k.wr h1 fun C hK hH k => ?_
  refine W.bast C.1 C.2.1 (hH.2.1 a _ h1) ((hK.2.1 t _ ht).1 n (fun j => .int (f j))) (fun q => by cases q) (by show ¬ (i < 0 ∨ (arrV _ _ _).slots.size ≤ _); rw [arrV_size]; exact h2) rfl rfl d fun H1 e z oq => ?_
  refine k H1 _ ?_ z oq
  show H1[a]? = some (vp_cell _ _)
  rw [e]
  show some (Cell.setSlot (vp_cell (D.2.1 t) (n, .inl f)) _ _) = some (vp_cell (D.2.1 t) (n, .inl (upd f i.toNatClampNeg (vp_nar .byte x))))
  rw [vp_cell_i, vp_cell_i, arrV_store]
  congr 2
  funext q
  by_cases hq : q = i.toNatClampNeg
  · subst hq
    simp [updV, upd, vp_nar]
    try rfl
  · simp [updV, upd, hq]
theorem z_zastore {a t : Nat} {i x : Int32} (ht : zty[t]? = some .boolean) (d : decode K.1 pc = .ok (.bastore, 1)) (h : zsI σ a t i (vp_nar .boolean x) = some σ') (k : Z l D K fr lo out (pc + 1) lv st σ') : Z l D K fr lo out pc lv (.int x :: .int i :: .ref a :: st) σ := by
  obtain ⟨n, f, h1, h2, rfl⟩ := zsI_at h
  refine k.wr h1 fun C hK hH k => ?_
  refine W.zast C.1 C.2.1 (hH.2.1 a _ h1) ((hK.2.1 t _ ht).1 n (fun j => .int (f j))) (fun q => by cases q) (by show ¬ (i < 0 ∨ (arrV _ _ _).slots.size ≤ _); rw [arrV_size]; exact h2) rfl rfl d fun H1 e z oq => ?_
  refine k H1 _ ?_ z oq
  show H1[a]? = some (vp_cell _ _)
  rw [e]
  show some (Cell.setSlot (vp_cell (D.2.1 t) (n, .inl f)) _ _) = some (vp_cell (D.2.1 t) (n, .inl (upd f i.toNatClampNeg (vp_nar .boolean x))))
  rw [vp_cell_i, vp_cell_i, arrV_store]
  congr 2
  funext q
  by_cases hq : q = i.toNatClampNeg
  · subst hq
    simp [updV, upd, vp_nar]
    try rfl
  · simp [updV, upd, hq]
theorem z_castore {a t : Nat} {i x : Int32} (ht : zty[t]? = some .char) (d : decode K.1 pc = .ok (.castore, 1)) (h : zsI σ a t i (vp_nar .char x) = some σ') (k : Z l D K fr lo out (pc + 1) lv st σ') : Z l D K fr lo out pc lv (.int x :: .int i :: .ref a :: st) σ := by
  obtain ⟨n, f, h1, h2, rfl⟩ := zsI_at h
  refine k.wr h1 fun C hK hH k => ?_
  refine W.cast C.1 C.2.1 (hH.2.1 a _ h1) ((hK.2.1 t _ ht).1 n (fun j => .int (f j))) (fun q => by cases q) (by show ¬ (i < 0 ∨ (arrV _ _ _).slots.size ≤ _); rw [arrV_size]; exact h2) rfl rfl d fun H1 e z oq => ?_
  refine k H1 _ ?_ z oq
  show H1[a]? = some (vp_cell _ _)
  rw [e]
  show some (Cell.setSlot (vp_cell (D.2.1 t) (n, .inl f)) _ _) = some (vp_cell (D.2.1 t) (n, .inl (upd f i.toNatClampNeg (vp_nar .char x))))
  rw [vp_cell_i, vp_cell_i, arrV_store]
  congr 2
  funext q
  by_cases hq : q = i.toNatClampNeg
  · subst hq
    simp [updV, upd, vp_nar]
    try rfl
  · simp [updV, upd, hq]
theorem z_sastore {a t : Nat} {i x : Int32} (ht : zty[t]? = some .short) (d : decode K.1 pc = .ok (.sastore, 1)) (h : zsI σ a t i (vp_nar .short x) = some σ') (k : Z l D K fr lo out (pc + 1) lv st σ') : Z l D K fr lo out pc lv (.int x :: .int i :: .ref a :: st) σ := by
  obtain ⟨n, f, h1, h2, rfl⟩ := zsI_at h
  refine k.wr h1 fun C hK hH k => ?_
  refine W.sast C.1 C.2.1 (hH.2.1 a _ h1) ((hK.2.1 t _ ht).1 n (fun j => .int (f j))) (fun q => by cases q) (by show ¬ (i < 0 ∨ (arrV _ _ _).slots.size ≤ _); rw [arrV_size]; exact h2) rfl rfl d fun H1 e z oq => ?_
  refine k H1 _ ?_ z oq
  show H1[a]? = some (vp_cell _ _)
  rw [e]
  show some (Cell.setSlot (vp_cell (D.2.1 t) (n, .inl f)) _ _) = some (vp_cell (D.2.1 t) (n, .inl (upd f i.toNatClampNeg (vp_nar .short x))))
  rw [vp_cell_i, vp_cell_i, arrV_store]
  congr 2
  funext q
  by_cases hq : q = i.toNatClampNeg
  · subst hq
    simp [updV, upd, vp_nar]
    try rfl
  · simp [updV, upd, hq]
theorem z_lastore {a t : Nat} {i : Int32} {x : Int64} (ht : zty[t]? = some .long) (d : decode K.1 pc = .ok (.lastore, 1)) (h : zsL σ a t i x = some σ') (k : Z l D K fr lo out (pc + 1) lv st σ') : Z l D K fr lo out pc lv (.long x :: .int i :: .ref a :: st) σ := by
  obtain ⟨n, f, h1, h2, rfl⟩ := zsL_at h
  refine k.wr h1 fun C hK hH k => ?_
  refine W.last C.1 C.2.1 (hH.2.1 a _ h1) ((hK.2.1 t _ ht).1 n (fun j => .long (f j))) (fun q => by cases q) (by show ¬ (i < 0 ∨ (arrV _ _ _).slots.size ≤ _); rw [arrV_size]; exact h2) rfl rfl d fun H1 e z oq => ?_
  refine k H1 _ ?_ z oq
  show H1[a]? = some (vp_cell _ _)
  rw [e]
  show some (Cell.setSlot (vp_cell (D.2.1 t) (n, .inr (.inl f))) _ _) = some (vp_cell (D.2.1 t) (n, .inr (.inl (vp_updL f i.toNatClampNeg x))))
  rw [vp_cell_l, vp_cell_l, arrV_store]
  congr 2
  funext q
  by_cases hq : q = i.toNatClampNeg
  · subst hq
    simp [updV, vp_updL]
  · simp [updV, vp_updL, hq]
theorem z_asgn {t ci : Nat} {a : Nat} {b : Bool} {fs : List Value} {E : String} {args : Array Value} {s : State} {H : Heap} (hA : zAs t ci) (hE : zty[t]? = some (.object E)) (hts : ∀ w ∈ ztb, w.before args s = true) (hK : zK D s) (hH : zH D σ H) (he : σ.2.2 a = some (b, .inr (ci, fs))) : va_Any E s H a := by
  obtain ⟨C, E', T, N, h1, h2, h3⟩ := hA
  cases hE.symm.trans h2
  obtain ⟨cell, g1, g2, g3⟩ := z_recv hK hH h1 he
  obtain ⟨kC, hkC, -⟩ := Vm.findClass_spec g3
  refine ⟨cell, g1, g2, ⟨kC, hkC⟩, fun comp g4 => ?_⟩
  have g3 : s.vm.findClass C = some cell.cls := g3
  rcases h3 with rfl | h3
  · have hcl : ClassAt s C (D.1.1 ci) := (hK.1.1 ci _ h1).2
    have e1 : comp = D.1.1 ci := Option.some.inj (g4.symm.trans hcl.1)
    have e2 : cell.cls = D.1.1 ci := Option.some.inj (g3.symm.trans hcl.1)
    rw [e1, e2]
    exact va_assign hcl
  · obtain ⟨c3, t3, w1, w2, w3⟩ := Cond.castable_spec (hts _ h3)
    have e1 : comp = t3 := Option.some.inj (g4.symm.trans w2)
    have e2 : cell.cls = c3 := Option.some.inj (g3.symm.trans w1)
    rw [e1, e2]
    exact w3
theorem z_aastore {a t : Nat} {i : Int32} {r : Option Nat} {E : String} (ht : zty[t]? = some (.object E)) (d : decode K.1 pc = .ok (.aastore, 1)) (h : zsR σ a t i r = some σ') (k : Z l D K fr lo out (pc + 1) lv st σ') : Z l D K fr lo out pc lv (va_rf r :: .int i :: .ref a :: st) σ := by
  obtain ⟨n, f, h1, h2, h3, rfl⟩ := zsR_at h
  refine k.wr h1 fun {p e R s m args below meth c H locs cells slots Q ls} C hK hH k => ?_
  have fin : ∀ (H1 : Heap), H1[a]? = some ((vp_cell (D.2.1 t) (n, .inr (.inr (.inr (.inr f))))).setSlot i.toNatClampNeg (va_rf r)) → H1[a]? = some (vp_cell (D.2.1 t) (n, .inr (.inr (.inr (.inr (va_up f i.toNatClampNeg r)))))) := by
    intro H1 e
    rw [e]
    rw [vp_cell_q, vp_cell_q, arrV_store]
    congr 2
    funext q
    by_cases hq : q = i.toNatClampNeg
    · subst hq
      simp [updV, va_up]
    · simp [updV, va_up, hq]
  cases r with
  | none =>
    refine va_WaastN (C := E) C.1 C.2.1 (hH.2.1 a _ h1) ((hK.2.1 t _ ht).1 n (fun j => va_rf (f j))) (fun q => by cases q) (by show ¬ (i < 0 ∨ (arrV _ _ _).slots.size ≤ _); rw [arrV_size]; exact h2) rfl rfl d fun H1 e z oq => ?_
    exact k H1 _ (fin H1 e) z oq
  | some v =>
    unfold zokR at h3
    dsimp only at h3
    split at h3
    · rename_i bo o ho
      have hlt : i.toNatClampNeg < n := Nat.not_le.mp fun q => h2 (Or.inr q)
      have h0 : ¬ i < 0 := fun q => h2 (Or.inl q)
      obtain ⟨cellV, g1, g3, ⟨kC, hkC⟩, hasg⟩ := z_asgn (D := D) (zasg_ok _ (by simpa using h3)) ht C.hts hK hH (a := v) (fs := o.2) ho
      obtain ⟨kA, comp, k1, k2, k3, -⟩ := (hK.2.1 t _ ht).2
      obtain ⟨kE, hkE, -⟩ := Vm.findClass_spec k3
      refine W.aast C.1 C.2.1 (hH.2.1 a _ h1) (fun q h => by cases h) (fun h => by cases h) k1 k2 rfl hkE ⟨h0, by show _ < (arrV _ _ _).slots.size; rw [arrV_size]; exact hlt⟩ g1 (fun q h => by rw [h] at g3; cases g3) hkC (hasg _ k3) rfl rfl d fun H1 e z oq => ?_
      exact k H1 _ (fin H1 e) z oq
    · cases h3
/-! making arrays -/
def zlen (n : Int32) : Option Nat := if n < 0 ∨ 60000000 < n.toNatClampNeg then none else some n.toNatClampNeg
theorem zlen_at {n : Int32} {N : Nat} (h : zlen n = some N) : ¬ n < 0 ∧ n.toNatClampNeg = N ∧ N ≤ 60000000 := by
  unfold zlen at h
  split at h
  · cases h
  · rename_i hi
    cases h
    exact ⟨fun q => hi (Or.inl q), rfl, Nat.not_lt.mp fun q => hi (Or.inr q)⟩
theorem z_newa {t N : Nat} {n : Int32} {atype : ArrayType} {ty : FieldType} {x : vp_A} (ht : zty[t]? = some ty) (hty : newarray.typeOf atype = ty) (hw : Cond.arrayClass ty ∈ ztb) (hx : ∀ cA : ClassId, vp_cell cA x = arrV cA N (fun _ => defaultValue ty)) (hb8 : componentBytes ty ≤ 8) (d : decode K.1 pc = .ok (.newarray atype, 2)) (h : zlen n = some N)
    (k : Z l D K fr lo out (pc + 2) lv (.ref σ.1 :: st) (znew σ N (.inl (t, x)))) : Z l D K fr lo out pc lv (.int n :: st) σ := by
  subst hty
  obtain ⟨h1, h2, h3⟩ := zlen_at h
  refine k.mk fun {p e R s m args below meth c H locs cells slots Q ls} C hK hH hc hs k => ?_
  rw [← hH.1] at k
  refine va_newaK C.1 C.2.1 (C.hts _ hw) rfl d rfl h1 h2 (Nat.le_trans (Nat.mul_le_mul h3 hb8) (by decide)) hc hs rfl fun H1 cA e1 z1 o1 hAr hNm => ?_
  have hfc : s.vm.findClass ("[" ++ (newarray.typeOf atype).toString) = some (D.2.1 t) := by
    have := (hK.2.1 t _ ht).2
    cases atype <;> exact this
  have hcA : cA = D.2.1 t := Option.some.inj (hNm.symm.trans hfc)
  subst hcA
  refine k H1 ?_ z1 o1
  show H1[H.size]? = some (vp_cell _ _)
  rw [show vp_cell (D.2.1 t, x).1 (D.2.1 t, x).2 = vp_cell (D.2.1 t) x from rfl, hx]
  exact e1
theorem z_anewa {t N ix : Nat} {n : Int32} {E : String} (ht : zty[t]? = some (.object E)) (hw : Cond.arrayOver (.object E) ∈ ztb) (hl : Cond.classLink K.2.2.1 ix E ∈ ztb) (d : decode K.1 pc = .ok (.anewarray ix, 3)) (h : zlen n = some N)
    (k : Z l D K fr lo out (pc + 3) lv (.ref σ.1 :: st) (znew σ N (.inl (t, N, .inr (.inr (.inr (.inr (fun _ => none)))))))) : Z l D K fr lo out pc lv (.int n :: st) σ := by
  obtain ⟨h1, h2, h3⟩ := zlen_at h
  subst h2
  refine k.mk fun {p e R s m args below meth c H locs cells slots Q ls} C hK hH hc hs k => ?_
  rw [← hH.1] at k
  refine W.anew C.1 C.2.1 C.2.2.2.1 (C.hts _ hl) (C.hts _ hw) rfl d rfl h1 (Nat.le_trans (Nat.mul_le_mul h3 (Nat.le_refl 4)) (by decide)) hc hs fun cA kA comp f1 f2 f3 f4 => ?_
  obtain ⟨kA', comp', g1, g2, g3, g4⟩ := (hK.2.1 t _ ht).2
  have hcA : cA = D.2.1 t := Option.some.inj (f1.symm.trans g4)
  subst hcA
  refine k _ ?_ (by rw [Array.size_push]) (fun q hq => by rw [Array.getElem?_push, if_neg (Nat.ne_of_lt hq)])
  show (H.push _)[H.size]? = some (vp_cell _ _)
  rw [Array.getElem?_push_size]
  show _ = some (vp_cell (D.2.1 t) _)
  rw [vp_cell_q, ← arrV_new]
  rfl
end ZARR
