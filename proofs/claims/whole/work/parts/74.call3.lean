section CALL3
variable {g : zG} {e S F n am A B T i s q : Nat} {C C' : cS} {M M' : mS} {ρ ρ' : zS} {f f' : Nat → Nat → Nat}
theorem sK.eqr {j : Nat} (h1 : ∀ r, r < 20 → M'.1 r = M.1 r) (h2 : M'.2.1 11 = M.2.1 11) (h3 : M'.2.2.1 10 = M.2.2.1 10) : sK M M' j j :=
  ⟨fun r _ hr => by rw [h1 r (by omega)], fun _ _ => ⟨⟨by rw [h1 7 (by omega)], by rw [h1 8 (by omega)], by rw [h1 9 (by omega)], by rw [h1 12 (by omega)]⟩, by rw [h2], by rw [h3]⟩, fun _ _ => by rw [h1 13 (by omega)]⟩
theorem sBm.eqr (h1 : ∀ r, r < 20 → M'.1 r = M.1 r) (h2 : M'.2.1 11 = M.2.1 11) (h3 : M'.2.2.1 10 = M.2.2.1 10) : sBm M M' i :=
  ⟨by rw [h1 1 (by omega)], fun r _ hr => ⟨by rw [h1 r (by omega)], by rw [h1 r (by omega)]⟩, fun _ _ _ _ => sK.eqr h1 h2 h3⟩
theorem sO.eqr {j : Nat} (h1 : ∀ r, 20 ≤ r → r < 33 → M'.1 r = M.1 r) (h2 : M'.2.1 26 = M.2.1 26) (h3 : M'.2.2.1 25 = M.2.2.1 25) : sO M M' j j :=
  ⟨fun r hr _ => by rw [h1 r hr (by omega)], fun _ _ => ⟨⟨by rw [h1 23 (by omega) (by omega)], by rw [h1 24 (by omega) (by omega)], by rw [h1 27 (by omega) (by omega)]⟩, by rw [h2], by rw [h3]⟩⟩
theorem sBc.of (h : ∀ j, ¬ j = oPo n → same4 C C' j) (hi : i < n) : sBc C C' i := by
  have e1 : ¬ oBr i = oPo n := by unfold oBr oPo; omega
  refine ⟨(h _ e1).1, (h _ e1).2.2.2, fun s hs => ?_⟩
  have e2 : ¬ oBs i s = oPo n := by unfold oBs oPo; omega
  have e3 : ¬ oLs i s 0 = oPo n := by unfold oLs oPo; omega
  have e4 : ¬ oLs i s 1 = oPo n := by unfold oLs oPo; omega
  exact ⟨(h _ e2).1, by rw [(h _ e3).1], by rw [(h _ e4).1]⟩
theorem ls_po (hi : i < n) (hs : s < 3) {k : Nat} (hk : k < 2) : ¬ oLs i s k = oPo n := by unfold oLs oPo; omega
theorem bs_po (hi : i < n) (hs : s < 3) : ¬ oBs i s = oPo n := by unfold oBs oPo; omega
theorem of_po {c : Nat} (hc : c < 2) (hs : s < 3) {x : Nat} (hx : x = oSb n c s ∨ x = oHo n c s ∨ x = oFa n c s ∨ x = oCe n c s ∨ x = oDe n c s ∨ x = oSt n c ∨ x = oAn n c) : ¬ x = oPo n := by
  unfold oSb oHo oFa oCe oDe oSt oAn at hx
  unfold oPo
  omega
/-- all but the post is as it was -/
theorem RR.post (h : RR e S F n C M ρ f T) (hL : LLs e S F n C' ρ' f') (hok : mOK M') (h1 : M'.2.2.2.1 1 = M.2.2.2.1 1) (hk : kp S F ρ ρ') (hrow : ∀ r, r < 33 → M'.1 r = M.1 r) (h2 : M'.2.1 = M.2.1) (h3 : M'.2.2.1 = M.2.2.1) (hc : ∀ j, ¬ j = oPo n → same4 C C' j) (hf : ∀ o, ¬ o = oPo n → f' o = f o) (hP : PO F ρ' C' M' f' n) : RR e S F n C' M' ρ' f' T := by
  obtain ⟨a1, a2, a3, a4, a5, a6, a7, a8, a9⟩ := h
  have hv : vO M' n = vO M n := by unfold vO; rw [hrow 1 (by omega)]
  have hw : ∀ i, vw M' i = vw M i := fun i => by unfold vw; rw [hrow 1 (by omega)]
  refine ⟨hL, ⟨hok, a2.2.1, h1.trans a2.2.2⟩, ?_, fun i hi => (a4 i hi).fx hk (sBc.of hc hi) (sBm.eqr (fun r hr => hrow r (by omega)) (by rw [h2]) (by rw [h3])) (fun s hs => ⟨fun b _ => by rw [hf _ (ls_po hi hs (by omega))], fun b _ => by rw [hf _ (ls_po hi hs (by omega))]⟩) hi, fun s hs => ?_, fun b hb => (a6 b hb).fx hk (by rw [hrow 1 (by omega)]) (fun r h1 h2 => by rw [hrow r (by omega)]; exact ⟨rfl, rfl⟩) (fun c hc2 => ?_), hP, fun b hb => ?_, ?_⟩
  · unfold UP
    rw [hrow 1 (by omega)]
    refine ⟨fun i hi => ?_, ?_⟩
    · rw [(hc _ (show ¬ oBr i = oPo n by unfold oBr oPo; omega)).1]; exact a3.1 i hi
    · rw [(hc _ (show ¬ oOf n = oPo n by unfold oOf oPo; omega)).1]; exact a3.2
  · rw [hv]
    have hs1 : sO M M' (3 * vO M n + s) (3 * vO M n + s) := sO.eqr (fun r _ hr => hrow r hr) (by rw [h2]) (by rw [h3])
    have hs2 : sO M M' (3 + s) (3 + s) := sO.eqr (fun r _ hr => hrow r hr) (by rw [h2]) (by rw [h3])
    exact ⟨(a5 s hs).1.fx hk (sOc.of (fun x hx => hc x (of_po (c := 0) (by omega) hs (by rcases hx with h | h | h | h | h <;> simp [h])))) hs1, (a5 s hs).2.fx hk (sOc.of (fun x hx => hc x (of_po (c := 1) (by omega) hs (by rcases hx with h | h | h | h | h <;> simp [h])))) hs2⟩
  · rw [(hc _ (of_po hc2 (show (0:Nat) < 3 by omega) (x := oSt n c) (by simp))).1, (hc _ (of_po hc2 (show (0:Nat) < 3 by omega) (x := oAn n c) (by simp))).2.2.2]
    exact ⟨rfl, rfl⟩
  · rw [hw]
    unfold IN0 INv
    rw [hrow 29 (by omega), hrow 14 (by omega), hrow 30 (by omega), hrow 15 (by omega), hrow 32 (by omega), hrow 31 (by omega), hrow 22 (by omega), hrow 16 (by omega), hrow 18 (by omega), hrow 5 (by omega), hrow 2 (by omega), hrow 7 (by omega)]
    exact a8 b hb
  · unfold GI
    rw [hv, hrow 22 (by omega), hrow 20 (by omega)]
    exact a9
theorem cl_row (h : M'.1 20 = M.1 20) : cl M' = cl M := by unfold cl; rw [h]
theorem sameC.o (h : sameC (oPo n) C C') : ∀ j, ¬ j = oPo n → same4 C C' j := h
theorem evK.po (hc : ∀ j, ¬ j = oPo n → same4 C C' j) (hf : ∀ o, ¬ o = oPo n → f' o = f o) : evK n C f C' f' := fun b s hb hs =>
  ⟨by rw [(hc _ (bs_po hb hs)).1]; exact Nat.le_refl _, fun t _ => by rw [hf _ (ls_po hb hs (by omega))]⟩
theorem lK.row (h : ∀ r, r < 33 → M'.1 r = M.1 r) : lK n M M' := fun b hb => by
  rw [h 14 (by omega), h 15 (by omega), h 16 (by omega), h 29 (by omega), h 30 (by omega), h 31 (by omega), h 32 (by omega)]
  exact lK.refl b hb
theorem mRem_at {a b k : Nat} : (mRem (mSs M 0 k) i).1 a b = if a = 33 ∧ 8 * i ≤ b ∧ b < 8 * (M.2.2.2.1 34 - 1) then M.1 33 (b + 8) else M.1 a b := rfl
theorem fDel_ne {o o' k : Nat} (h : ¬ o' = o) : fDel f o k o' = f o' := by
  funext b
  unfold fDel
  rw [if_neg (fun h2 => h h2.1)]
theorem mRem_ok {k : Nat} (h : mOK M) : mOK (mRem (mSs M 0 k) i) := by
  intro a b
  rw [mRem_at]
  by_cases h1 : a = 33 ∧ 8 * i ≤ b ∧ b < 8 * (M.2.2.2.1 34 - 1)
  · rw [if_pos h1, h1.1]; exact h 33 _
  · rw [if_neg h1]; exact h a b
theorem RR.drop {k : Nat} (h : RR e S F n C M ρ f T) (hk : k < M.2.2.2.1 34) (hd : drp e S F n k C ρ f C' ρ') : RR e S F n C' (mRem (mSs M 0 0) k) ρ' (fDel f (oPo n) k) T := by
  obtain ⟨d1, d2, d3, d4, d5, d6⟩ := hd
  obtain ⟨⟨p1, p2⟩, p3⟩ := h.2.2.2.2.2.2.1
  have hrow : ∀ r, r < 33 → (mRem (mSs M 0 0) k).1 r = M.1 r := fun r hr => by
    funext b
    rw [mRem_at, if_neg (fun h => by omega)]
  have hL34 : (mRem (mSs M 0 0) k).2.2.2.1 34 = M.2.2.2.1 34 - 1 := rfl
  refine h.post d1 (mRem_ok h.2.1.1) rfl (kp.dx d4) hrow rfl rfl d3 (fun o ho => fDel_ne ho) ⟨⟨by rw [d2, p1, hL34], by rw [hL34]; omega⟩, fun t ht => ?_⟩
  rw [hL34] at ht
  have hm : ∀ c, c < 8 → (mRem (mSs M 0 0) k).1 33 (8 * t + c) = M.1 33 (8 * (if k ≤ t then t + 1 else t) + c) := by
    intro c hc
    rw [mRem_at]
    by_cases h1 : k ≤ t
    · rw [if_pos h1, if_pos ⟨rfl, by omega, by omega⟩, show 8 * t + c + 8 = 8 * (t + 1) + c by omega]
    · rw [if_neg h1, if_neg (fun h => by omega)]
  have h0 := hm 0 (by omega)
  rw [Nat.add_zero, Nat.add_zero] at h0
  have hf : fDel f (oPo n) k (oPo n) t = f (oPo n) (if k ≤ t then t + 1 else t) := by
    unfold fDel
    by_cases h1 : k ≤ t
    · rw [if_pos ⟨rfl, h1⟩, if_pos h1]
    · rw [if_neg (fun h => h1 h.2), if_neg h1]
  rw [h0, hm 1 (by omega), hm 2 (by omega), hm 3 (by omega), hm 4 (by omega), hm 5 (by omega), hf]
  exact (p3 _ (by split <;> omega)).mono (kp.dx (S := S) d4) (evK.po d3 (fun o ho => fDel_ne ho)) (lK.row hrow)
theorem K_drop {x : Int32} (h : RR e S F n C M ρ f T) (hr : RO ρ M T A B) (hT : T < 512) : CO0 e S F n am A B M ρ T (s_No_drop g S x (cW S n C ρ)) (s_Mo_drop g am x) := by
  obtain ⟨⟨hp, h64⟩, hpe⟩ := h.2.2.2.2.2.2.1
  rcases ix x (M.2.2.2.1 34) with hx | ⟨k, hk, rfl⟩
  · exact CO0.same h hr hT (Y_dropN (by omega) (by rw [hp]; exact hx)) (fun τ => M_dropN h64 hx)
  · obtain ⟨C', ρ', h1, h2⟩ := Y_drop (g := g) h.1 (by rw [hp]; exact hk) (hpe k hk).ml.mail
    refine ⟨_, C', _, ρ', _, h1, fun τ => M_drop hk h64, dY.dx h2.2.2.2.1, (h.drop hk h2).T1, hr.cl hT ?_ (by rw [h2.2.2.2.2.1]; omega) (by rw [h2.2.2.2.2.2]; omega)⟩
    refine cl_row ?_
    funext b
    rw [mRem_at, if_neg (fun h => by omega)]
theorem fSet_ne {o o' k r : Nat} (h : ¬ o' = o) : fSet f o k r o' = f o' := by
  funext b
  unfold fSet
  rw [if_neg (fun h2 => h h2.1)]
/-- a row more in the post -/
theorem RR.add {p a0 a1 a2 a3 a4 a5 : Nat} (h : RR e S F n C M ρ f T) (hok : mOK M') (h1 : M'.2.2.2.1 1 = M.2.2.2.1 1) (hrow : ∀ r, r < 33 → M'.1 r = M.1 r) (h2 : M'.2.1 = M.2.1) (h3 : M'.2.2.1 = M.2.2.1) (hL : LLs e S F n C' ρ' (fSet f (oPo n) (C.1 (oPo n) 1) p)) (hk : kp S F ρ ρ') (hc : ∀ j, ¬ j = oPo n → same4 C C' j) (hsz : C'.1 (oPo n) 1 = C.1 (oPo n) 1 + 1) (hl : C.1 (oPo n) 1 < 64) (h34 : M'.2.2.2.1 34 = M.2.2.2.1 34 + 1) (hold : ∀ t c, t < M.2.2.2.1 34 → c < 6 → M'.1 33 (8 * t + c) = M.1 33 (8 * t + c)) (hnew : M'.1 33 (8 * M.2.2.2.1 34) = a0 ∧ M'.1 33 (8 * M.2.2.2.1 34 + 1) = a1 ∧ M'.1 33 (8 * M.2.2.2.1 34 + 2) = a2 ∧ M'.1 33 (8 * M.2.2.2.1 34 + 3) = a3 ∧ M'.1 33 (8 * M.2.2.2.1 34 + 4) = a4 ∧ M'.1 33 (8 * M.2.2.2.1 34 + 5) = a5) (hE : PE F ρ C M f n p a0 a1 a2 a3 a4 a5) : RR e S F n C' M' ρ' (fSet f (oPo n) (C.1 (oPo n) 1) p) T := by
  obtain ⟨⟨p1, p2⟩, p3⟩ := h.2.2.2.2.2.2.1
  have hf : ∀ o, ¬ o = oPo n → fSet f (oPo n) (C.1 (oPo n) 1) p o = f o := fun o ho => fSet_ne ho
  refine h.post hL hok h1 hk hrow h2 h3 hc hf ⟨⟨by rw [hsz, h34, p1], by rw [h34]; omega⟩, fun t ht => ?_⟩
  rw [h34] at ht
  by_cases htl : t = M.2.2.2.1 34
  · subst htl
    obtain ⟨b0, b1, b2, b3, b4, b5⟩ := hnew
    have hfe : fSet f (oPo n) (C.1 (oPo n) 1) p (oPo n) (M.2.2.2.1 34) = p := by unfold fSet; rw [if_pos ⟨rfl, p1.symm⟩]
    rw [b0, b1, b2, b3, b4, b5, hfe]
    exact hE.mono hk (evK.po hc hf) (lK.row hrow)
  · have h0 := hold t 0 (by omega) (by omega)
    rw [Nat.add_zero] at h0
    have hfe : fSet f (oPo n) (C.1 (oPo n) 1) p (oPo n) t = f (oPo n) t := by unfold fSet; rw [if_neg (fun h => htl (by rw [← p1]; exact h.2))]
    rw [h0, hold t 1 (by omega) (by omega), hold t 2 (by omega) (by omega), hold t 3 (by omega) (by omega), hold t 4 (by omega) (by omega), hold t 5 (by omega) (by omega), hfe]
    exact (p3 t (by omega)).mono hk (evK.po hc hf) (lK.row hrow)
theorem mSend_at {a b c d e2 f2 x y : Nat} : (mSend M a b c d e2 f2).1 x y = if x = 33 ∧ y = 8 * M.2.2.2.1 34 + 6 then 0 else if x = 33 ∧ y = 8 * M.2.2.2.1 34 + 5 then f2 else if x = 33 ∧ y = 8 * M.2.2.2.1 34 + 4 then e2 else if x = 33 ∧ y = 8 * M.2.2.2.1 34 + 3 then d else if x = 33 ∧ y = 8 * M.2.2.2.1 34 + 2 then c else if x = 33 ∧ y = 8 * M.2.2.2.1 34 + 1 then b else if x = 33 ∧ y = 8 * M.2.2.2.1 34 then a else M.1 x y := rfl
theorem mSend_row {a b c d e2 f2 r : Nat} (hr : ¬ r = 33) : (mSend M a b c d e2 f2).1 r = M.1 r := by
  funext y
  rw [mSend_at, if_neg (fun h => hr h.1), if_neg (fun h => hr h.1), if_neg (fun h => hr h.1), if_neg (fun h => hr h.1), if_neg (fun h => hr h.1), if_neg (fun h => hr h.1), if_neg (fun h => hr h.1)]
theorem mSend_ok {a b c d e2 f2 : Nat} (h : mOK M) (h0 : a < 2147483648 ∧ b < 2147483648 ∧ c < 2147483648 ∧ d < 2147483648 ∧ e2 < 2147483648 ∧ f2 < 2147483648) : mOK (mSend M a b c d e2 f2) := by
  have hb : mbd 33 = 2147483648 := by decide
  unfold mSend
  refine mOK.set2 (M := mSN (mSN (mSN (mSN (mSN (mSN (mSN M 33 (8 * M.2.2.2.1 34) a) 33 (8 * M.2.2.2.1 34 + 1) b) 33 (8 * M.2.2.2.1 34 + 2) c) 33 (8 * M.2.2.2.1 34 + 3) d) 33 (8 * M.2.2.2.1 34 + 4) e2) 33 (8 * M.2.2.2.1 34 + 5) f2) 33 (8 * M.2.2.2.1 34 + 6) 0) ?_ rfl
  refine mOK.set (mOK.set (mOK.set (mOK.set (mOK.set (mOK.set (mOK.set h ?_) ?_) ?_) ?_) ?_) ?_) ?_ <;> rw [hb] <;> omega
/-- sending on both sides -/
theorem RR.send {p a0 a1 a2 a3 a4 a5 : Nat} (h : RR e S F n C M ρ f T) (hs : snt e S F n p C ρ f C' ρ' f') (h0 : a0 < 2147483648 ∧ a1 < 2147483648 ∧ a2 < 2147483648 ∧ a3 < 2147483648 ∧ a4 < 2147483648 ∧ a5 < 2147483648) (hE : PE F ρ C M f n p a0 a1 a2 a3 a4 a5) : RR e S F n C' (mSendQ M a0 a1 a2 a3 a4 a5) ρ' f' T := by
  obtain ⟨s1, s2, s3, s4, s5, s6⟩ := hs
  obtain ⟨⟨p1, p2⟩, p3⟩ := h.2.2.2.2.2.2.1
  rcases s6 with ⟨s6, s7, rfl⟩ | ⟨s6, rfl, rfl, rfl⟩
  · unfold mSendQ
    rw [if_pos (by omega)]
    refine h.add (mSend_ok h.2.1.1 h0) rfl (fun r hr => mSend_row (by omega)) rfl rfl s1 (kp.dx s2) s5 s7 s6 rfl (fun t c ht hc => ?_) ⟨?_, ?_, ?_, ?_, ?_, ?_⟩ hE
    · rw [mSend_at, if_neg (by omega), if_neg (by omega), if_neg (by omega), if_neg (by omega), if_neg (by omega), if_neg (by omega), if_neg (by omega)]
    · rw [mSend_at, if_neg (by omega), if_neg (by omega), if_neg (by omega), if_neg (by omega), if_neg (by omega), if_neg (by omega), if_pos ⟨rfl, rfl⟩]
    · rw [mSend_at, if_neg (by omega), if_neg (by omega), if_neg (by omega), if_neg (by omega), if_neg (by omega), if_pos ⟨rfl, rfl⟩]
    · rw [mSend_at, if_neg (by omega), if_neg (by omega), if_neg (by omega), if_neg (by omega), if_pos ⟨rfl, rfl⟩]
    · rw [mSend_at, if_neg (by omega), if_neg (by omega), if_neg (by omega), if_pos ⟨rfl, rfl⟩]
    · rw [mSend_at, if_neg (by omega), if_neg (by omega), if_pos ⟨rfl, rfl⟩]
    · rw [mSend_at, if_neg (by omega), if_pos ⟨rfl, rfl⟩]
  · unfold mSendQ
    rw [if_neg (by omega)]
    exact h
theorem mSendQ_20 {a b c d e2 f2 : Nat} : (mSendQ M a b c d e2 f2).1 20 = M.1 20 := by
  unfold mSendQ
  split
  · exact mSend_row (by omega)
  · rfl
theorem mTw_at {k m a c : Nat} : (mSs (mTw (mSs M 0 k) i m) 34 (M.2.2.2.1 34 + 1)).1 a c = if a = 33 ∧ 8 * M.2.2.2.1 34 ≤ c ∧ c < 8 * M.2.2.2.1 34 + m then M.1 33 (8 * i + (c - 8 * M.2.2.2.1 34)) else M.1 a c := rfl
theorem K_twin {x : Int32} (h : RR e S F n C M ρ f T) (hr : RO ρ M T A B) (hT : T < 512) (hg0 : g 0 = some e) (hg2 : ∃ mi, g 10 = some mi) : CO0 e S F n am A B M ρ T (s_No_twin g S x (cW S n C ρ)) (s_Mo_twin g am x) := by
  obtain ⟨⟨hp, h64⟩, hpe⟩ := h.2.2.2.2.2.2.1
  rcases ix x (M.2.2.2.1 34) with hx | ⟨k, hk, rfl⟩
  · exact CO0.same h hr hT (Y_twinN (by omega) (by rw [hp]; exact hx)) (fun τ => M_twinN h64 hx)
  · obtain ⟨C', ρ', f', h1, s1, s2, s3, s4, s5, s6⟩ := Y_twin (g := g) h.1 hg0 hg2 (by omega) (by rw [hp]; exact hk) (hpe k hk).ml.mail
    rcases s6 with ⟨s6, s7, rfl⟩ | ⟨s6, rfl, rfl, rfl⟩
    · rw [if_pos s6] at h1
      have hrow : ∀ r, ¬ r = 33 → (mSs (mTw (mSs M 0 0) k 8) 34 (M.2.2.2.1 34 + 1)).1 r = M.1 r := fun r hr => by
        funext b
        rw [mTw_at, if_neg (fun h => hr h.1)]
      have hok : mOK (mSs (mTw (mSs M 0 0) k 8) 34 (M.2.2.2.1 34 + 1)) := by
        intro a b
        rw [mTw_at]
        split
        · rename_i h2; rw [h2.1]; exact h.2.1.1 33 _
        · exact h.2.1.1 a b
      have hnew : ∀ c, c < 6 → (mSs (mTw (mSs M 0 0) k 8) 34 (M.2.2.2.1 34 + 1)).1 33 (8 * M.2.2.2.1 34 + c) = M.1 33 (8 * k + c) := fun c hc => by
        rw [mTw_at, if_pos ⟨rfl, by omega, by omega⟩, show 8 * M.2.2.2.1 34 + c - 8 * M.2.2.2.1 34 = c by omega]
      have h0 := hnew 0 (by omega)
      rw [Nat.add_zero, Nat.add_zero] at h0
      refine ⟨_, C', _, ρ', _, h1, fun τ => M_twin hk (by omega), dY.dx s2, (h.add hok rfl (fun r hr => hrow r (by omega)) rfl rfl s1 (kp.dx s2) s5 s7 s6 rfl (fun t c ht hc => ?_) ⟨h0, hnew 1 (by omega), hnew 2 (by omega), hnew 3 (by omega), hnew 4 (by omega), hnew 5 (by omega)⟩ (hpe k hk)).T1, hr.cl hT (cl_row (hrow 20 (by omega))) (by omega) (by omega)⟩
      rw [mTw_at, if_neg (by omega)]
    · rw [if_neg (by omega)] at h1
      exact CO0.same h hr hT h1 (fun τ => M_twinF hk (by omega))
end CALL3
