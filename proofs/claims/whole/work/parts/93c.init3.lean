section INIT3
variable {g : zG} {e q S n k c o j m i s : Nat} {σ0 σ : zS} {cs cs' : Nat → zY} {v1 : Int32}
def C0 (e q n : Nat) : cS := (fun o k => if (ck n o = 2 ∧ k = 8) ∨ (ck n o = 6 ∧ k = 6) then 1 else 0, fun _ _ => 0, fun _ _ => 0, fun o k => if ck n o = 5 ∧ k = 0 then some e else if ck n o = 9 ∧ k = 7 then some q else none)
theorem C0_N {a : Nat} (hk : ck n o = a) (h2 : ¬ a = 2) (h6 : ¬ a = 6) : (C0 e q n).1 o = fun _ => 0 := by
  funext x
  show (if (ck n o = 2 ∧ x = 8) ∨ (ck n o = 6 ∧ x = 6) then 1 else 0) = 0
  rw [if_neg (by omega)]
theorem C0_P {a : Nat} (hk : ck n o = a) (h5 : ¬ a = 5) (h9 : ¬ a = 9) : (C0 e q n).2.2.2 o = fun _ => none := by
  funext x
  show (if ck n o = 5 ∧ x = 0 then some e else if ck n o = 9 ∧ x = 7 then some q else none) = none
  rw [if_neg (by omega), if_neg (by omega)]
theorem C0_2 (hk : ck n o = 2) : (C0 e q n).1 o = fun x => if x = 8 then 1 else 0 := by
  funext x
  show (if (ck n o = 2 ∧ x = 8) ∨ (ck n o = 6 ∧ x = 6) then 1 else 0) = if x = 8 then 1 else 0
  by_cases h : x = 8
  · rw [if_pos (Or.inl ⟨hk, h⟩), if_pos h]
  · rw [if_neg (by omega), if_neg h]
theorem C0_6 (hk : ck n o = 6) : (C0 e q n).1 o = fun x => if x = 6 then 1 else 0 := by
  funext x
  show (if (ck n o = 2 ∧ x = 8) ∨ (ck n o = 6 ∧ x = 6) then 1 else 0) = if x = 6 then 1 else 0
  by_cases h : x = 6
  · rw [if_pos (Or.inr ⟨hk, h⟩), if_pos h]
  · rw [if_neg (by omega), if_neg h]
theorem C0_5 (hk : ck n o = 5) : (C0 e q n).2.2.2 o 0 = some e := by
  show (if ck n o = 5 ∧ 0 = 0 then some e else _) = _
  rw [if_pos ⟨hk, rfl⟩]
theorem C0_9 (hk : ck n o = 9) : (C0 e q n).2.2.2 o 7 = some q := by
  show (if ck n o = 5 ∧ 7 = 0 then some e else if ck n o = 9 ∧ 7 = 7 then some q else none) = _
  rw [if_neg (by omega), if_pos ⟨hk, rfl⟩]
theorem cell_al (hk : ck n o = 5) : ccell S n (C0 e q n) o = .inr (3, [.ref e, .int 0, .int 0]) := by
  rw [cc_Al hk, C0_5 hk, C0_N hk (by omega) (by omega)]
  rfl
theorem cell_br (hi : i < n) {x : Nat} (h1 : oBr i ≤ x) (h2 : x < oBr i + 11) : cBs S e (oBr i) i cs 3 x = ccell S n (C0 e q n) x := by
  have hx : x = oBr i ∨ x = oBa i ∨ (∃ s, s < 3 ∧ x = oBs i s) ∨ (∃ s k, s < 3 ∧ k < 2 ∧ x = oLs i s k) := by
    unfold oBr at h1 h2
    by_cases a1 : x = oBr i
    · exact Or.inl a1
    · by_cases a2 : x = oBa i
      · exact Or.inr (Or.inl a2)
      · unfold oBr at a1
        unfold oBa at a2
        by_cases a3 : (x - (4 + 11 * i)) % 3 = 0
        · exact Or.inr (Or.inr (Or.inl ⟨(x - (4 + 11 * i)) / 3, by omega, by unfold oBs; omega⟩))
        · exact Or.inr (Or.inr (Or.inr ⟨(x - (4 + 11 * i)) / 3, (x - (4 + 11 * i)) % 3 - 1, by omega, by omega, by unfold oLs; omega⟩))
  rcases hx with rfl | rfl | ⟨s, hs, rfl⟩ | ⟨s, k, hs, hk, rfl⟩
  · have hk := ck_Br (n := n) hi
    unfold cBs
    rw [if_neg (by omega), if_pos rfl, cc_Br hk, C0_2 hk, C0_P hk (by omega) (by omega), o_Br0]
    rfl
  · have hk := ck_Ba (n := n) hi
    unfold cBs
    rw [if_neg (by unfold oBa oBr; omega), if_neg (by unfold oBa oBr; omega), if_pos (by unfold oBa oBr; omega)]
    unfold ccell ccellF
    rw [hk]
    have e1 : refsTo S (oBr i + 2) 3 3 = fun s => if s < 3 then some (S + (oBa i + 1 + 3 * s)) else none := by
      funext t
      unfold refsTo
      rw [show oBr i + 2 = oBa i + 1 by unfold oBr oBa; omega]
    rw [e1]
    rfl
  · have hk := ck_Bs (n := n) hi hs
    unfold cBs tB
    rw [if_neg (by unfold oBs oBr; omega), if_neg (by unfold oBs oBr; omega), if_neg (by unfold oBs oBr; omega), if_pos (by unfold oBs oBr; omega), cc_Bs hk, C0_N hk (by omega) (by omega)]
    rfl
  · have hk2 := ck_Ls (n := n) hi hs hk
    unfold cBs tB
    rw [if_neg (by unfold oLs oBr; omega), if_neg (by unfold oLs oBr; omega), if_neg (by unfold oLs oBr; omega), if_neg (by unfold oLs oBr; omega), cell_al hk2]
def cNo (S e q n i x : Nat) : zY := if x = 0 then .inr (0, [.ref (S + 1), .null, .null]) else if x = 1 then .inl (6, n, rfs (refsTo S 2 11 i)) else ccell S n (C0 e q n) x
theorem I_no25 {N : Nat} (h : IW S σ0 (2 + 11 * i) c (cNo S e q n i) σ) (hi : i < n) (hn : n ≤ 6) (hg : g 0 = some e) : ∃ σ', s_No_init_25 g (N + 1) S v1 (zi n) (zi i) σ = s_No_init_25 g N S v1 (zi n) (zi (i + 1)) σ' ∧ IW S σ0 (2 + 11 * (i + 1)) (c + 60) (cNo S e q n (i + 1)) σ' := by
  have x0 : cNo S e q n i 0 = .inr (0, [.ref (S + 1), .null, .null]) := by unfold cNo; rw [if_pos rfl]
  have x1 : cNo S e q n i 1 = .inl (6, n, rfs (refsTo S 2 11 i)) := by unfold cNo; rw [if_neg (by omega), if_pos rfl]
  have g1 := h.getR (j := 0) (x := S + 1) (o := 0) (by omega) x0 rfl
  have n1 := h.new (m := 9) (y := .inr (1, [.int 0, .null, .null, .int 0, .int 0, .null, .int 0, .int 0, .int 0]))
  obtain ⟨σ2, b1, b2⟩ := I_br (g := g) (i := i) n1 rfl (va_up_self _ _ _) hg
  have y0 : ∀ x, x < 2 + 11 * i → cBs S e (2 + 11 * i) i (va_up (cNo S e q n i) (2 + 11 * i) (.inr (1, [.int 0, .null, .null, .int 0, .int 0, .null, .int 0, .int 0, .int 0]))) 3 x = cNo S e q n i x := fun x hx => by
    unfold cBs
    rw [if_pos hx, va_up_ne _ _ (by omega)]
  have b3 := b2.setR (o := 1) (i := i) (o' := 2 + 11 * i) (ci' := 1) (by omega) (by rw [y0 1 (by omega)]; exact x1) hi (by omega) (by omega) (by unfold cBs; rw [if_neg (by omega), if_pos rfl]) (by decide)
  have b4 := b2.upd (o := 1) (y := .inl (6, n, rfs (va_up (refsTo S 2 11 i) i (some (S + (2 + 11 * i)))))) (by omega)
  refine ⟨_, ?_, (show IW S σ0 (2 + 11 * (i + 1)) (c + 60) _ _ from ⟨by rw [b4.1]; omega, b4.2.1, b4.2.2.1, fun o ho => b4.2.2.2 o (by omega)⟩).cg (fun x hx => ?_)⟩
  · rw [s_No_init_25, if_neg (by rw [zi_le (by omega) (by omega)]; omega)]
    have g1' : zgR σ S 0 0 = some (some (S + 1)) := g1
    rw [g1', Option.bind_some, Option.bind_some, h.1, b1, Option.bind_some, Option.bind_some, b3, Option.bind_some]
    have e1 : zi i + 1 = zi (i + 1) := zi_add i 1
    rw [e1]
  · by_cases hx1 : x = 1
    · subst hx1
      rw [va_up_self, refsTo_s]
      unfold cNo; rw [if_neg (by omega), if_pos rfl]
    · rw [va_up_ne _ _ hx1]
      by_cases hxi : x < 2 + 11 * i
      · rw [y0 x hxi]
        unfold cNo
        rw [if_neg hx1, if_neg hx1]
      · have := cell_br (S := S) (e := e) (q := q) (n := n) (i := i) (cs := va_up (cNo S e q n i) (2 + 11 * i) (.inr (1, [.int 0, .null, .null, .int 0, .int 0, .null, .int 0, .int 0, .int 0]))) hi (x := x) (by unfold oBr; omega) (by unfold oBr; omega)
        have e2 : oBr i = 2 + 11 * i := rfl
        rw [e2] at this
        rw [this]
        unfold cNo
        rw [if_neg (by omega), if_neg hx1]
theorem I_noL (hn : n ≤ 6) (hg : g 0 = some e) : ∀ (m N i c : Nat) (σ : zS), i + m = n → IW S σ0 (2 + 11 * i) c (cNo S e q n i) σ → ∃ σ', s_No_init_25 g (N + m) S v1 (zi n) (zi i) σ = s_No_init_25 g N S v1 (zi n) (zi n) σ' ∧ IW S σ0 (2 + 11 * n) (c + 60 * m) (cNo S e q n n) σ' := by
  intro m
  induction m with
  | zero =>
    intro N i c σ hi h
    have : i = n := by omega
    subst this
    exact ⟨σ, rfl, h⟩
  | succ m ih =>
    intro N i c σ hi h
    obtain ⟨σ1, r1, i1⟩ := I_no25 (g := g) (v1 := v1) (N := N + m) h (by omega) hn hg
    obtain ⟨σ2, r2, i2⟩ := ih N (i + 1) (c + 60) σ1 (by omega) i1
    refine ⟨σ2, ?_, ⟨i2.1, by rw [i2.2.1]; omega, i2.2.2.1, i2.2.2.2⟩⟩
    rw [show N + (m + 1) = N + m + 1 from rfl, r1, r2]
theorem cell_of {x : Nat} (h1 : oOf n ≤ x) (h2 : x < oOf n + 37) {cs : Nat → zY} : (if x < oOf n then cs x else if x = oOf n then .inr (4, [.ref (S + (oOf n + 1)), .ref (S + (oOf n + 2)), .ref (S + (oOf n + 33)), .ref (S + (oOf n + 34)), .ref (S + (oOf n + 35)), .ref (S + (oOf n + 36)), .int 1]) else if x < oOf n + 33 then cOs S q (oOf n) cs 3 x else if x < oOf n + 35 then .inl (3, n, .inl (fun _ => 0)) else .inl (9, n, rfs (fun _ => none))) = ccell S n (C0 e q n) x := by
  rw [if_neg (by omega)]
  by_cases a0 : x = oOf n
  · subst a0
    have hk := ck_Of (n := n)
    rw [if_pos rfl, cc_Of hk, C0_6 hk]
    have e1 : oOf n + 1 = oSa n 0 := by unfold oOf oSa; omega
    have e2 : oOf n + 2 = oSa n 1 := by unfold oOf oSa; omega
    have e3 : oOf n + 33 = oSt n 0 := by unfold oOf oSt; omega
    have e4 : oOf n + 34 = oSt n 1 := by unfold oOf oSt; omega
    have e5 : oOf n + 35 = oAn n 0 := by unfold oOf oAn; omega
    have e6 : oOf n + 36 = oAn n 1 := by unfold oOf oAn; omega
    rw [e1, e2, e3, e4, e5, e6]
    rfl
  · rw [if_neg a0]
    by_cases a1 : x < oOf n + 33
    · rw [if_pos a1]
      unfold cOs
      rw [if_neg (by omega), if_neg a0]
      by_cases b1 : x = oOf n + 1
      · have hx : x = oSa n 0 := by unfold oSa; unfold oOf at b1; omega
        rw [if_pos b1, hx]
        unfold ccell ccellF
        rw [ck_Sa0]
        have e1 : refsTo S (oOf n + 3) 10 3 = fun s => if s < 3 then some (S + oSb n 0 s) else none := by
          funext t
          unfold refsTo
          rw [show oOf n + 3 + 10 * t = oSb n 0 t by unfold oOf oSb; omega]
        rw [e1]
        rfl
      · rw [if_neg b1]
        by_cases b2 : x = oOf n + 2
        · have hx : x = oSa n 1 := by unfold oSa; unfold oOf at b2; omega
          rw [if_pos b2, hx]
          unfold ccell ccellF
          rw [ck_Sa1]
          have e1 : refsTo S (oOf n + 8) 10 3 = fun s => if s < 3 then some (S + oSb n 1 s) else none := by
            funext t
            unfold refsTo
            rw [show oOf n + 8 + 10 * t = oSb n 1 t by unfold oOf oSb; omega]
          rw [e1]
          rfl
        · rw [if_neg b2]
          unfold oOf at h1 h2 a0 a1 b1 b2
          have hck : ck n x = if (x - (5 + 11 * n)) % 5 = 0 then 9 else if (x - (5 + 11 * n)) % 5 < 3 then 10 else if (x - (5 + 11 * n)) % 5 = 3 then 11 else 12 := by
            unfold ck
            rw [if_neg (by omega), if_neg (by omega), if_neg (by omega), if_neg (by omega), if_neg (by omega), if_neg (by omega), if_pos (by omega)]
          have e0 : x - (oOf n + 3) = x - (5 + 11 * n) := by unfold oOf; omega
          unfold tO
          rw [e0]
          by_cases c0 : (x - (5 + 11 * n)) % 5 = 0
          · rw [if_pos c0] at hck ⊢
            rw [cc_Sb hck, C0_9 hck, C0_N hck (by omega) (by omega)]
            rfl
          · rw [if_neg c0] at hck ⊢
            by_cases c3 : (x - (5 + 11 * n)) % 5 = 3
            · rw [if_neg (by omega), if_pos c3] at hck
              rw [if_pos c3, cc_L hck]
              rfl
            · rw [if_neg c3]
              by_cases c4 : (x - (5 + 11 * n)) % 5 < 3
              · rw [if_pos c4] at hck
                rw [cc_N hck, C0_N hck (by omega) (by omega)]
                rfl
              · rw [if_neg c4, if_neg c3] at hck
                rw [cc_I hck]
                rfl
    · rw [if_neg a1]
      by_cases a2 : x < oOf n + 35
      · rw [if_pos a2]
        have hck : ck n x = 13 := by
          unfold oOf at *
          unfold ck
          rw [if_neg (by omega), if_neg (by omega), if_neg (by omega), if_neg (by omega), if_neg (by omega), if_neg (by omega), if_neg (by omega), if_pos (by omega)]
        rw [cc_B hck, C0_N hck (by omega) (by omega)]
        rfl
      · rw [if_neg a2]
        have hck : ck n x = 14 := by
          unfold oOf at *
          unfold ck
          rw [if_neg (by omega), if_neg (by omega), if_neg (by omega), if_neg (by omega), if_neg (by omega), if_neg (by omega), if_neg (by omega), if_neg (by omega), if_pos (by omega)]
        unfold ccell ccellF
        rw [hck, C0_P hck (by omega) (by omega)]
        rfl
theorem clamp (v1 : Int32) : ∃ n, (1 ≤ n ∧ n ≤ 6) ∧ (if 1 < (if v1 < 6 then v1 else 6) then (if v1 < 6 then v1 else 6) else 1) = zi n ∧ ((1 ≤ v1 ∧ v1 ≤ 6 ∧ v1 = zi n) ∨ (1 ≤ v1 ∧ ¬ v1 ≤ 6 ∧ n = 6) ∨ (¬ 1 ≤ v1 ∧ n = 1)) := by
  rcases zi_cases v1 with h | ⟨k, hk, rfl⟩
  · have h6 : v1 < 6 := Int32.lt_trans h (by decide)
    have h1 : ¬ 1 < v1 := fun h2 => absurd (Int32.lt_trans h2 h) (by decide)
    have h1' : ¬ 1 ≤ v1 := fun h2 => absurd (Int32.lt_of_le_of_lt h2 h) (by decide)
    refine ⟨1, by omega, ?_, Or.inr (Or.inr ⟨h1', rfl⟩)⟩
    rw [if_pos h6, if_neg h1]; rfl
  · have l6 : zi k ≤ 6 ↔ k ≤ 6 := by show zi k ≤ zi 6 ↔ _; rw [zi_le hk (by omega)]
    have l1 : 1 ≤ zi k ↔ 1 ≤ k := by show zi 1 ≤ zi k ↔ _; rw [zi_le (by omega) hk]
    by_cases h6 : k < 6
    · have p6 : zi k < 6 := by show zi k < zi 6; rw [zi_lt hk (by omega)]; exact h6
      rw [if_pos p6]
      by_cases h1 : 1 < k
      · have p1 : 1 < zi k := by show zi 1 < zi k; rw [zi_lt (by omega) hk]; exact h1
        rw [if_pos p1]
        exact ⟨k, by omega, rfl, Or.inl ⟨l1.mpr (by omega), l6.mpr (by omega), rfl⟩⟩
      · have p1 : ¬ 1 < zi k := by show ¬ zi 1 < zi k; rw [zi_lt (by omega) hk]; exact h1
        rw [if_neg p1]
        refine ⟨1, by omega, rfl, ?_⟩
        by_cases h0 : k = 0
        · exact Or.inr (Or.inr ⟨fun h => by have := l1.mp h; omega, rfl⟩)
        · exact Or.inl ⟨l1.mpr (by omega), l6.mpr (by omega), by rw [show k = 1 by omega]⟩
    · have p6 : ¬ zi k < 6 := by show ¬ zi k < zi 6; rw [zi_lt hk (by omega)]; exact h6
      rw [if_neg p6, if_pos (show (1 : Int32) < 6 by decide)]
      refine ⟨6, by omega, rfl, ?_⟩
      by_cases h7 : k = 6
      · exact Or.inl ⟨l1.mpr (by omega), l6.mpr (by omega), by rw [h7]⟩
      · exact Or.inr (Or.inl ⟨l1.mpr (by omega), fun h => by have := l6.mp h; omega, rfl⟩)
/-- the class's object is made -/
theorem I_no (h : IW S σ0 1 c cs σ) (hc : cs 0 = .inr (0, [.null, .null, .null])) (hg : g 0 = some e) (hq : g 20 = some q) (hn : 1 ≤ n ∧ n ≤ 6) (hx : (if 1 < (if v1 < 6 then v1 else 6) then (if v1 < 6 then v1 else 6) else 1) = zi n) : ∃ σ' c', s_No_init g S v1 σ = some σ' ∧ IW S σ0 (cF n) c' (ccell S n (C0 e q n)) σ' ∧ c' ≤ c + 8000 := by
  have zn : zlen (zi n) = some n := zlen_zi (by omega)
  have n1 := h.new (m := n) (y := .inl (6, n, rfs (fun _ => none)))
  have p1 := n1.put (v := .ref (S + 1)) (o := 0) (ci := 0) (fs := [.null, .null, .null]) (j := 0) (by omega) (by rw [va_up_ne _ _ (by omega)]; exact hc) (by show 0 < 3; omega)
  have w1 := n1.upd (o := 0) (y := .inr (0, [.ref (S + 1), .null, .null])) (by omega)
  have w2 : IW S σ0 (2 + 11 * 0) (c + n) (cNo S e q n 0) _ := w1.cg (fun x hx => by
    rcases (show x = 0 ∨ x = 1 by omega) with rfl | rfl
    · rw [va_up_self]; unfold cNo; rw [if_pos rfl]
    · rw [va_up_ne _ _ (by omega), va_up_self]; unfold cNo; rw [if_neg (by omega), if_pos rfl, refsTo_0])
  obtain ⟨σ2, r2, i2⟩ := I_noL (g := g) (v1 := v1) hn.2 hg n (zfuel - n) 0 (c + n) _ (by omega) w2
  have m1 := i2.new (m := 7) (y := .inr (4, [.null, .null, .null, .null, .null, .null, .int 0]))
  obtain ⟨σ3, r3, i3⟩ := I_of (g := g) (q := q) (n := n) (o := oOf n) m1 (by unfold oOf; omega) (va_up_self _ _ _) hq hn.2
  have c3 : ∀ x, x < oOf n + 37 → ccell S n (C0 e q n) x = (if x < oOf n then (va_up (cNo S e q n n) (2 + 11 * n) (.inr (4, [.null, .null, .null, .null, .null, .null, .int 0]))) x else if x = oOf n then .inr (4, [.ref (S + (oOf n + 1)), .ref (S + (oOf n + 2)), .ref (S + (oOf n + 33)), .ref (S + (oOf n + 34)), .ref (S + (oOf n + 35)), .ref (S + (oOf n + 36)), .int 1]) else if x < oOf n + 33 then cOs S q (oOf n) (va_up (cNo S e q n n) (2 + 11 * n) (.inr (4, [.null, .null, .null, .null, .null, .null, .int 0]))) 3 x else if x < oOf n + 35 then .inl (3, n, .inl (fun _ => 0)) else .inl (9, n, rfs (fun _ => none))) ∨ x < 2 := by
    intro x hx
    by_cases h2 : x < 2
    · exact Or.inr h2
    · refine Or.inl ?_
      by_cases h1 : x < oOf n
      · rw [if_pos h1, va_up_ne _ _ (by unfold oOf at h1; omega)]
        unfold cNo; rw [if_neg (by omega), if_neg (by omega)]
      · exact (cell_of (by omega) hx).symm
  have i3' : IW S σ0 (oOf n + 37) (c + n + 60 * n + 7 + 7254 + 4 * n) (fun x => if x = 0 then .inr (0, [.ref (S + 1), .null, .null]) else ccell S n (C0 e q n) x) σ3 := i3.cg (fun x hx => by
    by_cases h0 : x = 0
    · subst h0
      rw [if_pos rfl, if_pos (by unfold oOf; omega), va_up_ne _ _ (by omega)]
      unfold cNo; rw [if_pos rfl]
    · rw [if_neg h0]
      rcases c3 x hx with h1 | h1
      · exact h1
      · have hx1 : x = 1 := by omega
        subst hx1
        rw [if_pos (by unfold oOf; omega), va_up_ne _ _ (by omega)]
        unfold cNo
        rw [if_neg (by omega), if_pos rfl]
        unfold ccell ccellF
        rw [ck_Na]
        rfl)
  have p4 := i3'.put (v := .ref (S + oOf n)) (o := 0) (ci := 0) (fs := [.ref (S + 1), .null, .null]) (j := 1) (by omega) rfl (by show 1 < 3; omega)
  have w4 := i3'.upd (o := 0) (y := .inr (0, [.ref (S + 1), .ref (S + oOf n), .null])) (by omega)
  have m5 := w4.new (m := 3) (y := .inr (3, [.null, .int 0, .int 0]))
  obtain ⟨σ5, r5, i5⟩ := I_list (g := g) m5 (o := oOf n + 37) (by omega) (va_up_self _ _ _) hg
  have p6 := i5.put (v := .ref (S + oPo n)) (o := 0) (ci := 0) (fs := [.ref (S + 1), .ref (S + oOf n), .null]) (j := 2) (by omega) (by rw [va_up_ne _ _ (by omega), va_up_ne _ _ (by omega)]; exact va_up_self _ _ _) (by show 2 < 3; omega)
  have w6 := i5.upd (o := 0) (y := .inr (0, [.ref (S + 1), .ref (S + oOf n), .ref (S + oPo n)])) (by omega)
  refine ⟨_, c + n + 60 * n + 7 + 7254 + 4 * n + 3, ?_, (show IW S σ0 (cF n) _ _ _ from ⟨by rw [w6.1]; unfold oOf cF; omega, w6.2.1, w6.2.2.1, fun o ho => w6.2.2.2 o (by unfold oOf; unfold cF at ho; omega)⟩).cg (fun x hx => ?_), by omega⟩
  · dsimp only [List.set] at p1 p4 p6
    unfold s_No_init
    rw [Option.bind_some, hx, Option.bind_some, zn, Option.bind_some, Option.bind_some]
    have f0 : σ.1 = S + 1 := h.1
    have p1' : zpF (znew σ n (.inl (6, n, .inr (.inr (.inr (.inr (fun _ => none))))))) S 0 0 (.ref (S + 1)) = some (zupd (znew σ n (.inl (6, n, rfs (fun _ => none)))) (S + 0) (.inr (0, [.ref (S + 1), .null, .null]))) := p1
    rw [f0, p1', Option.bind_some]
    have e0 : zfuel = zfuel - n + n := by unfold zfuel; omega
    have r2' := r2
    rw [show zi 0 = (0 : Int32) from rfl] at r2'
    rw [e0, r2']
    have e1 : zfuel - n = (zfuel - n - 1) + 1 := by unfold zfuel; omega
    rw [e1, s_No_init_25, if_pos (by rw [zi_le (by omega) (by omega)]; omega), Option.bind_some]
    have f2 : σ2.1 = S + oOf n := i2.1
    rw [f2, r3, Option.bind_some]
    have p4' : zpF σ3 S 0 1 (.ref (S + oOf n)) = some (zupd σ3 (S + 0) (.inr (0, [.ref (S + 1), .ref (S + oOf n), .null]))) := p4
    rw [p4', Option.bind_some, Option.bind_some, w4.1, r5, Option.bind_some]
    have e3 : S + (oOf n + 37) = S + oPo n := by unfold oOf oPo; omega
    rw [e3]
    have p6' : zpF σ5 S 0 2 (.ref (S + oPo n)) = some (zupd σ5 (S + 0) (.inr (0, [.ref (S + 1), .ref (S + oOf n), .ref (S + oPo n)]))) := p6
    rw [p6', Option.bind_some]
  · by_cases h0 : x = 0
    · subst h0
      rw [va_up_self, cc_No]
    · rw [va_up_ne _ _ h0]
      by_cases h1 : x = oOf n + 37
      · subst h1
        rw [va_up_self]
        exact cell_al (by rw [show oOf n + 37 = oPo n by unfold oOf oPo; omega]; exact ck_Po)
      · rw [va_up_ne _ _ h1, va_up_ne _ _ h1, va_up_ne _ _ h0]
        rw [if_neg h0]
end INIT3
