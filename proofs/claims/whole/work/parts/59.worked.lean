/-! THE PURE PART: the model works the same steps. -/
def zmo (w : Int32) : Int32 := if w = -43 then 1 else if w = -45 then 2 else if w = -42 then 3 else if w = -47 then 4 else if w = -60 then 5 else if w = -61 then 6 else if w = -304 then 7 else 8
/-- a step as the model writes it -/
def zmc (w : Int32) : List Int32 := match zkd9 w with
  | 0 => [0, w]
  | 1 => [-w - 287]
  | 2 => [9]
  | _ => [zmo w]
def zmcs : List Int32 → List Int32
  | [] => []
  | w :: l => zmc w ++ zmcs l
theorem two_eq (xs : Nat → Int32) (L D : Nat) (hD : 6 ≤ D) (I : Nat → Nat → Int32) (J : Nat → Nat → Int64) (X : XH) (w a b : Int32) (hw : zkd9 w = 3) : zev xs L D 197 [.int (zmo w), .int a, .int b] (zmk I J X) = some (.inr (some (.int (zjn (-w) a b))), zmk I J X) := by
  obtain ⟨d, rfl⟩ := Nat.exists_eq_add_of_le hD
  rw [Nat.add_comm 6 d]
  refine (zcS (S197_0 xs L d I J X _ _ _)).trans ?_
  have hlt : ∀ x : Int32, (if decide (b ≤ a) = true then (some (.inr (.inr (some (.int (0 : Int32))), zmk I J X)) : Option Out) else some (.inr (.inr (some (.int (1 : Int32))), zmk I J X))) = some (.inr (.inr (some (.int (zbi (a < b)))), zmk I J X)) := by
    intro _
    by_cases e : a < b
    · rw [if_neg (fun z => by
        have z := i32_le.mp (of_decide_eq_true z)
        have e := i32_lt.mp e
        omega), zbi_t e]
    · rw [if_pos (decide_eq_true (i32_le.mpr (by
        have : ¬ a.toInt < b.toInt := fun z => e (i32_lt.mpr z)
        omega))), zbi_f e]
  rcases zkd9_3 hw with e | e | e | e | e | e | e | e
  · subst e
    rw [show zmo (-42) = 3 by decide, show (-(-42 : Int32)) = 42 by decide, if_neg (by decide), if_neg (by decide), if_pos rfl]
    rfl
  · subst e
    rw [show zmo (-43) = 1 by decide, show (-(-43 : Int32)) = 43 by decide, if_pos rfl]
    rfl
  · subst e
    rw [show zmo (-45) = 2 by decide, show (-(-45 : Int32)) = 45 by decide, if_neg (by decide), if_pos rfl]
    rfl
  · subst e
    rw [show zmo (-47) = 4 by decide, show (-(-47 : Int32)) = 47 by decide, if_neg (by decide), if_neg (by decide), if_neg (by decide), if_pos rfl]
    have ej : zjn 47 a b = if b = 0 then 0 else a / b := rfl
    rw [ej]
    by_cases e : b = 0
    · rw [if_neg (fun z => (of_decide_eq_true z) e), if_pos e]
      rfl
    · rw [if_pos (decide_eq_true (show ¬ b = 0 from e)), if_neg e, if_neg e]
      rfl
  · subst e
    rw [show zmo (-60) = 5 by decide, show (-(-60 : Int32)) = 60 by decide, if_neg (by decide), if_neg (by decide), if_neg (by decide), if_neg (by decide), if_pos rfl, hlt 0]
    rfl
  · subst e
    rw [show zmo (-61) = 6 by decide, show (-(-61 : Int32)) = 61 by decide, if_neg (by decide), if_neg (by decide), if_neg (by decide), if_neg (by decide), if_neg (by decide), if_pos rfl]
    have ej : zjn 61 a b = zbi (a = b) := rfl
    rw [ej]
    by_cases e : a = b
    · rw [if_neg (fun z => (of_decide_eq_true z) e), zbi_t e]
      rfl
    · rw [if_pos (decide_eq_true (show ¬ a = b from e)), zbi_f e]
      rfl
  · subst e
    rw [show zmo (-304) = 7 by decide, show (-(-304 : Int32)) = 304 by decide, if_neg (by decide), if_neg (by decide), if_neg (by decide), if_neg (by decide), if_neg (by decide), if_neg (by decide), if_pos rfl]
    have ej : zjn 304 a b = zbi (¬ a = 0 ∧ ¬ b = 0) := rfl
    rw [ej]
    by_cases e : a = 0
    · rw [if_pos (decide_eq_true e), zbi_f (fun z => z.1 e)]
      rfl
    · rw [if_neg (fun z => e (of_decide_eq_true z))]
      by_cases e2 : b = 0
      · rw [if_pos (decide_eq_true e2), zbi_f (fun z => z.2 e2)]
        rfl
      · rw [if_neg (fun z => e2 (of_decide_eq_true z)), zbi_t ⟨e, e2⟩]
        rfl
  · subst e
    rw [show zmo (-305) = 8 by decide, show (-(-305 : Int32)) = 305 by decide, if_neg (by decide), if_neg (by decide), if_neg (by decide), if_neg (by decide), if_neg (by decide), if_neg (by decide), if_neg (by decide)]
    have ej : zjn 305 a b = zbi (¬ a = 0 ∨ ¬ b = 0) := rfl
    rw [ej]
    by_cases e : a = 0
    · rw [if_neg (fun z => (of_decide_eq_true z) e)]
      by_cases e2 : b = 0
      · rw [if_pos (decide_eq_true e2), zbi_f (fun z => z.elim (fun w => w e) (fun w => w e2))]
        rfl
      · rw [if_neg (fun z => e2 (of_decide_eq_true z)), zbi_t (Or.inr e2)]
        rfl
    · rw [if_pos (decide_eq_true (show ¬ a = 0 from e)), zbi_t (Or.inl e)]
      rfl
abbrev c196L (x c top i : Int32) : LV := [(0, .ref 61), (1, .int x), (2, .int c), (3, .int top), (4, .int i)]
theorem c196_e (xs : Nat → Int32) (L d : Nat) (I : Nat → Nat → Int32) (J : Nat → Nat → Int64) (X : XH) (x c top i : Int32) (h1 : zix 0 592 0 c) (h2 : (640 : Int32) * x + I 100 c.toNatClampNeg ≤ i) : zseg (zE xs L (d + 5) 196) (zC 196) 700 (zC 196 2) (c196L x c top i) [] (zmk I J X) = some (.inr (.inr (some (.int (I 103 0))), zmk I J X)) := by
  refine (if_pos (show zin (zmk I J X) 100 0 c from h1)).trans ?_
  refine (zb_pos (p := (640 : Int32) * x + I 100 c.toNatClampNeg ≤ i) h2).trans ?_
  rfl
theorem c196_s (xs : Nat → Int32) (L d : Nat) (I : Nat → Nat → Int32) (J : Nat → Nat → Int64) (X : XH) (x c top i : Int32) (h1 : zix 0 592 0 c) (h2 : ¬ (640 : Int32) * x + I 100 c.toNatClampNeg ≤ i) (h3 : zix 0 23680 0 i) : zseg (zE xs L (d + 5) 196) (zC 196) 700 (zC 196 2) (c196L x c top i) [] (zmk I J X) = zseg (zE xs L (d + 5) 196) (zC 196) 685 (zB196_2.drop 15) ((5, .int (I 101 i.toNatClampNeg)) :: c196L x c top i) [] (zmk I J X) := by
  refine (if_pos (show zin (zmk I J X) 100 0 c from h1)).trans ?_
  refine (zb_neg (p := (640 : Int32) * x + I 100 c.toNatClampNeg ≤ i) h2).trans ?_
  refine (if_pos (show zin (zmk I J X) 101 0 i from h3)).trans ?_
  rfl
theorem c196_num_w (xs : Nat → Int32) (L d : Nat) (I : Nat → Nat → Int32) (J : Nat → Nat → Int64) (X : XH) (x c top i w : Int32) (hw : w = 0) (h1 : zix 0 23680 0 (i + 1)) (h2 : zix 0 200 0 top) : zseg (zE xs L (d + 5) 196) (zC 196) 685 (zB196_2.drop 15) ((5, .int w) :: c196L x c top i) [] (zmk I J X) = some (.inl (2, c196L x c (top + 1) (i + 1 + 1), zmk (zup I 103 top.toNatClampNeg (I 101 (i + 1).toNatClampNeg)) J X)) := by
  refine (zb_neg (p := ¬ w = 0) (fun z => z hw)).trans ?_
  refine (if_pos (show zin (zmk I J X) 101 0 (i + 1) from h1)).trans ?_
  refine (if_pos (show zin (zmk I J X) 103 0 top from h2)).trans ?_
  rfl
theorem c196_num (xs : Nat → Int32) (L d : Nat) (I : Nat → Nat → Int32) (J : Nat → Nat → Int64) (X : XH) (x c top i : Int32) (h1 : zix 0 23680 0 (i + 1)) (h2 : zix 0 200 0 top) : zseg (zE xs L (d + 5) 196) (zC 196) 685 (zB196_2.drop 15) ((5, .int 0) :: c196L x c top i) [] (zmk I J X) = some (.inl (2, c196L x c (top + 1) (i + 1 + 1), zmk (zup I 103 top.toNatClampNeg (I 101 (i + 1).toNatClampNeg)) J X)) := c196_num_w xs L d I J X x c top i 0 rfl h1 h2
theorem c196_val (xs : Nat → Int32) (L d : Nat) (I : Nat → Nat → Int32) (J : Nat → Nat → Int64) (X : XH) (x c top i w : Int32) (h0 : 20 ≤ w.toInt) (h1 : zix 0 8 0 (w - 20)) (h2 : zix 0 200 0 top) : zseg (zE xs L (d + 5) 196) (zC 196) 685 (zB196_2.drop 15) ((5, .int w) :: c196L x c top i) [] (zmk I J X) = some (.inl (2, c196L x c (top + 1) (i + 1), zmk (zup I 103 top.toNatClampNeg (I 102 (w - 20).toNatClampNeg)) J X)) := by
  refine (zb_pos (p := ¬ w = 0) (fun z => by
    rw [z, i32_0] at h0
    omega)).trans ?_
  refine (zb_neg (p := w < 20) (fun z => by
    have z := i32_lt.mp z
    have e : (20 : Int32).toInt = 20 := by decide
    omega)).trans ?_
  refine (if_pos (show zin (zmk I J X) 102 0 (w - 20) from h1)).trans ?_
  refine (if_pos (show zin (zmk I J X) 103 0 top from h2)).trans ?_
  rfl
theorem c196_not_w (xs : Nat → Int32) (L d : Nat) (I : Nat → Nat → Int32) (J : Nat → Nat → Int64) (X : XH) (x c top i w : Int32) (hw : w = 9) (h2 : zix 0 200 0 (top - 1)) : zseg (zE xs L (d + 5) 196) (zC 196) 685 (zB196_2.drop 15) ((5, .int w) :: c196L x c top i) [] (zmk I J X) = some (.inl (2, c196L x c top (i + 1), zmk (zup I 103 (top - 1).toNatClampNeg (zbi (I 103 (top - 1).toNatClampNeg = 0))) J X)) := by
  refine (zb_pos (p := ¬ w = 0) (by rw [hw]; decide)).trans ?_
  refine (zb_pos (p := w < 20) (by rw [hw]; decide)).trans ?_
  refine (zb_neg (p := ¬ w = 9) (fun z => z hw)).trans ?_
  refine (if_pos (show zin (zmk I J X) 103 0 (top - 1) from h2)).trans ?_
  by_cases e : I 103 (top - 1).toNatClampNeg = 0
  · refine (zb_neg (p := ¬ I 103 (top - 1).toNatClampNeg = 0) (fun z => z e)).trans ?_
    refine (if_pos (show zin (zmk I J X) 103 0 (top - 1) from h2)).trans ?_
    rw [zbi_t e]
    rfl
  · refine (zb_pos (p := ¬ I 103 (top - 1).toNatClampNeg = 0) e).trans ?_
    refine (if_pos (show zin (zmk I J X) 103 0 (top - 1) from h2)).trans ?_
    rw [zbi_f e]
    rfl
theorem c196_not (xs : Nat → Int32) (L d : Nat) (I : Nat → Nat → Int32) (J : Nat → Nat → Int64) (X : XH) (x c top i : Int32) (h2 : zix 0 200 0 (top - 1)) : zseg (zE xs L (d + 5) 196) (zC 196) 685 (zB196_2.drop 15) ((5, .int 9) :: c196L x c top i) [] (zmk I J X) = some (.inl (2, c196L x c top (i + 1), zmk (zup I 103 (top - 1).toNatClampNeg (zbi (I 103 (top - 1).toNatClampNeg = 0))) J X)) := c196_not_w xs L d I J X x c top i 9 rfl h2
theorem c196_b (xs : Nat → Int32) (L d : Nat) (I : Nat → Nat → Int32) (J : Nat → Nat → Int64) (X : XH) (x c top i w z y : Int32) : zseg (zE xs L (d + 1 + 5) 196) (zC 196) 677 [(132, 11, 3, 0, 0, z), (135, 7, 0, 1, 0, 0), (136, 62, 12, 53, 151, 0), (139, 5, 3, 1, 0, 0), (140, 1, 0, 0, 0, y), (141, 13, 0, 0, 0, 0), (142, 5, 5, 0, 0, 0), (144, 7, 0, 1, 0, 0), (145, 62, 12, 53, 151, 0), (148, 5, 3, 1, 0, 0), (149, 1, 0, 0, 0, y), (150, 13, 0, 0, 0, 0), (151, 70, 0, 0, 0, 0), (152, 7, 0, 1, 0, 0), (153, 62, 12, 53, 151, 0), (156, 5, 3, 1, 0, 0), (157, 70, 0, 0, 0, 0), (158, 105, 197, 3, 43199, 1), (161, 75, 0, 0, 0, 0), (162, 56, 5, 0, 0, 0)] ((5, .int w) :: c196L x c top i) [] (zmk I J X) = if zix 0 200 0 (top + z - y) then
  if zix 0 200 0 (top + z) then
    zqi (zev xs L (d + 1 + 5) 197 [.int w, .int (I 103 (top + z - y).toNatClampNeg), .int (I 103 (top + z).toNatClampNeg)] (zmk I J X)) (fun r h => zseg (zE xs L (d + 1 + 5) 196) (zC 196) 659 (zB196_7.drop 18) [(3, .int (top + z)), (5, .int w), (0, .ref 61), (1, .int x), (2, .int c), (4, .int i)] [.int r, .int (top + z - y), .ref 103] h)
    else none
  else none := by
  refine zite_congr ?_ ?_
  · refine zite_congr ?_ ?_
    · rfl
    · rfl
  · rfl
theorem c196_bin (xs : Nat → Int32) (L d : Nat) (I : Nat → Nat → Int32) (J : Nat → Nat → Int64) (X : XH) (x c top i w : Int32) (hw : zkd9 w = 3) (h1 : zix 0 200 0 (top + (-1) - 1)) (h2 : zix 0 200 0 (top + (-1))) : zseg (zE xs L (d + 1 + 5) 196) (zC 196) 685 (zB196_2.drop 15) ((5, .int (zmo w)) :: c196L x c top i) [] (zmk I J X) = some (.inl (2, c196L x c (top + (-1)) (i + 1), zmk (zup I 103 (top + (-1) - 1).toNatClampNeg (zjn (-w) (I 103 (top + (-1) - 1).toNatClampNeg) (I 103 (top + (-1)).toNatClampNeg))) J X)) := by
  have hm : (¬ zmo w = 0 ∧ zmo w < 20) ∧ ¬ zmo w = 9 := by
    rcases zkd9_3 hw with e | e | e | e | e | e | e | e <;> subst e <;> decide
  refine (zb_pos (p := ¬ zmo w = 0) hm.1.1).trans ?_
  refine (zb_pos (p := zmo w < 20) hm.1.2).trans ?_
  refine (zb_pos (p := ¬ zmo w = 9) hm.2).trans ?_
  refine (c196_b xs L d I J X x c top i (zmo w) (-1) 1).trans ?_
  rw [if_pos h1, if_pos h2]
  rw [two_eq xs L _ (by omega) I J X w _ _ hw, zqi_i, T196_7_18_659 xs L (d + 1), if_pos h1]
theorem run_m (xs : Nat → Int32) (L d : Nat) (I : Nat → Nat → Int32) (J : Nat → Nat → Int64) (X : XH) (x cc e : Nat) (hx : x < 37) (hcc : cc < 592) (h100 : (640 : Int32) * Int32.ofNat x + I 100 cc = Int32.ofNat e) (he : e ≤ 23680) {lim : Nat} (hlim : lim ≤ 200) : ∀ (l : List Int32) (i h h' : Nat) (f : Nat → Int32), zrow (I 101) i (zmcs l) → i + (zmcs l).length ≤ e → h ≤ lim → zrp lim h l h' → zgo xs L (d + 1 + 5) 196 2 (c196L (Int32.ofNat x) (Int32.ofNat cc) (Int32.ofNat h) (Int32.ofNat i)) (zmk (zov I 103 f) J X) = zgo xs L (d + 1 + 5) 196 2 (c196L (Int32.ofNat x) (Int32.ofNat cc) (Int32.ofNat h') (Int32.ofNat (i + (zmcs l).length))) (zmk (zov I 103 (zsts (I 102) l (f, h)).1) J X)
  | [], i, h, h', f, _, _, _, a => by
    have a : h = h' := a
    rw [a]
    rfl
  | w :: l, i, h, h', f, hw, hi, hh, a => by
    have hw : zrow (I 101) i (zmc w ++ zmcs l) := hw
    obtain ⟨v1, v2⟩ := zrow_app.mp hw
    have hi : i + (zmc w ++ zmcs l).length ≤ e := hi
    rw [List.length_append] at hi
    have hl : i + (zmcs (w :: l)).length = i + (zmc w).length + (zmcs l).length := by
      show i + (zmc w ++ zmcs l).length = _
      rw [List.length_append]
      omega
    have w1 := i32_hi w
    have w2 := i32_lo w
    have zc : zix 0 592 0 (Int32.ofNat cc) := zix_nat rfl hcc (by omega)
    have hm0 : 0 < (zmc w).length := by
      unfold zmc
      split <;> exact Nat.succ_pos _
    have zi : zix 0 23680 0 (Int32.ofNat i) := zix_nat rfl (by omega) (by omega)
    have hnle : ¬ (640 : Int32) * Int32.ofNat x + (zov I 103 f) 100 (Int32.ofNat cc).toNatClampNeg ≤ Int32.ofNat i := fun z => by
      have ee : (zov I 103 f) 100 (Int32.ofNat cc).toNatClampNeg = I 100 cc := by
        rw [i32_clamp (by omega)]
        rfl
      rw [ee, h100] at z
      have := (nat_le (by omega) (by omega)).mp z
      omega
    rw [zgo_q, c196_s xs L (d + 1) (zov I 103 f) J X (Int32.ofNat x) (Int32.ofNat cc) (Int32.ofNat h) (Int32.ofNat i) zc hnle zi, hl, i32_clamp (by omega)]
    rcases a with ⟨c, q, r⟩ | ⟨c, q, r⟩ | ⟨c, q, r⟩
    · have zt : zix 0 200 0 (Int32.ofNat h) := zix_nat rfl (by omega) (by omega)
      rcases c with c | c
      · have em : zmc w = [0, w] := by unfold zmc; rw [c]; rfl
        rw [em] at v1 v2 hi ⊢
        have hi : i + (2 + (zmcs l).length) ≤ e := hi
        have e1 : zsts (I 102) (w :: l) (f, h) = zsts (I 102) l (zset f h w, h + 1) := congrArg (zsts (I 102) l) (by unfold zst1; rw [c]; rfl)
        have z2 : zix 0 23680 0 (Int32.ofNat i + 1) := by
          rw [nat_succ]
          exact zix_nat rfl (by omega) (by omega)
        have ew : zov I 103 f 101 i = 0 := v1.1
        have ew2 : zov I 103 f 101 (i + 1) = w := v1.2.1
        rw [ew, c196_num xs L (d + 1) (zov I 103 f) J X _ _ (Int32.ofNat h) (Int32.ofNat i) z2 zt, zth_go, nat_succ, nat_succ, nat_succ, i32_clamp (by omega), i32_clamp (by omega), ew2, zup_zov, e1]
        exact run_m xs L d I J X x cc e hx hcc h100 he hlim l (i + 1 + 1) (h + 1) h' _ v2 (by omega) (by omega) r
      · have b := zkd9_1 c
        have em : zmc w = [-w - 287] := by unfold zmc; rw [c]; rfl
        rw [em] at v1 v2 hi ⊢
        have hi : i + (1 + (zmcs l).length) ≤ e := hi
        have e1 : zsts (I 102) (w :: l) (f, h) = zsts (I 102) l (zset f h (I 102 (nv (-w - 307))), h + 1) := congrArg (zsts (I 102) l) (by unfold zst1; rw [c]; rfl)
        have ew : zov I 103 f 101 i = -w - 287 := v1.1
        have en2 : (-w).toInt = -w.toInt := i32_neg (by omega)
        have c287 : (287 : Int32).toInt = 287 := by decide
        have c307 : (307 : Int32).toInt = 307 := by decide
        have c20 : (20 : Int32).toInt = 20 := by decide
        have e3 : (-w - 287).toInt = -w.toInt - 287 := by
          rw [i32_sub (by rw [en2, c287]; omega) (by rw [en2, c287]; omega), en2, c287]
        have e4 : -w - 287 - 20 = -w - 307 := by
          apply i32_eq.mpr
          rw [i32_sub (by rw [e3, c20]; omega) (by rw [e3, c20]; omega), e3, c20, i32_sub (by rw [en2, c307]; omega) (by rw [en2, c307]; omega), en2, c307]
          omega
        have e5 : (-w - 307).toInt = -w.toInt - 307 := by
          rw [i32_sub (by rw [en2, c307]; omega) (by rw [en2, c307]; omega), en2, c307]
        rw [ew, c196_val xs L (d + 1) (zov I 103 f) J X _ _ (Int32.ofNat h) (Int32.ofNat i) (-w - 287) (by omega) (by rw [e4]; exact zix_of rfl (by omega) (by omega)) zt, zth_go, nat_succ, nat_succ, i32_clamp (n := h) (by omega), e4, zup_zov, e1]
        exact run_m xs L d I J X x cc e hx hcc h100 he hlim l (i + 1) (h + 1) h' _ v2 (by omega) (by omega) r
    · have em : zmc w = [9] := by unfold zmc; rw [c]; rfl
      rw [em] at v1 v2 hi ⊢
      have hi : i + (1 + (zmcs l).length) ≤ e := hi
      have e1 : zsts (I 102) (w :: l) (f, h) = zsts (I 102) l (zset f (h - 1) (zbi (f (h - 1) = 0)), h) := congrArg (zsts (I 102) l) (by unfold zst1; rw [c]; rfl)
      obtain ⟨h0, rfl⟩ : ∃ h0, h = h0 + 1 := ⟨h - 1, by omega⟩
      rw [Nat.add_sub_cancel] at e1
      have ew : zov I 103 f 101 i = 9 := v1.1
      rw [ew, c196_not xs L (d + 1) (zov I 103 f) J X _ _ (Int32.ofNat (h0 + 1)) (Int32.ofNat i) (by rw [nat_pred]; exact zix_nat rfl (by omega) (by omega)), zth_go, nat_pred, nat_succ, i32_clamp (n := h0) (by omega), zov_at, zup_zov, e1]
      exact run_m xs L d I J X x cc e hx hcc h100 he hlim l (i + 1) (h0 + 1) h' _ v2 (by omega) (by omega) r
    · have em : zmc w = [zmo w] := by unfold zmc; rw [c]; rfl
      rw [em] at v1 v2 hi ⊢
      have hi : i + (1 + (zmcs l).length) ≤ e := hi
      have e1 : zsts (I 102) (w :: l) (f, h) = zsts (I 102) l (zset f (h - 2) (zjn (-w) (f (h - 2)) (f (h - 1))), h - 1) := congrArg (zsts (I 102) l) (by unfold zst1; rw [c]; rfl)
      obtain ⟨h0, rfl⟩ : ∃ h0, h = h0 + 2 := ⟨h - 2, by omega⟩
      rw [Nat.add_sub_cancel, show h0 + 2 - 1 = h0 + 1 by omega] at e1
      rw [show h0 + 2 - 1 = h0 + 1 by omega] at r
      have ew : zov I 103 f 101 i = zmo w := v1.1
      rw [ew, c196_bin xs L d (zov I 103 f) J X _ _ (Int32.ofNat (h0 + 2)) (Int32.ofNat i) w c (by rw [nat_dec, nat_pred]; exact zix_nat rfl (by omega) (by omega)) (by rw [nat_dec]; exact zix_nat rfl (by omega) (by omega)), zth_go, nat_dec, nat_pred, nat_succ, i32_clamp (n := h0) (by omega), i32_clamp (n := h0 + 1) (by omega), zov_at, zup_zov, e1]
      exact run_m xs L d I J X x cc e hx hcc h100 he hlim l (i + 1) (h0 + 1) h' _ v2 (by omega) (by omega) r
/-- what the model works out of a clause -/
theorem worked_eq (xs : Nat → Int32) (L D : Nat) (hD : 7 ≤ D) (I : Nat → Nat → Int32) (J : Nat → Nat → Int64) (X : XH) (x cc b : Nat) (l : List Int32) (hx : x < 37) (hcc : cc < 592) (h99 : (640 : Int32) * Int32.ofNat x + I 99 cc = Int32.ofNat b) (h100 : (640 : Int32) * Int32.ofNat x + I 100 cc = Int32.ofNat (b + (zmcs l).length)) (hb : b + (zmcs l).length ≤ 23680) (hl : zrow (I 101) b (zmcs l)) (hz : zrp 40 0 l 1) : ∃ f', zev xs L D 196 [.ref 61, .int (Int32.ofNat x), .int (Int32.ofNat cc)] (zmk I J X) = some (.inr (some (.int (zvl (I 102) l))), zmk (zov I 103 f') J X) := by
  obtain ⟨d, rfl⟩ := Nat.exists_eq_add_of_le hD
  rw [show 7 + d = d + 1 + 5 + 1 by omega]
  have zc : zix 0 592 0 (Int32.ofNat cc) := zix_nat rfl hcc (by omega)
  refine ⟨(zsts (I 102) l (I 103, 0)).1, ?_⟩
  refine (zcS (S196_0 xs L (d + 1) I J X _ _)).trans ?_
  rw [if_pos zc, zth_go, i32_clamp (n := cc) (by omega), h99]
  have q := run_m xs L d I J X x cc _ hx hcc h100 hb (lim := 40) (by decide) l b 0 1 (I 103) hl (Nat.le_refl _) (Nat.zero_le _) hz
  rw [zov_self] at q
  refine q.trans ?_
  rw [zgo_q, c196_e xs L (d + 1) _ J X _ _ _ _ zc (by
    rw [i32_clamp (n := cc) (by omega), zov_ne (show 100 ≠ 103 by decide), h100]
    exact (nat_le (by omega) (by omega)).mpr (Nat.le_refl _)), zov_at, zvl_eq (I 102) hz]
  rfl
