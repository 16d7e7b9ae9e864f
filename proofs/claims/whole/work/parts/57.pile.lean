/-! THE PURE PART: a text's clauses as lists of steps; the class's charge goes through them. -/
def zjn (t a b : Int32) : Int32 := if t = 42 then a * b else if t = 43 then a + b else if t = 45 then a - b else if t = 47 then (if b = 0 then 0 else a / b) else if t = 60 then zbi (a < b) else if t = 61 then zbi (a = b) else if t = 304 then zbi (¬ a = 0 ∧ ¬ b = 0) else zbi (¬ a = 0 ∨ ¬ b = 0)
theorem join_eq (xs : Nat → Int32) (L D : Nat) (hD : 6 ≤ D) (I : Nat → Nat → Int32) (J : Nat → Nat → Int64) (X : XH) (t a b : Int32) : zev xs L D 80 [.int t, .int a, .int b] (zmk I J X) = some (.inr (some (.int (zjn t a b))), zmk I J X) := by
  obtain ⟨d, rfl⟩ := Nat.exists_eq_add_of_le hD
  rw [Nat.add_comm 6 d]
  refine (zcS (S80_0 xs L d I J X _ _ _)).trans ?_
  unfold zjn
  by_cases c1 : t = 42
  · rw [if_pos c1, if_pos c1]
    rfl
  rw [if_neg c1, if_neg c1]
  by_cases c2 : t = 43
  · rw [if_pos c2, if_pos c2]
    rfl
  rw [if_neg c2, if_neg c2]
  by_cases c3 : t = 45
  · rw [if_pos c3, if_pos c3]
    rfl
  rw [if_neg c3, if_neg c3]
  by_cases c4 : t = 47
  · rw [if_pos c4, if_pos c4]
    by_cases e : b = 0
    · rw [if_neg (fun z => (of_decide_eq_true z) e), if_pos e]
      rfl
    · rw [if_pos (decide_eq_true (show ¬ b = 0 from e)), if_neg e, if_neg e]
      rfl
  rw [if_neg c4, if_neg c4]
  by_cases c5 : t = 60
  · rw [if_pos c5, if_pos c5]
    by_cases e : a < b
    · rw [if_neg (fun z => by
        have z := i32_le.mp (of_decide_eq_true z)
        have e := i32_lt.mp e
        omega), zbi_t e]
      rfl
    · rw [if_pos (decide_eq_true (i32_le.mpr (by
        have : ¬ a.toInt < b.toInt := fun z => e (i32_lt.mpr z)
        omega))), zbi_f e]
      rfl
  rw [if_neg c5, if_neg c5]
  by_cases c6 : t = 61
  · rw [if_pos c6, if_pos c6]
    by_cases e : a = b
    · rw [if_neg (fun z => (of_decide_eq_true z) e), zbi_t e]
      rfl
    · rw [if_pos (decide_eq_true (show ¬ a = b from e)), zbi_f e]
      rfl
  rw [if_neg c6, if_neg c6]
  by_cases c7 : t = 304
  · rw [if_pos c7, if_pos c7]
    by_cases e : a = 0
    · rw [if_pos (decide_eq_true e), zbi_f (fun z => z.1 e)]
      rfl
    · rw [if_neg (fun z => e (of_decide_eq_true z))]
      by_cases e2 : b = 0
      · rw [if_pos (decide_eq_true e2), zbi_f (fun z => z.2 e2)]
        rfl
      · rw [if_neg (fun z => e2 (of_decide_eq_true z)), zbi_t ⟨e, e2⟩]
        rfl
  rw [if_neg c7, if_neg c7]
  by_cases e : a = 0
  · rw [if_neg (fun z => (of_decide_eq_true z) e)]
    by_cases e2 : b = 0
    · rw [if_pos (decide_eq_true e2), zbi_f (fun z => z.elim (fun w => w e) (fun w => w e2))]
      rfl
    · rw [if_neg (fun z => e2 (of_decide_eq_true z)), zbi_t (Or.inr e2)]
      rfl
  · rw [if_pos (decide_eq_true (show ¬ a = 0 from e)), zbi_t (Or.inl e)]
    rfl
abbrev c79L (t : Nat) (a3 hi to i : Int32) : LV := [(0, .ref t), (1, .ref 51), (2, .ref 52), (3, .int a3), (4, .int hi), (5, .int to), (6, .int i)]
theorem c79_e (xs : Nat → Int32) (L d : Nat) (I : Nat → Nat → Int32) (J : Nat → Nat → Int64) (X : XH) (t u n : Nat) (a3 hi to i : Int32) (hk : hK (zmk I J X) t = (18, 0)) (hr : hR (zmk I J X) t 4 = some u) (hu : hK (zmk I J X) u = (0, n)) (hin : Int32.ofNat n ≤ i) : zseg (zE xs L (d + 5) 79) (zC 79) 700 (zC 79 2) (c79L t a3 hi to i) [] (zmk I J X) = some (.inr (.inr (some (.int to)), zmk I J X)) := by
  refine (if_pos hk).trans ?_
  show zseg (zE xs L (d + 5) 79) (zC 79) 697 (zB79_2.drop 3) (c79L t a3 hi to i) [zrf (hR (zmk I J X) t 4), .int i] (zmk I J X) = _
  rw [hr]
  refine (if_pos (show (hK (zmk I J X) u).1 ≤ 4 by rw [hu]; exact Nat.zero_le _)).trans ?_
  refine (zb_pos (p := Int32.ofNat (hK (zmk I J X) u).2 ≤ i) (by rw [hu]; exact hin)).trans ?_
  rfl
theorem c79_s (xs : Nat → Int32) (L d : Nat) (I : Nat → Nat → Int32) (J : Nat → Nat → Int64) (X : XH) (t u n i : Nat) (a3 hi to : Int32) (hk : hK (zmk I J X) t = (18, 0)) (hr : hR (zmk I J X) t 4 = some u) (hu : hK (zmk I J X) u = (0, n)) (hin : i < n) (hn : n < 2147483648) : zseg (zE xs L (d + 5) 79) (zC 79) 700 (zC 79 2) (c79L t a3 hi to (Int32.ofNat i)) [] (zmk I J X) = zseg (zE xs L (d + 5) 79) (zC 79) 689 (zB79_2.drop 11) ((7, .int (-(I u i))) :: c79L t a3 hi to (Int32.ofNat i)) [] (zmk I J X) := by
  refine (if_pos hk).trans ?_
  show zseg (zE xs L (d + 5) 79) (zC 79) 697 (zB79_2.drop 3) (c79L t a3 hi to (Int32.ofNat i)) [zrf (hR (zmk I J X) t 4), .int (Int32.ofNat i)] (zmk I J X) = _
  rw [hr]
  refine (if_pos (show (hK (zmk I J X) u).1 ≤ 4 by rw [hu]; exact Nat.zero_le _)).trans ?_
  refine (zb_neg (p := Int32.ofNat (hK (zmk I J X) u).2 ≤ Int32.ofNat i) (by
    rw [hu]
    intro z
    have z : n ≤ i := (nat_le hn (by omega)).mp z
    omega)).trans ?_
  refine (if_pos hk).trans ?_
  show zseg (zE xs L (d + 5) 79) (zC 79) 693 (zB79_2.drop 7) (c79L t a3 hi to (Int32.ofNat i)) [zrf (hR (zmk I J X) t 4)] (zmk I J X) = _
  rw [hr]
  refine (if_pos (show zin (zmk I J X) u 0 (Int32.ofNat i) from ?_)).trans ?_
  · show (hK (zmk I J X) u).1 = 0 ∧ ¬ (Int32.ofNat i < 0 ∨ (hK (zmk I J X) u).2 ≤ (Int32.ofNat i).toNatClampNeg)
    rw [hu]
    exact zix_nat (t := 0) (tag := 0) rfl hin (by omega)
  · show zseg (zE xs L (d + 5) 79) (zC 79) 690 (zB79_2.drop 10) (c79L t a3 hi to (Int32.ofNat i)) [.int (-(I u (Int32.ofNat i).toNatClampNeg))] (zmk I J X) = _
    rw [i32_clamp (by omega)]
    rfl
theorem c79_num (xs : Nat → Int32) (L d : Nat) (I : Nat → Nat → Int32) (J : Nat → Nat → Int64) (X : XH) (t : Nat) (a3 hi to i w : Int32) (h : w ≤ 0) : zseg (zE xs L (d + 5) 79) (zC 79) 689 (zB79_2.drop 11) ((7, .int w) :: c79L t a3 hi to i) [] (zmk I J X) = some (.inl (2, c79L t a3 (hi + 1) to (i + 1), zmk (zput I 52 400 hi (-w)) J X)) := by
  refine (zb_pos (p := w ≤ 0) h).trans ?_
  refine (zb_neg (p := 0 < w) (fun z => by
    have h := i32_le.mp h
    have z := i32_lt.mp z
    omega)).trans ?_
  rfl
theorem c79_val (xs : Nat → Int32) (L d : Nat) (I : Nat → Nat → Int32) (J : Nat → Nat → Int64) (X : XH) (t : Nat) (a3 hi to i w : Int32) (h : 307 ≤ w.toInt) : zseg (zE xs L (d + 5) 79) (zC 79) 689 (zB79_2.drop 11) ((7, .int w) :: c79L t a3 hi to i) [] (zmk I J X) = some (.inl (2, c79L t a3 (hi + 1) to (i + 1), zmk (zput I 52 400 hi (zat I 51 8 (w - 307))) J X)) := by
  refine (zb_neg (p := w ≤ 0) (fun z => by
    have z := i32_le.mp z
    rw [i32_0] at z
    omega)).trans ?_
  refine (zb_neg (p := w < 307) (fun z => by
    have z := i32_lt.mp z
    have e : (307 : Int32).toInt = 307 := by decide
    omega)).trans ?_
  refine (zb_pos (p := 0 < w) (i32_lt.mpr (by rw [i32_0]; omega))).trans ?_
  rfl
theorem c79_5 (xs : Nat → Int32) (L d : Nat) (I : Nat → Nat → Int32) (J : Nat → Nat → Int64) (X : XH) (t : Nat) (a3 hi to i w : Int32) (h0 : 0 < w.toInt) (h : w.toInt < 307) : zseg (zE xs L (d + 5) 79) (zC 79) 689 (zB79_2.drop 11) ((7, .int w) :: c79L t a3 hi to i) [] (zmk I J X) = zseg (zE xs L (d + 5) 79) (zC 79) 684 zB79_5 ((7, .int w) :: c79L t a3 hi to i) [] (zmk I J X) := by
  refine (zb_neg (p := w ≤ 0) (fun z => by
    have z := i32_le.mp z
    rw [i32_0] at z
    omega)).trans ?_
  refine (zb_pos (p := w < 307) (i32_lt.mpr (by
    have e : (307 : Int32).toInt = 307 := by decide
    omega))).trans ?_
  rfl
theorem c79_not_w (xs : Nat → Int32) (L d : Nat) (I : Nat → Nat → Int32) (J : Nat → Nat → Int64) (X : XH) (t : Nat) (a3 hi to i w : Int32) (hw : w = 306) : zseg (zE xs L (d + 5) 79) (zC 79) 684 zB79_5 ((7, .int w) :: c79L t a3 hi to i) [] (zmk I J X) = some (.inl (2, c79L t a3 hi to (i + 1), zmk (zput I 52 400 (hi - 1) (zbi (zat I 52 400 (hi - 1) = 0))) J X)) := by
  refine (zb_neg (p := ¬ w = 306) (fun z => z hw)).trans ?_
  by_cases c : zat I 52 400 (hi - 1) = 0
  · refine (zb_neg (p := ¬ zat I 52 400 (hi - 1) = 0) (fun z => z c)).trans ?_
    rw [zbi_t c]
    rfl
  · refine (zb_pos (p := ¬ zat I 52 400 (hi - 1) = 0) c).trans ?_
    rw [zbi_f c]
    rfl
theorem c79_not (xs : Nat → Int32) (L d : Nat) (I : Nat → Nat → Int32) (J : Nat → Nat → Int64) (X : XH) (t : Nat) (a3 hi to i : Int32) : zseg (zE xs L (d + 5) 79) (zC 79) 684 zB79_5 ((7, .int 306) :: c79L t a3 hi to i) [] (zmk I J X) = some (.inl (2, c79L t a3 hi to (i + 1), zmk (zput I 52 400 (hi - 1) (zbi (zat I 52 400 (hi - 1) = 0))) J X)) := c79_not_w xs L d I J X t a3 hi to i 306 rfl
theorem c79_toll_w (xs : Nat → Int32) (L d : Nat) (I : Nat → Nat → Int32) (J : Nat → Nat → Int64) (X : XH) (t : Nat) (a3 hi to i w : Int32) (hw : w = 300) : zseg (zE xs L (d + 5) 79) (zC 79) 684 zB79_5 ((7, .int w) :: c79L t a3 hi to i) [] (zmk I J X) = some (.inl (2, c79L t a3 (hi + (-1)) (zmx 0 (zmn 99999 (zat I 52 400 (hi + (-1))))) (i + 1), zmk I J X)) := by
  refine (zb_pos (p := ¬ w = 306) (by rw [hw]; decide)).trans ?_
  refine (zb_neg (p := ¬ w = 300) (fun z => z hw)).trans ?_
  rfl
theorem c79_toll (xs : Nat → Int32) (L d : Nat) (I : Nat → Nat → Int32) (J : Nat → Nat → Int64) (X : XH) (t : Nat) (a3 hi to i : Int32) : zseg (zE xs L (d + 5) 79) (zC 79) 684 zB79_5 ((7, .int 300) :: c79L t a3 hi to i) [] (zmk I J X) = some (.inl (2, c79L t a3 (hi + (-1)) (zmx 0 (zmn 99999 (zat I 52 400 (hi + (-1))))) (i + 1), zmk I J X)) := c79_toll_w xs L d I J X t a3 hi to i 300 rfl
theorem c79_f (xs : Nat → Int32) (L d : Nat) (I : Nat → Nat → Int32) (J : Nat → Nat → Int64) (X : XH) (t : Nat) (a3 hi to i w z : Int32) : zseg (zE xs L (d + 5) 79) (zC 79) 675 [(149, 11, 4, 0, 0, z), (152, 7, 2, 1, 0, 0), (153, 5, 4, 0, 0, 0), (155, 105, 107, 2, 2899, 4), (158, 42, 11, 0, 0, 0), (161, 1, 0, 0, 0, 0), (162, 99, 0, 0, 0, 0)] ((7, .int w) :: c79L t a3 hi to i) [] (zmk I J X) = if decide (zat I 52 400 (hi + z) = 0) = true then some (.inl (2, c79L t a3 (hi + z) to (i + 1), zmk I J X)) else some (.inr (.inr (some (.int 0)), zmk I J X)) := by
  refine zite_congr ?_ ?_
  · rfl
  · rfl
theorem c79_free_w (xs : Nat → Int32) (L d : Nat) (I : Nat → Nat → Int32) (J : Nat → Nat → Int64) (X : XH) (t : Nat) (a3 hi to i w : Int32) (hw : w = 301) : zseg (zE xs L (d + 5) 79) (zC 79) 684 zB79_5 ((7, .int w) :: c79L t a3 hi to i) [] (zmk I J X) = if zat I 52 400 (hi + (-1)) = 0 then some (.inl (2, c79L t a3 (hi + (-1)) to (i + 1), zmk I J X)) else some (.inr (.inr (some (.int 0)), zmk I J X)) := by
  refine (zb_pos (p := ¬ w = 306) (by rw [hw]; decide)).trans ?_
  refine (zb_pos (p := ¬ w = 300) (by rw [hw]; decide)).trans ?_
  refine (zb_neg (p := ¬ w = 301) (fun z => z hw)).trans ?_
  refine (c79_f xs L d I J X t a3 hi to i w (-1)).trans ?_
  by_cases c : zat I 52 400 (hi + (-1)) = 0
  · rw [if_pos c, if_pos (decide_eq_true c)]
  · rw [if_neg c, if_neg (fun z => c (of_decide_eq_true z))]
theorem c79_free (xs : Nat → Int32) (L d : Nat) (I : Nat → Nat → Int32) (J : Nat → Nat → Int64) (X : XH) (t : Nat) (a3 hi to i : Int32) : zseg (zE xs L (d + 5) 79) (zC 79) 684 zB79_5 ((7, .int 301) :: c79L t a3 hi to i) [] (zmk I J X) = if zat I 52 400 (hi + (-1)) = 0 then some (.inl (2, c79L t a3 (hi + (-1)) to (i + 1), zmk I J X)) else some (.inr (.inr (some (.int 0)), zmk I J X)) := c79_free_w xs L d I J X t a3 hi to i 301 rfl
theorem c79_bin (xs : Nat → Int32) (L d : Nat) (I : Nat → Nat → Int32) (J : Nat → Nat → Int64) (X : XH) (t : Nat) (a3 hi to i w : Int32) (h1 : ¬ w = 306) (h2 : ¬ w = 300) (h3 : ¬ w = 301) : zseg (zE xs L (d + 1 + 5) 79) (zC 79) 684 zB79_5 ((7, .int w) :: c79L t a3 hi to i) [] (zmk I J X) = some (.inl (2, c79L t a3 (hi + (-1)) to (i + 1), zmk (zput I 52 400 (hi + (-1) - 1) (zjn w (zat I 52 400 (hi + (-1) - 1)) (zat I 52 400 (hi + (-1))))) J X)) := by
  refine (zb_pos (p := ¬ w = 306) h1).trans ?_
  refine (zb_pos (p := ¬ w = 300) h2).trans ?_
  refine (zb_pos (p := ¬ w = 301) h3).trans ?_
  show zqi (zev xs L (d + 1 + 5) 80 [.int w, .int (zat I 52 400 (hi + (-1) - 1)), .int (zat I 52 400 (hi + (-1)))] (zmk I J X)) (fun r h => zseg (zE xs L (d + 1 + 5) 79) (zC 79) 660 (zB79_13.drop 15) [(4, .int (hi + (-1))), (7, .int w), (0, .ref t), (1, .ref 51), (2, .ref 52), (3, .int a3), (5, .int to), (6, .int i)] [.int r, .int (hi + (-1) - 1), .ref 52] h) = _
  rw [join_eq xs L _ (by omega), zqi_i]
  rfl
