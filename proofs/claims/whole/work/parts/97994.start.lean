/-! THE PURE PART: the law's start. -/
def yi98l : List (Nat × Nat × Nat) := (0, 10, 57) :: (57, 3, 60) :: (57, 2, 59) :: (57, 1, 58) :: (0, 9, 53) :: (53, 2, 44) :: (53, 1, 49) :: (53, 0, 9) :: (53, 5, 56) :: (53, 4, 55) :: (53, 3, 54) :: (0, 8, 49) :: (49, 4, 39) :: (49, 3, 15) :: (49, 2, 26) :: (49, 1, 9) :: (49, 0, 1) :: (49, 7, 52) :: (49, 6, 51) :: (49, 5, 50) :: (0, 7, 44) :: (44, 4, 48) :: (44, 3, 47) :: (44, 2, 46) :: (44, 1, 45) :: (0, 6, 39) :: (39, 4, 43) :: (39, 3, 42) :: (39, 2, 41) :: (39, 1, 40) :: (0, 5, 35) :: (35, 14, 38) :: (35, 12, 37) :: (35, 0, 36) :: (0, 4, 26) :: (26, 3, 20) :: (26, 2, 15) :: (26, 1, 9) :: (26, 0, 1) :: (26, 12, 34) :: (26, 11, 33) :: (26, 10, 32) :: (26, 9, 31) :: (26, 8, 30) :: (26, 7, 29) :: (26, 6, 28) :: (26, 5, 27) :: (0, 3, 20) :: (20, 6, 25) :: (20, 5, 24) :: (20, 4, 23) :: (20, 3, 22) :: (20, 2, 21) :: (0, 2, 15) :: (15, 2, 19) :: (15, 1, 18) :: (15, 0, 16) :: (16, 4, 17) :: (0, 1, 9) :: (9, 7, 14) :: (9, 6, 13) :: (9, 5, 12) :: (9, 4, 11) :: (9, 3, 10) :: (0, 0, 1) :: (1, 8, 8) :: (1, 7, 7) :: (1, 6, 6) :: (1, 5, 5) :: (1, 4, 4) :: (1, 3, 3) :: (1, 2, 2) :: []
def yi0l : List (Nat × Nat × Nat) := (61, 88, 121) :: (61, 87, 120) :: (61, 86, 119) :: (61, 85, 118) :: (61, 84, 117) :: (61, 83, 116) :: (61, 82, 115) :: (61, 81, 114) :: (61, 80, 113) :: (61, 79, 112) :: (61, 78, 111) :: (61, 75, 110) :: (61, 74, 109) :: (61, 73, 108) :: (61, 72, 107) :: (61, 71, 106) :: (61, 70, 105) :: (61, 56, 104) :: (61, 53, 103) :: (61, 52, 102) :: (61, 51, 101) :: (61, 50, 100) :: (61, 49, 99) :: (61, 48, 98) :: (61, 47, 97) :: (61, 46, 96) :: (61, 45, 95) :: (61, 44, 94) :: (61, 43, 93) :: (61, 42, 92) :: (61, 41, 91) :: (61, 40, 90) :: (61, 39, 89) :: (61, 38, 88) :: (61, 37, 87) :: (61, 36, 86) :: (61, 35, 85) :: (61, 34, 84) :: (61, 33, 83) :: (61, 32, 82) :: (61, 31, 81) :: (61, 30, 80) :: (61, 29, 79) :: (61, 28, 78) :: (61, 27, 77) :: (61, 26, 76) :: (61, 25, 75) :: (61, 24, 74) :: (61, 18, 73) :: (61, 17, 72) :: (61, 16, 71) :: (61, 15, 70) :: (61, 14, 69) :: (61, 13, 68) :: (61, 12, 67) :: (61, 11, 66) :: (61, 10, 65) :: (61, 9, 64) :: (61, 8, 63) :: (61, 0, 62) :: (62, 7, 8) :: (62, 6, 7) :: (62, 5, 6) :: (62, 4, 5) :: (62, 3, 4) :: (62, 2, 3) :: (62, 1, 2) :: (62, 0, 1) :: yi98l
def yI98 : Nat → Nat → Int32 := zup (zup (zup (zup (zup (yNet (fun _ _ => 0)) 16 0 (-1)) 16 1 (-1)) 16 2 10080) 16 3 30) 0 12 (-1)
def yI0 : Nat → Nat → Int32 := zup (zup yI98 61 54 (-1)) 61 67 (-1)
def yJ0 : Nat → Nat → Int64 := fun _ _ => 0
def yX0 : XH := (yrk yi0l, ykk 123, 123, 123, 84458)
theorem yK_eq : zKw (ykk 123) = ykk 123 := by
  funext a
  show (bif Nat.ble a 122 then zK0.getD a (0, 0) else ykk 123 a) = ykk 123 a
  cases h : Nat.ble a 122 with
  | false => rfl
  | true =>
    show zK0.getD a (0, 0) = (bif Nat.ble a 122 then zK0.getD a (0, 0) else (0, 0))
    rw [h]
    rfl
theorem yrk_big {a n k : Nat} (hk : n ≤ k) : ∀ (l : List (Nat × Nat × Nat)), (∀ e, e ∈ l → e.1 = a → e.2.1 < n) → yrk l a k = none
  | [], _ => rfl
  | (b, j, v) :: l, h => by
    have ih := yrk_big hk l (fun e he => h e (List.mem_cons_of_mem _ he))
    have h0 : b = a → j < n := h (b, j, v) (List.mem_cons_self ..)
    show (if a = b then (fun k' => if k' = j then some v else yrk l a k') else yrk l a) k = none
    by_cases c : a = b
    · rw [if_pos c]
      show (if k = j then some v else yrk l a k) = none
      have := h0 c.symm
      rw [if_neg (by omega)]
      exact ih
    · rw [if_neg c]
      exact ih
theorem yR_all : ∀ a, a < 123 → ∀ k, k < (zR0.getD a []).length → a = 18 ∨ yrk yi0l a k = (zR0.getD a []).getD k none := by decide +kernel
theorem yR_sm : ∀ e, e ∈ yi0l → e.2.1 < (zR0.getD e.1 []).length := by decide +kernel
theorem getD_far {α : Type} {d : α} : ∀ (l : List α) (k : Nat), l.length ≤ k → l.getD k d = d
  | [], _, _ => rfl
  | _ :: l, 0, h => absurd h (Nat.not_succ_le_zero _)
  | _ :: l, k + 1, h => getD_far l k (Nat.le_of_succ_le_succ h)
theorem yR_eq : zRw (yrk yi0l) = yrk yi0l := by
  funext a k
  show (bif Nat.ble a 122 then (bif Nat.beq a 18 then yrk yi0l a k else (zR0.getD a []).getD k none) else yrk yi0l a k) = yrk yi0l a k
  cases h : Nat.ble a 122 with
  | false => rfl
  | true =>
    have ha : a < 123 := Nat.lt_succ_of_le (Nat.le_of_ble_eq_true h)
    cases h2 : Nat.beq a 18 with
    | true => rfl
    | false =>
      show (zR0.getD a []).getD k none = yrk yi0l a k
      by_cases c : k < (zR0.getD a []).length
      · rcases yR_all a ha k c with q | q
        · subst q
          cases h2
        · exact q.symm
      · rw [yrk_big (a := a) (Nat.le_of_not_lt c) yi0l (fun e he q => by
          have := yR_sm e he
          rw [q] at this
          exact this), getD_far _ _ (Nat.le_of_not_lt c)]
theorem yX_eq : yhp yI0 yi0l 123 123 84458 = zmk yI0 yJ0 yX0 := by
  show (yI0, yJ0, yrk yi0l, ykk 123, 123, 123, 84458) = (yI0, yJ0, zRw (yrk yi0l), zKw (ykk 123), 123, 123, 84458)
  rw [yR_eq, yK_eq]
theorem y239_s0 (xs : Nat → Int32) (L d : Nat) : zseg (zE xs L (d + 5) 239) (zC 239) 700 (zC 239 0) [(0, .float 99)] [] zh0 = zqv (zev xs L (d + 5) 98 [.ref 0] (zalloc (yhp (fun _ _ => 0) [] 0 0 0) (21, 0) 14)) (fun h => zseg (zE xs L (d + 5) 239) (zC 239) 697 (zB239_0.drop 3) [(0, .float 99)] [.ref 0] h) := by
  rfl
theorem y239_s1 (xs : Nat → Int32) (L d : Nat) (I : Nat → Nat → Int32) (l : List (Nat × Nat × Nat)) : zseg (zE xs L (d + 5) 239) (zC 239) 697 (zB239_0.drop 3) [(0, .float 99)] [.ref 0] (yhp I l 61 61 5906) = zqv (zev xs L (d + 5) 140 [.ref 61] (zalloc (yhp I l 61 61 5906) (22, 0) 89)) (fun h => zseg (zE xs L (d + 5) 239) (zC 239) 693 (zB239_0.drop 7) [(0, .float 99), (1, .ref 0)] [.ref 61] h) := by
  rfl
theorem y239_s2 (xs : Nat → Int32) (L d : Nat) (I : Nat → Nat → Int32) (l : List (Nat × Nat × Nat)) : zseg (zE xs L (d + 5) 239) (zC 239) 693 (zB239_0.drop 7) [(0, .float 99), (1, .ref 0)] [.ref 61] (yhp I l 122 122 84457) = some (.inl (2, yLO 0, zalloc (yhp I l 122 122 84457) (2, 1) 1)) := by
  rfl
theorem y239 (xs : Nat → Int32) (L : Nat) : zev xs L 61 239 [.float 99] zh0 = zgo xs L 60 239 2 (yLO 0) (zmk yI0 yJ0 yX0) := by
  refine (zcS (y239_s0 xs L 55)).trans ?_
  rw [yhp_new (n := 0) (m := 1) (c2 := 1) (s2 := 14) (kd := (21, 0)) rfl rfl rfl rfl, yi98 xs L (55 + 5) (by decide) (fun _ _ => 0), zqv_v]
  rw [y239_s1 xs L 55, yhp_new (n := 61) (m := 62) (c2 := 62) (s2 := 5995) (kd := (22, 0)) rfl rfl rfl rfl, yi140 xs L (55 + 5) (by decide), zqv_v]
  rw [y239_s2 xs L 55, yhp_new (n := 122) (m := 123) (c2 := 123) (s2 := 84458) (kd := (2, 1)) rfl rfl rfl rfl, zth_go]
  exact congrArg (zgo xs L 60 239 2 (yLO 0)) yX_eq
