/-! THE PURE PART, 1: how a method is run. -/
/-- a method whose first stretch comes to its end -/
theorem zev_ret {xs : Nat → Int32} {L d m : Nat} {as : List Value} {h h' : AH} {r : Ret} (hl : (as.map fun v => v.category).sum ≤ zML m) (hs9 : zseg (zev xs L d, zH m, xs, L) (zC m) zfuel (zC m 0) (lv_args 0 as) [] h = some (.inr (r, h'))) : zev xs L (d + 1) m as h = some (r, h') := by
  unfold zev
  rw [if_pos hl, zlim_eq, hs9]
/-- a method whose first stretch comes to a loop's head -/
theorem zev_cut {xs : Nat → Int32} {L d m b : Nat} {as : List Value} {h h1 : AH} {lo : LV} {q : Option (Ret × AH)} (hl : (as.map fun v => v.category).sum ≤ zML m) (hs9 : zseg (zev xs L d, zH m, xs, L) (zC m) zfuel (zC m 0) (lv_args 0 as) [] h = some (.inl (b, lo, h1))) (hk : zlim (zev xs L d, zH m, xs, L) (zC m) b lo h1 = q) : zev xs L (d + 1) m as h = q := by
  unfold zev
  rw [if_pos hl, zlim_eq, hs9]
  exact hk
theorem zmin_eq (xs : Nat → Int32) (L d : Nat) (a b : Int32) (h : AH) : zev xs L (d + 1) 236 [.int a, .int b] h = some (.inr (some (.int (if a ≤ b then a else b))), h) := by
  by_cases c : a > b
  · have e : (if a ≤ b then a else b) = b := if_neg (fun q => by
      have h1 := Int32.le_iff_toInt_le.mp q
      have h2 := Int32.lt_iff_toInt_lt.mp c
      omega)
    rw [e]
    refine zev_ret (Nat.le_of_ble_eq_true rfl) ?_
    show (if _ then _ else _) = _
    rw [if_pos (decide_eq_true (p := b < a) c)]
    rfl
  · have e : (if a ≤ b then a else b) = a := if_pos (by
      apply Int32.le_iff_toInt_le.mpr
      have h2 : ¬ b.toInt < a.toInt := fun q => c (Int32.lt_iff_toInt_lt.mpr q)
      omega)
    rw [e]
    refine zev_ret (Nat.le_of_ble_eq_true rfl) ?_
    show (if _ then _ else _) = _
    rw [if_neg (fun q => c (of_decide_eq_true (p := b < a) q))]
    rfl
theorem zmax_eq (xs : Nat → Int32) (L d : Nat) (a b : Int32) (h : AH) : zev xs L (d + 1) 237 [.int a, .int b] h = some (.inr (some (.int (if b ≤ a then a else b))), h) := by
  by_cases c : a < b
  · have e : (if b ≤ a then a else b) = b := if_neg (fun q => by
      have h1 := Int32.le_iff_toInt_le.mp q
      have h2 := Int32.lt_iff_toInt_lt.mp c
      omega)
    rw [e]
    refine zev_ret (Nat.le_of_ble_eq_true rfl) ?_
    show (if _ then _ else _) = _
    rw [if_pos (decide_eq_true (p := a < b) c)]
    rfl
  · have e : (if b ≤ a then a else b) = a := if_pos (by
      apply Int32.le_iff_toInt_le.mpr
      have h2 : ¬ a.toInt < b.toInt := fun q => c (Int32.lt_iff_toInt_lt.mpr q)
      omega)
    rw [e]
    refine zev_ret (Nat.le_of_ble_eq_true rfl) ?_
    show (if _ then _ else _) = _
    rw [if_neg (fun q => c (of_decide_eq_true (p := a < b) q))]
    rfl
