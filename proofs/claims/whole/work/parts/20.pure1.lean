/-! THE PURE PART, 1: how a method is run. -/
/-- a method whose first stretch comes to its end -/
theorem zev_ret {xs : Nat → Int32} {L d m : Nat} {as : List Value} {h h' : AH} {r : Ret} (hl : (as.map fun v => v.category).sum ≤ zML m) (hs9 : zseg (zev xs L d, zH m, xs, L) (zC m) zfuel (zC m 0) (lv_args 0 as) [] h = some (.inr (r, h'))) : zev xs L (d + 1) m as h = some (r, h') := by
  unfold zev
  rw [if_pos hl, zlim_eq, hs9]
/-- a method whose first stretch comes to a loop's head -/
theorem zev_cut {xs : Nat → Int32} {L d m b : Nat} {as : List Value} {h h1 : AH} {lo : LV} {q : Option (Ret × AH)} (hl : (as.map fun v => v.category).sum ≤ zML m) (hs9 : zseg (zev xs L d, zH m, xs, L) (zC m) zfuel (zC m 0) (lv_args 0 as) [] h = some (.inl (b, lo, h1))) (hk : zlim (zev xs L d, zH m, xs, L) (zC m) b lo h1 = q) : zev xs L (d + 1) m as h = q := by
  unfold zev
  rw [if_pos hl, zlim_eq, hs9]
  exact hk
theorem zmin_eq (xs : Nat → Int32) (L d : Nat) (a b : Int32) (h : AH) : zev xs L (d + 1) 236 [.int a, .int b] h = some (.inr (some (.int (if a ≤ b then a else b))), h) := by
  by_cases c : a > b
  · have e : (if a ≤ b then a else b) = b := if_neg (fun q => by
      have h1 := Int32.le_iff_toInt_le.mp q
      have h2 := Int32.lt_iff_toInt_lt.mp c
      omega)
    rw [e]
    refine zev_ret (Nat.le_of_ble_eq_true rfl) ?_
    show (if _ then _ else _) = _
    rw [if_pos (decide_eq_true (p := b < a) c)]
    rfl
  · have e : (if a ≤ b then a else b) = a := if_pos (by
      apply Int32.le_iff_toInt_le.mpr
      have h2 : ¬ b.toInt < a.toInt := fun q => c (Int32.lt_iff_toInt_lt.mpr q)
      omega)
    rw [e]
    refine zev_ret (Nat.le_of_ble_eq_true rfl) ?_
    show (if _ then _ else _) = _
    rw [if_neg (fun q => c (of_decide_eq_true (p := b < a) q))]
    rfl
theorem zmax_eq (xs : Nat → Int32) (L d : Nat) (a b : Int32) (h : AH) : zev xs L (d + 1) 237 [.int a, .int b] h = some (.inr (some (.int (if b ≤ a then a else b))), h) := by
  by_cases c : a < b
  · have e : (if b ≤ a then a else b) = b := if_neg (fun q => by
      have h1 := Int32.le_iff_toInt_le.mp q
      have h2 := Int32.lt_iff_toInt_lt.mp c
      omega)
    rw [e]
    refine zev_ret (Nat.le_of_ble_eq_true rfl) ?_
    show (if _ then _ else _) = _
    rw [if_pos (decide_eq_true (p := a < b) c)]
    rfl
  · have e : (if b ≤ a then a else b) = a := if_pos (by
      apply Int32.le_iff_toInt_le.mpr
      have h2 : ¬ a.toInt < b.toInt := fun q => c (Int32.lt_iff_toInt_lt.mpr q)
      omega)
    rw [e]
    refine zev_ret (Nat.le_of_ble_eq_true rfl) ?_
    show (if _ then _ else _) = _
    rw [if_neg (fun q => c (of_decide_eq_true (p := a < b) q))]
    rfl
/-- a row of ints filled from place i to place n -/
def zfil (h : AH) (a : Nat) (v : Int32) (i n : Nat) : AH := ((fun a' => if a' = a then (fun k => if i ≤ k ∧ k < n then v else h.1 a k) else h.1 a'), h.2)
theorem fill_step (E : Evn) (a : Nat) (v i n : Int32) (h : AH) : zseg E (zC 233) zfuel (zC 233 2) [(0, .ref a), (1, .int v), (2, .int i), (3, .int n)] [] h = if decide (n ≤ i) = true then some (.inr (.inr none, h)) else if zin h a 0 i then some (.inl (2, [(0, .ref a), (1, .int v), (2, .int (i + 1)), (3, .int n)], setI h a i.toNatClampNeg v)) else none := by
  show (if _ then _ else _) = _
  by_cases c : n ≤ i
  · rw [if_pos (decide_eq_true (p := n ≤ i) c), if_pos (decide_eq_true (p := n ≤ i) c)]
    rfl
  · rw [if_neg (fun q => c (of_decide_eq_true (p := n ≤ i) q)), if_neg (fun q => c (of_decide_eq_true (p := n ≤ i) q))]
    rfl
theorem zfil_hK {h : AH} {a : Nat} {v : Int32} {i n : Nat} : hK (zfil h a v i n) = hK h := rfl
theorem zfil_step {h : AH} {a i n : Nat} {v : Int32} (hi : i < n) : zfil (setI h a i v) a v (i + 1) n = zfil h a v i n := by
  unfold zfil setI zup
  refine Prod.ext (funext fun a' => ?_) rfl
  show (if a' = a then _ else _) = (if a' = a then _ else _)
  by_cases e : a' = a
  · rw [if_pos e, if_pos e]
    funext k
    simp only [if_true]
    by_cases hk : k = i
    · subst hk
      rw [if_neg (by omega), if_pos rfl, if_pos (by omega)]
    · by_cases h1 : i + 1 ≤ k ∧ k < n
      · rw [if_pos h1, if_pos (by omega)]
      · rw [if_neg h1, if_neg hk, if_neg (by omega)]
  · rw [if_neg e, if_neg e]
    show (if a' = a then _ else _) = _
    rw [if_neg e]
theorem i32_toInt {n : Nat} (h : n < 2147483648) : (Int32.ofNat n).toInt = n := by
  first | exact Int32.toInt_ofNat_of_lt h | exact Int32.toInt_ofNat_small h
theorem i32_clamp {n : Nat} (h : n < 2147483648) : (Int32.ofNat n).toNatClampNeg = n := by
  show (Int32.ofNat n).toInt.toNat = n
  rw [i32_toInt h]
  exact Int.toNat_natCast n
theorem fill_loop (E : Evn) (a : Nat) (v : Int32) (n : Nat) (hn : n < 2147483648) : ∀ (k i : Nat) (h : AH), i + k = n → hK h a = (0, n) → zlim E (zC 233) 2 [(0, .ref a), (1, .int v), (2, .int (Int32.ofNat i)), (3, .int (Int32.ofNat n))] h = some (.inr none, zfil h a v i n)
  | 0, i, h, hi, hk => by
    have hi : i = n := hi
    subst hi
    rw [zlim_eq, fill_step, if_pos (decide_eq_true (Int32.le_iff_toInt_le.mpr (Int.le_refl _)))]
    show some (Sum.inr none, h) = _
    have e : zfil h a v i i = h := by
      unfold zfil
      refine Prod.ext (funext fun a' => ?_) rfl
      show (if a' = a then _ else _) = _
      by_cases e : a' = a
      · rw [if_pos e, e]
        funext k
        exact if_neg (by omega)
      · rw [if_neg e]
    rw [e]
  | k + 1, i, h, hi, hk => by
    have e1 := i32_toInt (n := i) (by omega)
    have e2 := i32_toInt hn
    have e3 := i32_clamp (n := i) (by omega)
    have c : ¬ Int32.ofNat n ≤ Int32.ofNat i := fun q => by
      have q := Int32.le_iff_toInt_le.mp q
      omega
    have z : zin h a 0 (Int32.ofNat i) := by
      refine ⟨by rw [hk], fun q => ?_⟩
      rcases q with q | q
      · have q := Int32.lt_iff_toInt_lt.mp q
        have : (0 : Int32).toInt = 0 := by decide
        omega
      · rw [hk, e3] at q
        have q : n ≤ i := q
        omega
    rw [zlim_eq, fill_step, if_neg (fun q => c (of_decide_eq_true q)), if_pos z, e3]
    show zlim E (zC 233) 2 [(0, .ref a), (1, .int v), (2, .int (Int32.ofNat i + 1)), (3, .int (Int32.ofNat n))] (setI h a i v) = _
    have e4 : Int32.ofNat i + 1 = Int32.ofNat (i + 1) := by rw [Int32.ofNat_add]; rfl
    rw [e4, fill_loop E a v n hn k (i + 1) (setI h a i v) (by omega) hk, zfil_step (by omega)]
theorem fill_eq (xs : Nat → Int32) (L d a n : Nat) (v : Int32) (h : AH) (hn : n < 2147483648) (hk : hK h a = (0, n)) : zev xs L (d + 1) 233 [.ref a, .int v] h = some (.inr none, zfil h a v 0 n) := by
  refine zev_cut (b := 2) (lo := [(0, .ref a), (1, .int v), (2, .int (Int32.ofNat 0)), (3, .int (Int32.ofNat n))]) (h1 := h) (Nat.le_of_ble_eq_true rfl) ?_ (fill_loop _ a v n hn n 0 h (by omega) hk)
  show (if (hK h a).1 ≤ 4 then _ else _) = _
  rw [hk]
  rfl
/-- a row of longs filled from place i to place n -/
def zlfil (h : AH) (a : Nat) (v : Int64) (i n : Nat) : AH := (h.1, (fun a' => if a' = a then (fun k => if i ≤ k ∧ k < n then v else h.2.1 a k) else h.2.1 a'), h.2.2)
theorem lfill_step (E : Evn) (a : Nat) (v : Int64) (i n : Int32) (h : AH) : zseg E (zC 235) zfuel (zC 235 2) [(0, .ref a), (1, .long v), (3, .int i), (4, .int n)] [] h = if decide (n ≤ i) = true then some (.inr (.inr none, h)) else if zin h a 2 i then some (.inl (2, [(0, .ref a), (1, .long v), (3, .int (i + 1)), (4, .int n)], setL h a i.toNatClampNeg v)) else none := by
  show (if _ then _ else _) = _
  by_cases c : n ≤ i
  · rw [if_pos (decide_eq_true (p := n ≤ i) c), if_pos (decide_eq_true (p := n ≤ i) c)]
    rfl
  · rw [if_neg (fun q => c (of_decide_eq_true (p := n ≤ i) q)), if_neg (fun q => c (of_decide_eq_true (p := n ≤ i) q))]
    rfl
theorem zlfil_step {h : AH} {a i n : Nat} {v : Int64} (hi : i < n) : zlfil (setL h a i v) a v (i + 1) n = zlfil h a v i n := by
  unfold zlfil setL zup
  refine Prod.ext rfl (Prod.ext (funext fun a' => ?_) rfl)
  show (if a' = a then _ else _) = (if a' = a then _ else _)
  by_cases e : a' = a
  · rw [if_pos e, if_pos e]
    funext k
    simp only [if_true]
    by_cases hk : k = i
    · subst hk
      rw [if_neg (by omega), if_pos rfl, if_pos (by omega)]
    · by_cases h1 : i + 1 ≤ k ∧ k < n
      · rw [if_pos h1, if_pos (by omega)]
      · rw [if_neg h1, if_neg hk, if_neg (by omega)]
  · rw [if_neg e, if_neg e]
    show (if a' = a then _ else _) = _
    rw [if_neg e]
theorem lfill_loop (E : Evn) (a : Nat) (v : Int64) (n : Nat) (hn : n < 2147483648) : ∀ (k i : Nat) (h : AH), i + k = n → hK h a = (2, n) → zlim E (zC 235) 2 [(0, .ref a), (1, .long v), (3, .int (Int32.ofNat i)), (4, .int (Int32.ofNat n))] h = some (.inr none, zlfil h a v i n)
  | 0, i, h, hi, hk => by
    have hi : i = n := hi
    subst hi
    rw [zlim_eq, lfill_step, if_pos (decide_eq_true (Int32.le_iff_toInt_le.mpr (Int.le_refl _)))]
    show some (Sum.inr none, h) = _
    have e : zlfil h a v i i = h := by
      unfold zlfil
      refine Prod.ext rfl (Prod.ext (funext fun a' => ?_) rfl)
      show (if a' = a then _ else _) = _
      by_cases e : a' = a
      · rw [if_pos e, e]
        funext k
        exact if_neg (by omega)
      · rw [if_neg e]
    rw [e]
  | k + 1, i, h, hi, hk => by
    have e1 := i32_toInt (n := i) (by omega)
    have e2 := i32_toInt hn
    have e3 := i32_clamp (n := i) (by omega)
    have c : ¬ Int32.ofNat n ≤ Int32.ofNat i := fun q => by
      have q := Int32.le_iff_toInt_le.mp q
      omega
    have z : zin h a 2 (Int32.ofNat i) := by
      refine ⟨by rw [hk], fun q => ?_⟩
      rcases q with q | q
      · have q := Int32.lt_iff_toInt_lt.mp q
        have : (0 : Int32).toInt = 0 := by decide
        omega
      · rw [hk, e3] at q
        have q : n ≤ i := q
        omega
    rw [zlim_eq, lfill_step, if_neg (fun q => c (of_decide_eq_true q)), if_pos z, e3]
    show zlim E (zC 235) 2 [(0, .ref a), (1, .long v), (3, .int (Int32.ofNat i + 1)), (4, .int (Int32.ofNat n))] (setL h a i v) = _
    have e4 : Int32.ofNat i + 1 = Int32.ofNat (i + 1) := by rw [Int32.ofNat_add]; rfl
    rw [e4, lfill_loop E a v n hn k (i + 1) (setL h a i v) (by omega) hk, zlfil_step (by omega)]
theorem lfill_eq (xs : Nat → Int32) (L d a n : Nat) (v : Int64) (h : AH) (hn : n < 2147483648) (hk : hK h a = (2, n)) : zev xs L (d + 1) 235 [.ref a, .long v] h = some (.inr none, zlfil h a v 0 n) := by
  refine zev_cut (b := 2) (lo := [(0, .ref a), (1, .long v), (3, .int (Int32.ofNat 0)), (4, .int (Int32.ofNat n))]) (h1 := h) (Nat.le_of_ble_eq_true rfl) ?_ (lfill_loop _ a v n hn n 0 h (by omega) hk)
  show (if (hK h a).1 ≤ 4 then _ else _) = _
  rw [hk]
  rfl
