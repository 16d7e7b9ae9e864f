/-! THE PURE PART: numbers and rows. -/
theorem i32_add {x y : Int32} (h1 : -2147483648 ≤ x.toInt + y.toInt) (h2 : x.toInt + y.toInt ≤ 2147483647) : (x + y).toInt = x.toInt + y.toInt := by
  rw [Int32.toInt_add]
  exact Int.bmod_eq_of_le (by omega) (by omega)
theorem i32_sub {x y : Int32} (h1 : -2147483648 ≤ x.toInt - y.toInt) (h2 : x.toInt - y.toInt ≤ 2147483647) : (x - y).toInt = x.toInt - y.toInt := by
  rw [Int32.toInt_sub]
  exact Int.bmod_eq_of_le (by omega) (by omega)
theorem i32_mul {x y : Int32} (h1 : -2147483648 ≤ x.toInt * y.toInt) (h2 : x.toInt * y.toInt ≤ 2147483647) : (x * y).toInt = x.toInt * y.toInt := by
  rw [Int32.toInt_mul]
  exact Int.bmod_eq_of_le (by omega) (by omega)
theorem i32_le {x y : Int32} : x ≤ y ↔ x.toInt ≤ y.toInt := Int32.le_iff_toInt_le
theorem i32_lt {x y : Int32} : x < y ↔ x.toInt < y.toInt := Int32.lt_iff_toInt_lt
theorem i32_eq {x y : Int32} : x = y ↔ x.toInt = y.toInt := Int32.toInt_inj.symm
theorem i32_hi (x : Int32) : x.toInt ≤ 2147483647 := by
  have := Int32.toInt_lt x
  omega
theorem i32_lo (x : Int32) : -2147483648 ≤ x.toInt := by
  have := Int32.le_toInt x
  omega
theorem nat_le {a b : Nat} (ha : a < 2147483648) (hb : b < 2147483648) : Int32.ofNat a ≤ Int32.ofNat b ↔ a ≤ b := by
  rw [i32_le, i32_toInt ha, i32_toInt hb]
  omega
theorem nat_lt {a b : Nat} (ha : a < 2147483648) (hb : b < 2147483648) : Int32.ofNat a < Int32.ofNat b ↔ a < b := by
  rw [i32_lt, i32_toInt ha, i32_toInt hb]
  omega
theorem nat_eq {a b : Nat} (ha : a < 2147483648) (hb : b < 2147483648) : Int32.ofNat a = Int32.ofNat b ↔ a = b := by
  rw [i32_eq, i32_toInt ha, i32_toInt hb]
  omega
theorem nat_add (a b : Nat) : Int32.ofNat a + Int32.ofNat b = Int32.ofNat (a + b) := (Int32.ofNat_add a b).symm
theorem nat_mul (a b : Nat) : Int32.ofNat a * Int32.ofNat b = Int32.ofNat (a * b) := (Int32.ofNat_mul a b).symm
theorem nat_succ (a : Nat) : Int32.ofNat a + (1 : Int32) = Int32.ofNat (a + 1) := nat_add a 1
/-- the number that a cell holds, where it isn't below 0 -/
def nv (x : Int32) : Nat := x.toNatClampNeg
theorem nv_nat {n : Nat} (h : n < 2147483648) : nv (Int32.ofNat n) = n := i32_clamp h
theorem nv_of {x : Int32} (h : 0 ≤ x.toInt) : Int32.ofNat (nv x) = x := by
  apply i32_eq.mpr
  have h1 : nv x = x.toInt.toNat := rfl
  have := i32_hi x
  rw [i32_toInt (by omega), h1]
  omega
theorem nv_int {x : Int32} (h : 0 ≤ x.toInt) : (nv x : Int) = x.toInt := by
  have h1 : nv x = x.toInt.toNat := rfl
  omega
theorem nv_lt (x : Int32) : nv x < 2147483648 := by
  have h1 : nv x = x.toInt.toNat := rfl
  have := i32_hi x
  omega
theorem i32_0 : (0 : Int32).toInt = 0 := by decide
theorem i32_1 : (1 : Int32).toInt = 1 := by decide
theorem i32_m1 : (-1 : Int32).toInt = -1 := by decide
theorem zix_nat {t n tag k : Nat} (h1 : t = tag) (h2 : k < n) (h3 : k < 2147483648) : zix t n tag (Int32.ofNat k) := by
  refine ⟨h1, fun q => ?_⟩
  rcases q with q | q
  · have q := i32_lt.mp q
    rw [i32_toInt h3, i32_0] at q
    omega
  · rw [i32_clamp h3] at q
    omega
theorem zix_of {t n tag : Nat} {i : Int32} (h1 : t = tag) (h2 : 0 ≤ i.toInt) (h3 : i.toInt < n) : zix t n tag i := by
  have e := nv_of h2
  have h4 := nv_int h2
  rw [← e]
  exact zix_nat h1 (by omega) (nv_lt i)
/-- a heap's row in another's place -/
def zov (I : Nat → Nat → Int32) (a : Nat) (f : Nat → Int32) : Nat → Nat → Int32 := fun a' => if a' = a then f else I a'
theorem zov_self (I : Nat → Nat → Int32) (a : Nat) : zov I a (I a) = I := by
  funext a'
  unfold zov
  split
  · rename_i e
    rw [e]
  · rfl
theorem zov_at {I : Nat → Nat → Int32} {a : Nat} {f : Nat → Int32} : zov I a f a = f := if_pos rfl
theorem zov_ne {I : Nat → Nat → Int32} {a b : Nat} {f : Nat → Int32} (h : b ≠ a) : zov I a f b = I b := if_neg h
theorem zov_zov {I : Nat → Nat → Int32} {a : Nat} {f g : Nat → Int32} : zov (zov I a f) a g = zov I a g := by
  funext a'
  unfold zov
  split <;> rfl
/-- a cell of a row -/
def zset (f : Nat → Int32) (k : Nat) (v : Int32) : Nat → Int32 := fun k' => if k' = k then v else f k'
theorem zset_at {f : Nat → Int32} {k : Nat} {v : Int32} : zset f k v k = v := if_pos rfl
theorem zset_ne {f : Nat → Int32} {k j : Nat} {v : Int32} (h : j ≠ k) : zset f k v j = f j := if_neg h
theorem zup_ov (I : Nat → Nat → Int32) (a k : Nat) (v : Int32) : zup I a k v = zov I a (zset (I a) k v) := by
  funext a' k'
  unfold zup zov zset
  split
  · rename_i e
    rw [e]
  · rfl
theorem zup_zov (I : Nat → Nat → Int32) (a k : Nat) (f : Nat → Int32) (v : Int32) : zup (zov I a f) a k v = zov I a (zset f k v) := by
  rw [zup_ov, zov_zov, zov_at]
theorem zput_nat {I : Nat → Nat → Int32} {a n k : Nat} {v : Int32} (h : k < n) (hk : k < 2147483648) : zput I a n (Int32.ofNat k) v = zup I a k v := by
  have z := (zix_nat (t := 0) (tag := 0) rfl h hk).2
  rw [zput_yes z, i32_clamp hk]
theorem zat_nat {I : Nat → Nat → Int32} {a n k : Nat} (h : k < n) (hk : k < 2147483648) : zat I a n (Int32.ofNat k) = I a k := by
  have z := (zix_nat (t := 0) (tag := 0) rfl h hk).2
  unfold zat
  rw [if_neg z, i32_clamp hk]
theorem zat_of {I : Nat → Nat → Int32} {a n : Nat} {i : Int32} (h1 : 0 ≤ i.toInt) (h2 : i.toInt < n) : zat I a n i = I a (nv i) := by
  have e := nv_of h1
  have h4 := nv_int h1
  have := zat_nat (I := I) (a := a) (n := n) (k := nv i) (by omega) (nv_lt i)
  rw [e] at this
  exact this
theorem zput_of {I : Nat → Nat → Int32} {a n : Nat} {i v : Int32} (h1 : 0 ≤ i.toInt) (h2 : i.toInt < n) : zput I a n i v = zup I a (nv i) v := by
  have e := nv_of h1
  have h4 := nv_int h1
  have := zput_nat (I := I) (a := a) (n := n) (k := nv i) (v := v) (by omega) (nv_lt i)
  rw [e] at this
  exact this
/-- a row whose cells below c are new -/
def zpre (N f : Nat → Int32) (c : Nat) : Nat → Int32 := fun k => if k < c then N k else f k
theorem zpre_0 (N f : Nat → Int32) : zpre N f 0 = f := by
  funext k
  exact if_neg (Nat.not_lt_zero k)
theorem zpre_succ {N f : Nat → Int32} {c : Nat} : zset (zpre N f c) c (N c) = zpre N f (c + 1) := by
  funext k
  unfold zset zpre
  by_cases e : k = c
  · rw [if_pos e, if_pos (by omega), e]
  · rw [if_neg e]
    by_cases e2 : k < c
    · rw [if_pos e2, if_pos (by omega)]
    · rw [if_neg e2, if_neg (by omega)]
theorem zpre_ge {N f : Nat → Int32} {c k : Nat} (h : c ≤ k) : zpre N f c k = f k := if_neg (by omega)
theorem zpre_lt {N f : Nat → Int32} {c k : Nat} (h : k < c) : zpre N f c k = N k := if_pos h
theorem zmn_int (x y : Int32) : (zmn x y).toInt = min x.toInt y.toInt := by
  unfold zmn
  split
  · rename_i h
    have := i32_le.mp h
    omega
  · rename_i h
    have : ¬ x.toInt ≤ y.toInt := fun q => h (i32_le.mpr q)
    omega
theorem zmx_int (x y : Int32) : (zmx x y).toInt = max x.toInt y.toInt := by
  unfold zmx
  split
  · rename_i h
    have := i32_le.mp h
    omega
  · rename_i h
    have : ¬ y.toInt ≤ x.toInt := fun q => h (i32_le.mpr q)
    omega
theorem zbi_eq0 {p : Prop} [Decidable p] : (zbi p = 0) ↔ ¬ p := by
  by_cases h : p
  · rw [zbi_t h]
    exact ⟨fun q => absurd q (by decide), fun q => absurd h q⟩
  · rw [zbi_f h]
    exact ⟨fun _ => h, fun _ => rfl⟩
theorem zbi_eq1 {p : Prop} [Decidable p] : (zbi p = 1) ↔ p := by
  by_cases h : p
  · rw [zbi_t h]
    exact ⟨fun _ => h, fun _ => rfl⟩
  · rw [zbi_f h]
    exact ⟨fun q => absurd q (by decide), fun q => absurd q h⟩
theorem zbi_01 {p : Prop} [Decidable p] : zbi p = 0 ∨ zbi p = 1 := by
  by_cases h : p
  · exact Or.inr (zbi_t h)
  · exact Or.inl (zbi_f h)
