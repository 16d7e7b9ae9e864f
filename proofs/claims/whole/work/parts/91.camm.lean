/-! THE PURE PART: cameras in the model. -/
def yit (r n : Nat) : Nat → Nat × Nat
  | 0 => (0, 0)
  | i + 1 => if r / 2 ^ (n - 1 - i) % 2 = 1 then ((yit r n i).1 ||| 2 ^ i, (yit r n i).2 + 1) else yit r n i
theorem yit_lt (r n : Nat) : ∀ i, (yit r n i).1 < 2 ^ i ∧ (yit r n i).2 ≤ i
  | 0 => ⟨Nat.one_pos, Nat.le_refl _⟩
  | i + 1 => by
    have ih := yit_lt r n i
    have e2 : 2 ^ (i + 1) = 2 ^ i * 2 := Nat.pow_succ 2 i
    show ((if r / 2 ^ (n - 1 - i) % 2 = 1 then ((yit r n i).1 ||| 2 ^ i, (yit r n i).2 + 1) else yit r n i).1 < 2 ^ (i + 1)) ∧ (if r / 2 ^ (n - 1 - i) % 2 = 1 then ((yit r n i).1 ||| 2 ^ i, (yit r n i).2 + 1) else yit r n i).2 ≤ i + 1
    by_cases c : r / 2 ^ (n - 1 - i) % 2 = 1
    · rw [if_pos c]
      exact ⟨Nat.or_lt_two_pow (by omega) (by omega), by
        show (yit r n i).2 + 1 ≤ i + 1
        omega⟩
    · rw [if_neg c]
      exact ⟨by omega, by omega⟩
def yitq (r n : Nat) : Bool := (yrv 12 (yit r n n).1 == r * 2 ^ (12 - n)) && ((yit r n n).2 == ypc 12 (yit r n n).1)
theorem yit_12 : ∀ i, i < 64 → ∀ j, j < 64 → ∀ n, n < 13 → 64 * i + j < 2 ^ n → yitq (64 * i + j) n = true := by decide +kernel
theorem yit_eq (r n : Nat) (hn : n ≤ 12) (hr : r < 2 ^ n) : yrv 12 (yit r n n).1 = r * 2 ^ (12 - n) ∧ (yit r n n).2 = ypc 12 (yit r n n).1 := by
  have h1 : 2 ^ n ≤ 2 ^ 12 := Nat.pow_le_pow_right (by decide) hn
  have h2 : 2 ^ 12 = 4096 := rfl
  have q := yall_12 (fun r => ∀ n, n < 13 → r < 2 ^ n → yitq r n = true) yit_12 r (by omega) n (by omega) hr
  unfold yitq at q
  rw [Bool.and_eq_true] at q
  exact ⟨eq_of_beq q.1, eq_of_beq q.2⟩
theorem yrv_0 : ∀ k, yrv k 0 = 0
  | 0 => rfl
  | k + 1 => by
    show 0 % 2 * 2 ^ k + yrv k (0 / 2) = 0
    rw [show 0 / 2 = 0 from rfl, yrv_0 k]
    omega
theorem yrv_ext : ∀ n k s, s < 2 ^ n → yrv (n + k) s = yrv n s * 2 ^ k
  | 0, k, s, h => by
    have : (2 : Nat) ^ 0 = 1 := rfl
    have e : s = 0 := by omega
    subst e
    rw [yrv_0, yrv_0, Nat.zero_mul]
  | n + 1, k, s, h => by
    have e2 : 2 ^ (n + 1) = 2 ^ n * 2 := Nat.pow_succ 2 n
    have ih := yrv_ext n k (s / 2) (by omega)
    rw [show n + 1 + k = n + k + 1 by omega]
    show s % 2 * 2 ^ (n + k) + yrv (n + k) (s / 2) = (s % 2 * 2 ^ n + yrv n (s / 2)) * 2 ^ k
    rw [ih, Nat.pow_add, Nat.add_mul, Nat.mul_assoc]
/-- every set is met -/
theorem yit_onto (n s : Nat) (hn : n ≤ 12) (hs : s < 2 ^ n) : (yit (yrv n s) n n).1 = s := by
  have h1 : 2 ^ n ≤ 2 ^ 12 := Nat.pow_le_pow_right (by decide) hn
  have q := (yit_eq (yrv n s) n hn (yrv_lt n s)).1
  have e := yrv_ext n (12 - n) s hs
  rw [show n + (12 - n) = 12 by omega] at e
  have l := (yit_lt (yrv n s) n n).1
  exact yrv_inj 12 _ _ (by omega) (by omega) (by rw [q, e])
theorem shl_k13 : ∀ k, k < 13 → ((1 : Int32) <<< (Int32.ofNat k &&& 31)) = Int32.ofNat (2 ^ k) := by decide
theorem bits_loop (xs : Nat → Int32) (L d : Nat) (I : Nat → Nat → Int32) (J : Nat → Nat → Int64) (X : XH) (a1 a3 a4 a5 : Int32) (r n : Nat) (hn : n ≤ 12) (hr : r < 4096) : ∀ (q i : Nat), i + q = n → zgo xs L (d + 5) 209 7 [(0, .ref 61), (1, .int a1), (2, .int (Int32.ofNat n)), (3, .int a3), (4, .int a4), (5, .int a5), (6, .int (Int32.ofNat r)), (7, .int (Int32.ofNat (yit r n i).1)), (8, .int (Int32.ofNat (yit r n i).2)), (9, .int (Int32.ofNat i))] (zmk I J X) = zgo xs L (d + 5) 209 7 [(0, .ref 61), (1, .int a1), (2, .int (Int32.ofNat n)), (3, .int a3), (4, .int a4), (5, .int a5), (6, .int (Int32.ofNat r)), (7, .int (Int32.ofNat (yit r n n).1)), (8, .int (Int32.ofNat (yit r n n).2)), (9, .int (Int32.ofNat n))] (zmk I J X)
  | 0, i, hi => by
    have hi : i = n := hi
    rw [hi]
  | q + 1, i, hi => by
    have ih := bits_loop xs L d I J X a1 a3 a4 a5 r n hn hr q (i + 1) (by omega)
    refine Eq.trans ?_ ih
    have ek : Int32.ofNat n - 1 - Int32.ofNat i = Int32.ofNat (n - 1 - i) := by
      apply i32_eq.mpr
      rw [i32_toInt (by omega), i32_sub, i32_sub, i32_toInt (by omega), i32_toInt (by omega)]
      all_goals (try rw [i32_sub])
      all_goals (try rw [i32_toInt (by omega), i32_toInt (by omega)])
      all_goals (try rw [i32_toInt (by omega)])
      all_goals (have : (1 : Int32).toInt = 1 := by decide)
      all_goals omega
    have l := yit_lt r n i
    have l2 : 2 ^ i ≤ 2 ^ 12 := Nat.pow_le_pow_right (by decide) (by omega)
    have h12 : 2 ^ 12 = 4096 := rfl
    have hdv : r / 2 ^ (n - 1 - i) ≤ r := Nat.div_le_self _ _
    have e1 : Int32.ofNat (r / 2 ^ (n - 1 - i)) &&& 1 = Int32.ofNat (r / 2 ^ (n - 1 - i) % 2) := by
      show _ &&& Int32.ofNat 1 = _
      rw [i32_and, Nat.and_one_is_mod]
    have ey : yit r n (i + 1) = if r / 2 ^ (n - 1 - i) % 2 = 1 then ((yit r n i).1 ||| 2 ^ i, (yit r n i).2 + 1) else yit r n i := rfl
    rw [zgo_q, S209_7 xs L d, if_neg (fun z => by
      have := (nat_le (by omega) (by omega)).mp (of_decide_eq_true z)
      omega), ek, i32_shr (by omega) (by omega), e1, ey]
    rcases Nat.mod_two_eq_zero_or_one (r / 2 ^ (n - 1 - i)) with c | c
    · rw [c, if_neg (show ¬ decide (¬ Int32.ofNat 0 = 0) = true by decide), if_neg (show ¬ 0 = 1 by decide), zth_go, nat_succ]
    · rw [c, if_pos (show decide (¬ Int32.ofNat 1 = 0) = true by decide), if_pos (show 1 = 1 from rfl), shl_k i (by omega), i32_or, nat_succ, zth_go, nat_succ]
