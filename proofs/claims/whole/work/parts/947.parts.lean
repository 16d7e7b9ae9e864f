/-! THE PURE PART: the class at a part of an expression, case by case. -/
theorem part_1 (xs : Nat → Int32) (L D : Nat) (hD : 6 ≤ D) (H : Nat → Nat → Int32) (J : Nat → Nat → Int64) (X : XH) (h1 : (H 35 5).toInt < 299) (h2 : ¬ H 35 5 = 258) (h3 : ¬ H 35 5 = 259) (h4 : ¬ H 35 5 = 40) : zev xs L D 58 [.ref 35] (zmk H J X) = some (.inr (some (.int 1)), zmk H J X) := by
  obtain ⟨d, rfl⟩ := Nat.exists_eq_add_of_le hD
  rw [Nat.add_comm 6 d]
  refine (zcS (S58_0 xs L d H J X)).trans ?_
  have h1 : H 35 5 < 299 := i32_lt.mpr h1
  rw [if_pos (decide_eq_true h1), if_neg (fun z => h2 (of_decide_eq_true z)), if_pos (decide_eq_true h3), if_neg (fun z => h4 (of_decide_eq_true z))]
  rfl
theorem part_2 (xs : Nat → Int32) (L D : Nat) (hD : 6 ≤ D) (H : Nat → Nat → Int32) (J : Nat → Nat → Int64) (X : XH) (h : H 35 5 = 40 ∨ H 35 5 = 258 ∨ 299 ≤ (H 35 5).toInt) (h6 : 6 ≤ (H 35 16).toInt) : zev xs L D 58 [.ref 35] (zmk H J X) = some (.inr (some (.int 2)), zmk H J X) := by
  obtain ⟨d, rfl⟩ := Nat.exists_eq_add_of_le hD
  rw [Nat.add_comm 6 d]
  refine (zcS (S58_0 xs L d H J X)).trans ?_
  have h6 : (6 : Int32) ≤ H 35 16 := i32_le.mpr h6
  rcases h with h | h | h
  · rw [h, if_pos (show decide ((40 : Int32) < 299) = true by decide), if_neg (show ¬ decide ((40 : Int32) = 258) = true by decide), if_pos (show decide (¬ (40 : Int32) = 259) = true by decide), if_pos (show decide ((40 : Int32) = 40) = true by decide), if_pos (decide_eq_true h6)]
    rfl
  · rw [h, if_pos (show decide ((258 : Int32) < 299) = true by decide), if_pos (show decide ((258 : Int32) = 258) = true by decide), if_pos (decide_eq_true h6)]
    rfl
  · have e : ∀ k : Int32, k.toInt < 299 → ¬ H 35 5 = k := fun k hk z => by
      rw [z] at h
      omega
    rw [if_neg (fun z => by
      have z := i32_lt.mp (of_decide_eq_true z)
      have : (299 : Int32).toInt = 299 := by decide
      omega), if_neg (fun z => e 258 (by decide) (of_decide_eq_true z)), if_pos (decide_eq_true (e 259 (by decide))), if_pos (decide_eq_true h6)]
    rfl
theorem part_9 (xs : Nat → Int32) (L D : Nat) (hD : 6 ≤ D) (H : Nat → Nat → Int32) (J : Nat → Nat → Int64) (X : XH) (h : H 35 5 = 259) : zev xs L D 58 [.ref 35] (zmk H J X) = some (.inr (some (.int 2)), zmk H J X) := by
  obtain ⟨d, rfl⟩ := Nat.exists_eq_add_of_le hD
  rw [Nat.add_comm 6 d]
  refine (zcS (S58_0 xs L d H J X)).trans ?_
  rw [h, if_pos (show decide ((259 : Int32) < 299) = true by decide), if_neg (show ¬ decide ((259 : Int32) = 258) = true by decide), if_neg (show ¬ decide (¬ (259 : Int32) = 259) = true by decide)]
  by_cases c : (6 : Int32) ≤ H 35 16
  · rw [if_pos (decide_eq_true c)]
    rfl
  · rw [if_neg (fun z => c (of_decide_eq_true z))]
    rfl
/-- the heap after an open parenthesis -/
def yopn (H : Nat → Nat → Int32) : Nat → Nat → Int32 := zup (zup (zup (zup (zup (zup (zput H 38 400 (H 35 15) 40) 35 15 (H 35 15 + 1)) 35 16 (H 35 16 + 1)) 35 7 3) 35 17 1) 35 18 0) 35 19 (H 35 19 &&& (((1 : Int32) <<< ((H 35 16 + 1) &&& 31)) ^^^ (-1)))
theorem part_o (xs : Nat → Int32) (L D : Nat) (hD : 6 ≤ D) (H : Nat → Nat → Int32) (J : Nat → Nat → Int64) (X : XH) (h : H 35 5 = 40) (h6 : (H 35 16).toInt < 6) : zev xs L D 58 [.ref 35] (zmk H J X) = some (.inr (some (.int 0)), zmk (yopn H) J X) := by
  obtain ⟨d, rfl⟩ := Nat.exists_eq_add_of_le hD
  rw [Nat.add_comm 6 d]
  refine (zcS (S58_0 xs L d H J X)).trans ?_
  have h6 : ¬ (6 : Int32) ≤ H 35 16 := fun z => by
    have := i32_le.mp z
    have : (6 : Int32).toInt = 6 := by decide
    omega
  rw [h, if_pos (show decide ((40 : Int32) < 299) = true by decide), if_neg (show ¬ decide ((40 : Int32) = 258) = true by decide), if_pos (show decide (¬ (40 : Int32) = 259) = true by decide), if_pos (show decide ((40 : Int32) = 40) = true by decide), if_neg (fun z => h6 (of_decide_eq_true z)), if_pos (show decide (¬ (40 : Int32) = 259) = true by decide), if_neg (show ¬ decide (¬ (40 : Int32) = 40) = true by decide)]
  rfl
/-- the heap after a number or a value -/
def yput9 (H : Nat → Nat → Int32) (v : Int32) : Nat → Nat → Int32 := zup (zup (zput H 37 400 (H 35 13) v) 35 13 (H 35 13 + 1)) 35 7 4
theorem part_n (xs : Nat → Int32) (L D : Nat) (hD : 6 ≤ D) (H : Nat → Nat → Int32) (J : Nat → Nat → Int64) (X : XH) (h : H 35 5 = 258) (h6 : (H 35 16).toInt < 6) : zev xs L D 58 [.ref 35] (zmk H J X) = some (.inr (some (.int 0)), zmk (yput9 H (H 35 6)) J X) := by
  obtain ⟨d, rfl⟩ := Nat.exists_eq_add_of_le hD
  rw [Nat.add_comm 6 d]
  refine (zcS (S58_0 xs L d H J X)).trans ?_
  have h6 : ¬ (6 : Int32) ≤ H 35 16 := fun z => by
    have := i32_le.mp z
    have : (6 : Int32).toInt = 6 := by decide
    omega
  rw [h, if_pos (show decide ((258 : Int32) < 299) = true by decide), if_pos (show decide ((258 : Int32) = 258) = true by decide), if_neg (fun z => h6 (of_decide_eq_true z)), if_pos (show decide (¬ (258 : Int32) = 259) = true by decide), if_pos (show decide (¬ (258 : Int32) = 40) = true by decide), if_pos (show decide (¬ (258 : Int32) = 306) = true by decide)]
  rfl
/-- a word where a part is to come: 'not', a value, another -/
theorem part_w (xs : Nat → Int32) (L D : Nat) (hD : 6 ≤ D) (H : Nat → Nat → Int32) (J : Nat → Nat → Int64) (X : XH) (h : 299 ≤ (H 35 5).toInt) (h6 : (H 35 16).toInt < 6) : zev xs L D 58 [.ref 35] (zmk H J X) = if H 35 5 = 306 ∧ ¬ H 35 17 = 0 then some (.inr (some (.int (if (H 35 18 + 1) ≤ 6 then 0 else 2))), zmk (zup (zup (zput H 38 400 (H 35 15) (H 35 5)) 35 15 (H 35 15 + 1)) 35 18 (H 35 18 + 1)) J X) else if 307 ≤ (H 35 5).toInt then some (.inr (some (.int 0)), zmk (yput9 H (-(H 35 5))) J X) else some (.inr (some (.int 3)), zmk H J X) := by
  obtain ⟨d, rfl⟩ := Nat.exists_eq_add_of_le hD
  rw [Nat.add_comm 6 d]
  refine (zcS (S58_0 xs L d H J X)).trans ?_
  have h6 : ¬ (6 : Int32) ≤ H 35 16 := fun z => by
    have := i32_le.mp z
    have : (6 : Int32).toInt = 6 := by decide
    omega
  have e : ∀ k : Int32, k.toInt < 299 → ¬ H 35 5 = k := fun k hk z => by
    rw [z] at h
    omega
  have e7 : (307 : Int32) ≤ H 35 5 ↔ 307 ≤ (H 35 5).toInt := i32_le
  rw [if_neg (fun z => by
    have z := i32_lt.mp (of_decide_eq_true z)
    have : (299 : Int32).toInt = 299 := by decide
    omega), if_neg (fun z => e 258 (by decide) (of_decide_eq_true z)), if_pos (decide_eq_true (e 259 (by decide))), if_neg (fun z => h6 (of_decide_eq_true z)), if_pos (decide_eq_true (e 259 (by decide))), if_pos (decide_eq_true (e 40 (by decide)))]
  by_cases c1 : H 35 5 = 306
  · have n7 : ¬ 307 ≤ (H 35 5).toInt := by
      rw [c1]
      decide
    rw [if_neg (fun z => (of_decide_eq_true z) c1)]
    by_cases c2 : H 35 17 = 0
    · rw [if_pos (decide_eq_true c2), if_neg (show ¬ (H 35 5 = 306 ∧ ¬ H 35 17 = 0) from fun z => z.2 c2), if_neg n7, if_neg (fun z => n7 (e7.mp (of_decide_eq_true z)))]
      rfl
    · rw [if_neg (fun z => c2 (of_decide_eq_true z)), if_pos (show H 35 5 = 306 ∧ ¬ H 35 17 = 0 from ⟨c1, c2⟩)]
      by_cases c3 : (H 35 18 + 1) ≤ (6 : Int32)
      · rw [if_pos (decide_eq_true c3), if_pos c3]
        rfl
      · rw [if_neg (fun z => c3 (of_decide_eq_true z)), if_neg c3]
        rfl
  · rw [if_pos (decide_eq_true c1), if_neg (show ¬ (H 35 5 = 306 ∧ ¬ H 35 17 = 0) from fun z => c1 z.1)]
    by_cases c4 : 307 ≤ (H 35 5).toInt
    · rw [if_pos (decide_eq_true (e7.mpr c4)), if_pos c4]
      rfl
    · rw [if_neg (fun z => c4 (e7.mp (of_decide_eq_true z))), if_neg c4]
      rfl
