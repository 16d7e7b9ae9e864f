/-! THE PURE PART: the model's reader behind a fault. -/
theorem is_no (xs : Nat → Int32) (L D : Nat) (hD : 6 ≤ D) (M : Nat → Nat → Int32) (J : Nat → Nat → Int64) (X : XH) (s : UInt32) (h0 : ¬ M 61 65 = 0) : zev xs L D 166 [.ref 61, .float s] (zmk M J X) = some (.inr (some (.int 0)), zmk M J X) := by
  obtain ⟨d, rfl⟩ := Nat.exists_eq_add_of_le hD
  rw [Nat.add_comm 6 d]
  refine (zcS (S166_0 xs L d M J X s)).trans ?_
  rw [if_pos (decide_eq_true h0), zth_go, is_0]
theorem nots_no (xs : Nat → Int32) (L d : Nat) (M : Nat → Nat → Int32) (J : Nat → Nat → Int64) (X : XH) (x a : Int32) (k : Nat) (hk : k ≤ 6) (h0 : ¬ M 61 65 = 0) : ∀ (q i : Nat), i + q = k → zgo xs L (d + 1 + 5) 171 10 [(0, .ref 61), (1, .int x), (2, .int a), (3, .int (Int32.ofNat k)), (4, .int (Int32.ofNat i))] (zmk M J X) = some (.inr none, zmk M J X)
  | 0, i, hi => by
    have hi : i = k := hi
    rw [zgo_q, S171_10 xs L (d + 1), hi, if_pos (decide_eq_true ((nat_le (by omega) (by omega)).mpr (Nat.le_refl _)))]
    rfl
  | q + 1, i, hi => by
    have ih := nots_no xs L d M J X x a k hk h0 q (i + 1) (by omega)
    rw [zgo_q, S171_10 xs L (d + 1), if_neg (fun z => by
      have := (nat_le (by omega) (by omega)).mp (of_decide_eq_true z)
      omega), emit_no xs L (d + 1 + 5) (by omega) M J X x 9 h0, zcw_v, T171_10_7_693 xs L (d + 1), zth_go, nat_succ]
    exact ih
theorem not_no2 (xs : Nat → Int32) (L d : Nat) (M : Nat → Nat → Int32) (J : Nat → Nat → Int64) (X : XH) (x a : Int32) (k : Nat) (hk : k ≤ 6) (h0 : ¬ M 61 65 = 0) : zgo xs L (d + 3 + 5) 171 2 [(0, .ref 61), (1, .int x), (2, .int a), (3, .int (Int32.ofNat k))] (zmk M J X) = some (.inr none, zmk M J X) := by
  rw [zgo_q, S171_2 xs L (d + 3), is_no xs L (d + 3 + 5) (by omega) M J X _ h0, zci_i, T171_2_3_697 xs L (d + 3), if_pos (show decide ((0 : Int32) = 0) = true by decide), sum_no xs L (d + 3 + 5) (by omega) M J X x a h0, zcw_v, T171_3_4_692 xs L (d + 3), if_neg (fun z => (of_decide_eq_true z) (sgn_no h0)), if_pos (decide_eq_true (sgn_no h0)), zth_go]
  exact nots_no xs L (d + 2) M J X x a k hk h0 k 0 (Nat.zero_add _)
theorem not_no (xs : Nat → Int32) (L D : Nat) (hD : 9 ≤ D) (M : Nat → Nat → Int32) (J : Nat → Nat → Int64) (X : XH) (x a : Int32) (h0 : ¬ M 61 65 = 0) : zev xs L D 171 [.ref 61, .int x, .int a] (zmk M J X) = some (.inr none, zmk M J X) := by
  obtain ⟨d, rfl⟩ := Nat.exists_eq_add_of_le hD
  rw [show 9 + d = d + 3 + 6 by omega]
  refine (zcS (S171_0 xs L (d + 3) M J X x a)).trans ?_
  rw [zth_go]
  exact not_no2 xs L d M J X x a 0 (by omega) h0
theorem and_no2 (xs : Nat → Int32) (L d : Nat) (M : Nat → Nat → Int32) (J : Nat → Nat → Int64) (X : XH) (x a : Int32) (h0 : ¬ M 61 65 = 0) : zgo xs L (d + 1 + 5) 170 2 [(0, .ref 61), (1, .int x), (2, .int a)] (zmk M J X) = some (.inr none, zmk M J X) := by
  rw [zgo_q, S170_2 xs L (d + 1), is_no xs L (d + 1 + 5) (by omega) M J X _ h0, zci_i, T170_2_3_697 xs L (d + 1), if_pos (show decide ((0 : Int32) = 0) = true by decide)]
  rfl
theorem and_no (xs : Nat → Int32) (L D : Nat) (hD : 10 ≤ D) (M : Nat → Nat → Int32) (J : Nat → Nat → Int64) (X : XH) (x a : Int32) (h0 : ¬ M 61 65 = 0) : zev xs L D 170 [.ref 61, .int x, .int a] (zmk M J X) = some (.inr none, zmk M J X) := by
  obtain ⟨d, rfl⟩ := Nat.exists_eq_add_of_le hD
  rw [show 10 + d = d + 4 + 6 by omega]
  refine (zcS (S170_0 xs L (d + 4) M J X x a)).trans ?_
  rw [not_no xs L (d + 4 + 5) (by omega) M J X x a h0, zcw_v, T170_0_4_696 xs L (d + 4), zth_go]
  exact and_no2 xs L (d + 3) M J X x a h0
theorem exp_no2 (xs : Nat → Int32) (L d : Nat) (M : Nat → Nat → Int32) (J : Nat → Nat → Int64) (X : XH) (x a c : Int32) (h0 : ¬ M 61 65 = 0) : zgo xs L (d + 1 + 5) 168 8 [(0, .ref 61), (1, .int x), (2, .int a), (3, .int c)] (zmk M J X) = some (.inr none, zmk M J X) := by
  rw [zgo_q, S168_8 xs L (d + 1), is_no xs L (d + 1 + 5) (by omega) M J X _ h0, zci_i, T168_8_3_697 xs L (d + 1), if_pos (show decide ((0 : Int32) = 0) = true by decide)]
  rfl
theorem need_no9 (xs : Nat → Int32) (L D : Nat) (hD : 6 ≤ D) (M : Nat → Nat → Int32) (J : Nat → Nat → Int64) (X : XH) (c : Int32) (h0 : ¬ M 61 65 = 0) : zev xs L D 178 [.ref 61, .int c] (zmk M J X) = some (.inr none, zmk M J X) := by
  obtain ⟨d, rfl⟩ := Nat.exists_eq_add_of_le hD
  rw [Nat.add_comm 6 d]
  refine (zcS (S178_0 xs L d M J X c)).trans ?_
  rw [if_pos (decide_eq_true h0), if_pos (decide_eq_true h0)]
  rfl
/-- the value a word names -/
theorem S177_k (xs : Nat → Int32) (L d : Nat) (I : Nat → Nat → Int32) (J : Nat → Nat → Int64) (X : XH) (k : Nat) (hk : k < 8) : zseg (zE xs L (d + 5) 177) (zC 177) 700 (zC 177 2) [(0, .ref 61), (1, .int (Int32.ofNat k))] [] (zmk I J X) = zci (zE xs L (d + 5) 177) (zev xs L (d + 5) 166 [.ref 61, .float (UInt32.ofNat (ystr (7 + k)))] (zmk I J X)) (fun r h => zseg (zE xs L (d + 5) 177) (zC 177) 689 (zB177_2.drop 11) [(0, .ref 61), (1, .int (Int32.ofNat k))] [.int r] h) := by
  have : k = 0 ∨ k = 1 ∨ k = 2 ∨ k = 3 ∨ k = 4 ∨ k = 5 ∨ k = 6 ∨ k = 7 := by omega
  rcases this with e | e | e | e | e | e | e | e <;> subst e <;> rfl
theorem S177_8 (xs : Nat → Int32) (L d : Nat) (I : Nat → Nat → Int32) (J : Nat → Nat → Int64) (X : XH) : zseg (zE xs L (d + 5) 177) (zC 177) 700 (zC 177 2) [(0, .ref 61), (1, .int (Int32.ofNat 8))] [] (zmk I J X) = some (.inr (.inr (some (.int (-1))), zmk I J X)) := by
  rfl
theorem T177_k (xs : Nat → Int32) (L d : Nat) (I : Nat → Nat → Int32) (J : Nat → Nat → Int64) (X : XH) (a b : Int32) : zseg (zE xs L (d + 5) 177) (zC 177) 689 (zB177_2.drop 11) [(0, .ref 61), (1, .int a)] [.int b] (zmk I J X) = if decide (b = 0) = true then some (.inl (2, [(0, .ref 61), (1, .int (a + 1))], zmk I J X)) else some (.inr (.inr (some (.int a)), zmk I J X)) := by
  refine zite_congr ?_ ?_
  · rfl
  · rfl
