/-! THE PURE PART: the model's terms for a minute. -/
def zFm (I : Nat → Nat → Int32) (l m : Nat) : Nat → Int32 := fun i => if i < m then I 93 (4 * l + i) else I 93 36
def zOm (I : Nat → Nat → Int32) (l m : Nat) (k : Int32) : Nat → Int32 := fun i => if i < m then I 94 (4 * l + i) else k
def zxo (l m : Nat) : Option Nat → Int32
  | none => -1
  | some j => if j < m then Int32.ofNat (4 * l + j) else 36
/-- how many terms the model looks at: those of the land, and those that are tried there -/
def zNm (I : Nat → Nat → Int32) (l m : Nat) : Nat := if I 61 54 = Int32.ofNat l then m + 1 else m
theorem zbst_none {F O : Nat → Int32} {t k : Int32} {i : Nat} (e : zbst F O t k i = none) (h : (O i).toInt ≤ k.toInt ∧ (F i).toInt ≤ t.toInt) : zbst F O t k (i + 1) = some i := by
  unfold zbst
  rw [e]
  exact if_pos h
theorem zbst_some {F O : Nat → Int32} {t k : Int32} {i j : Nat} (e : zbst F O t k i = some j) (h : (O i).toInt ≤ k.toInt ∧ (F i).toInt ≤ t.toInt ∧ (F j).toInt ≤ (F i).toInt) : zbst F O t k (i + 1) = some i := by
  unfold zbst
  rw [e]
  exact if_pos h
theorem zbst_keep {F O : Nat → Int32} {t k : Int32} {i j : Nat} (e : zbst F O t k i = some j) (h : ¬ (F j).toInt ≤ (F i).toInt) : zbst F O t k (i + 1) = some j := by
  unfold zbst
  rw [e]
  exact if_neg (fun z => h z.2.2)
theorem zfour (l i : Nat) : (4 : Int32) * Int32.ofNat l + Int32.ofNat i = Int32.ofNat (4 * l + i) := by
  show Int32.ofNat 4 * Int32.ofNat l + Int32.ofNat i = _
  rw [nat_mul, nat_add]
theorem nat_m1 {n : Nat} (h : n < 2147483648) : ¬ Int32.ofNat n = -1 := fun z => by
  have := i32_toInt h
  rw [z, i32_m1] at this
  omega
theorem terms_loop (xs : Nat → Int32) (L d : Nat) (I : Nat → Nat → Int32) (J : Nat → Nat → Int64) (X : XH) (l m : Nat) (t k : Int32) (hl : l < 9) (hm : m ≤ 4) (h92 : I 92 l = Int32.ofNat m) : ∀ (j i : Nat), i + j = m → zgo xs L (d + 5) 187 2 [(0, .ref 61), (1, .int (Int32.ofNat l)), (2, .int t), (3, .int k), (4, .int (zxo l m (zbst (zFm I l m) (zOm I l m k) t k i))), (5, .int (Int32.ofNat i))] (zmk I J X) = some (.inr (some (.int (zxo l m (zbst (zFm I l m) (zOm I l m k) t k (zNm I l m))))), zmk I J X)
  | 0, i, hi => by
    have hi : i = m := by omega
    subst hi
    have z9 : zix 0 9 0 (Int32.ofNat l) := zix_nat rfl (by omega) (by omega)
    have z37 : zix 0 37 0 (36 : Int32) := by decide
    have c36 : (36 : Int32).toNatClampNeg = 36 := by decide
    rw [zgo_q, S187_2, if_pos z9, if_pos z37, if_pos z37, i32_clamp (n := l) (by omega), h92, if_pos (decide_eq_true ((nat_le (by omega) (by omega)).mpr (Nat.le_refl _)))]
    by_cases c0 : I 61 54 = Int32.ofNat l
    · have eN : zNm I l i = i + 1 := if_pos c0
      have eF : zFm I l i i = I 93 36 := if_neg (Nat.lt_irrefl _)
      have eO : zOm I l i k i = k := if_neg (Nat.lt_irrefl _)
      rw [if_neg (fun z => (of_decide_eq_true z) c0), eN, c36]
      by_cases c1 : t < I 93 36
      · rw [if_pos (decide_eq_true c1)]
        have c1 := i32_lt.mp c1
        rw [zbst_no (fun z => by
          rw [eF] at z
          omega)]
        rfl
      · rw [if_neg (fun z => c1 (of_decide_eq_true z))]
        have c1 : (I 93 36).toInt ≤ t.toInt := by
          have : ¬ t.toInt < (I 93 36).toInt := fun z => c1 (i32_lt.mpr z)
          omega
        cases hb : zbst (zFm I l i) (zOm I l i k) t k i with
        | none =>
          rw [zbst_none hb (by rw [eF, eO]; omega)]
          have e1 : zxo l i none = -1 := rfl
          have e2 : zxo l i (some i) = 36 := if_neg (Nat.lt_irrefl _)
          rw [e1, if_pos (show decide ((-1 : Int32) = -1) = true by decide), e2]
          rfl
        | some q =>
          have hq := zbst_lt hb
          have e1 : zxo l i (some q) = Int32.ofNat (4 * l + q) := if_pos hq
          have e2 : zxo l i (some i) = 36 := if_neg (Nat.lt_irrefl _)
          have eq1 : zFm I l i q = I 93 (4 * l + q) := if_pos hq
          have zq : zix 0 37 0 (Int32.ofNat (4 * l + q)) := zix_nat rfl (by omega) (by omega)
          rw [e1, if_neg (fun z => nat_m1 (by omega) (of_decide_eq_true z)), if_pos zq, i32_clamp (n := 4 * l + q) (by omega)]
          by_cases c3 : I 93 36 < I 93 (4 * l + q)
          · rw [if_pos (decide_eq_true c3)]
            have c3 := i32_lt.mp c3
            rw [zbst_keep hb (by rw [eF, eq1]; omega), e1]
            rfl
          · rw [if_neg (fun z => c3 (of_decide_eq_true z))]
            have c3 : ¬ (I 93 36).toInt < (I 93 (4 * l + q)).toInt := fun z => c3 (i32_lt.mpr z)
            rw [zbst_some hb (by rw [eF, eO, eq1]; omega), e2]
            rfl
    · have eN : zNm I l i = i := if_neg c0
      rw [if_pos (decide_eq_true (show ¬ I 61 54 = Int32.ofNat l from c0)), eN]
      rfl
  | j + 1, i, hi => by
    have ih := terms_loop xs L d I J X l m t k hl hm h92 j (i + 1) (by omega)
    have z9 : zix 0 9 0 (Int32.ofNat l) := zix_nat rfl (by omega) (by omega)
    have z4 : zix 0 37 0 (Int32.ofNat (4 * l + i)) := zix_nat rfl (by omega) (by omega)
    have eF : zFm I l m i = I 93 (4 * l + i) := if_pos (by omega)
    have eO : zOm I l m k i = I 94 (4 * l + i) := if_pos (by omega)
    rw [zgo_q, S187_2, if_pos z9, zfour, if_pos z4, if_pos z4, if_pos z4, i32_clamp (n := l) (by omega), i32_clamp (n := 4 * l + i) (by omega), h92, if_neg (fun z => by
      have := (nat_le (by omega) (by omega)).mp (of_decide_eq_true z)
      omega), nat_succ]
    by_cases c1 : k < I 94 (4 * l + i)
    · rw [if_pos (decide_eq_true c1), zth_go]
      have c1 := i32_lt.mp c1
      rw [zbst_no (fun z => by
        rw [eO] at z
        omega)] at ih
      exact ih
    rw [if_neg (fun z => c1 (of_decide_eq_true z))]
    have c1 : ¬ k.toInt < (I 94 (4 * l + i)).toInt := fun z => c1 (i32_lt.mpr z)
    by_cases c2 : t < I 93 (4 * l + i)
    · rw [if_pos (decide_eq_true c2), zth_go]
      have c2 := i32_lt.mp c2
      rw [zbst_no (fun z => by
        rw [eF] at z
        omega)] at ih
      exact ih
    rw [if_neg (fun z => c2 (of_decide_eq_true z))]
    have c2 : ¬ t.toInt < (I 93 (4 * l + i)).toInt := fun z => c2 (i32_lt.mpr z)
    have e2 : zxo l m (some i) = Int32.ofNat (4 * l + i) := if_pos (by omega)
    cases hb : zbst (zFm I l m) (zOm I l m k) t k i with
    | none =>
      rw [zbst_none hb (by rw [eF, eO]; omega), e2] at ih
      have e1 : zxo l m none = -1 := rfl
      rw [e1, if_pos (show decide ((-1 : Int32) = -1) = true by decide), zth_go]
      exact ih
    | some q =>
      have hq := zbst_lt hb
      have e1 : zxo l m (some q) = Int32.ofNat (4 * l + q) := if_pos (by omega)
      have eq1 : zFm I l m q = I 93 (4 * l + q) := if_pos (by omega)
      have zq : zix 0 37 0 (Int32.ofNat (4 * l + q)) := zix_nat rfl (by omega) (by omega)
      rw [e1, if_neg (fun z => nat_m1 (by omega) (of_decide_eq_true z)), if_pos zq, i32_clamp (n := 4 * l + q) (by omega)]
      by_cases c3 : I 93 (4 * l + i) < I 93 (4 * l + q)
      · rw [if_pos (decide_eq_true c3), zth_go]
        have c3 := i32_lt.mp c3
        rw [zbst_keep hb (by rw [eF, eq1]; omega), e1] at ih
        exact ih
      · rw [if_neg (fun z => c3 (of_decide_eq_true z)), zth_go]
        have c3 : ¬ (I 93 (4 * l + i)).toInt < (I 93 (4 * l + q)).toInt := fun z => c3 (i32_lt.mpr z)
        rw [zbst_some hb (by rw [eF, eO, eq1]; omega), e2] at ih
        exact ih
theorem terms_eq (xs : Nat → Int32) (L D : Nat) (hD : 6 ≤ D) (I : Nat → Nat → Int32) (J : Nat → Nat → Int64) (X : XH) (l m : Nat) (t k : Int32) (hl : l < 9) (hm : m ≤ 4) (h92 : I 92 l = Int32.ofNat m) : zev xs L D 187 [.ref 61, .int (Int32.ofNat l), .int t, .int k] (zmk I J X) = some (.inr (some (.int (zxo l m (zbst (zFm I l m) (zOm I l m k) t k (zNm I l m))))), zmk I J X) := by
  obtain ⟨d, rfl⟩ := Nat.exists_eq_add_of_le hD
  rw [Nat.add_comm 6 d]
  refine (zcS (S187_0 xs L d I J X _ _ _)).trans ?_
  rw [zth_go]
  exact terms_loop xs L d I J X l m t k hl hm h92 m 0 (by omega)
