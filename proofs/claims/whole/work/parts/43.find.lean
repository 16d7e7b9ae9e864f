/-! THE PURE PART: the terms that count for a minute, as both sides find them. -/
/-- the last of the best of the first n: told by k, from t or ahead on, from no earlier than the best ahead -/
def zbst (F O : Nat → Int32) (t k : Int32) : Nat → Option Nat
  | 0 => none
  | i + 1 => match zbst F O t k i with
    | none => if (O i).toInt ≤ k.toInt ∧ (F i).toInt ≤ t.toInt then some i else none
    | some j => if (O i).toInt ≤ k.toInt ∧ (F i).toInt ≤ t.toInt ∧ (F j).toInt ≤ (F i).toInt then some i else some j
theorem zbst_lt {F O : Nat → Int32} {t k : Int32} : ∀ {n j : Nat}, zbst F O t k n = some j → j < n
  | 0, j, h => by cases h
  | n + 1, j, h => by
    unfold zbst at h
    cases e : zbst F O t k n with
    | none =>
      rw [e] at h
      have h : (if (O n).toInt ≤ k.toInt ∧ (F n).toInt ≤ t.toInt then some n else none) = some j := h
      split at h
      · cases h
        omega
      · cases h
    | some i =>
      rw [e] at h
      have h : (if (O n).toInt ≤ k.toInt ∧ (F n).toInt ≤ t.toInt ∧ (F i).toInt ≤ (F n).toInt then some n else some i) = some j := h
      have := zbst_lt e
      split at h
      · cases h
        omega
      · cases h
        omega
theorem zbst_no {F O : Nat → Int32} {t k : Int32} {i : Nat} (h : ¬ ((O i).toInt ≤ k.toInt ∧ (F i).toInt ≤ t.toInt)) : zbst F O t k (i + 1) = zbst F O t k i := by
  show (match zbst F O t k i with
    | none => if (O i).toInt ≤ k.toInt ∧ (F i).toInt ≤ t.toInt then some i else none
    | some j => if (O i).toInt ≤ k.toInt ∧ (F i).toInt ≤ t.toInt ∧ (F j).toInt ≤ (F i).toInt then some i else some j) = _
  cases e : zbst F O t k i with
  | none => exact if_neg h
  | some j => exact if_neg (fun z => h ⟨z.1, z.2.1⟩)
theorem zbst_congr {F O G P : Nat → Int32} {t k : Int32} : ∀ {n : Nat}, (∀ i, i < n → F i = G i ∧ ((O i).toInt ≤ k.toInt ↔ (P i).toInt ≤ k.toInt)) → zbst F O t k n = zbst G P t k n
  | 0, _ => rfl
  | n + 1, h => by
    have ih := zbst_congr (n := n) (t := t) (fun i hi => h i (by omega))
    have hn := h n (by omega)
    unfold zbst
    rw [ih]
    cases e : zbst G P t k n with
    | none =>
      show (if _ then _ else _) = (if _ then _ else _)
      rw [hn.1]
      by_cases c : (O n).toInt ≤ k.toInt ∧ (G n).toInt ≤ t.toInt
      · rw [if_pos c, if_pos ⟨hn.2.mp c.1, c.2⟩]
      · rw [if_neg c, if_neg (fun z => c ⟨hn.2.mpr z.1, z.2⟩)]
    | some j =>
      have hj := (h j (by have := zbst_lt e; omega)).1
      show (if _ then _ else _) = (if _ then _ else _)
      rw [hn.1, hj]
      by_cases c : (O n).toInt ≤ k.toInt ∧ (G n).toInt ≤ t.toInt ∧ (G j).toInt ≤ (G n).toInt
      · rw [if_pos c, if_pos ⟨hn.2.mp c.1, c.2⟩]
      · rw [if_neg c, if_neg (fun z => c ⟨hn.2.mpr z.1, z.2⟩)]
theorem zmk_K {I : Nat → Nat → Int32} {J : Nat → Nat → Int64} {X : XH} {a : Nat} (h : 123 ≤ a) : hK (zmk I J X) a = X.2.1 a := by
  show zKw X.2.1 a = _
  unfold zKw
  rw [show Nat.ble a 122 = false from Bool.eq_false_iff.mpr (fun z => by have := Nat.le_of_ble_eq_true z; omega)]
  rfl
theorem zmk_R {I : Nat → Nat → Int32} {J : Nat → Nat → Int64} {X : XH} {a k : Nat} (h : 123 ≤ a) : hR (zmk I J X) a k = X.1 a k := by
  show zRw X.1 a k = _
  unfold zRw
  rw [show Nat.ble a 122 = false from Bool.eq_false_iff.mpr (fun z => by have := Nat.le_of_ble_eq_true z; omega)]
  rfl
theorem get_eq (xs : Nat → Int32) (L D : Nat) (hD : 6 ≤ D) (I : Nat → Nat → Int32) (J : Nat → Nat → Int64) (X : XH) (p r : Nat) (hp : p < 45) (h : X.1 18 p = some r) : zev xs L D 5 [.ref 15, .int (Int32.ofNat p)] (zmk I J X) = some (.inr (some (.ref r)), zmk I J X) := by
  obtain ⟨d, rfl⟩ := Nat.exists_eq_add_of_le hD
  rw [Nat.add_comm 6 d]
  have S : zseg (zE xs L (d + 5) 5) (zC 5) 700 (zC 5 0) [(0, .ref 15), (1, .int (Int32.ofNat p))] [] (zmk I J X) = some (.inr (.inr (some (.ref r)), zmk I J X)) := by
    refine (zb_neg (p := Int32.ofNat p < 0) (fun z => by
      have z := (nat_lt (a := p) (b := 0) (by omega) (by omega)).mp z
      omega)).trans ?_
    refine (zb_neg (p := Int32.ofNat 45 ≤ Int32.ofNat p) (fun z => by
      have z := (nat_le (a := 45) (b := p) (by omega) (by omega)).mp z
      omega)).trans ?_
    refine (if_pos (show zin (zmk I J X) 18 3 (Int32.ofNat p) from zix_nat (t := 3) (n := 45) rfl (by omega) (by omega))).trans ?_
    show zseg (zE xs L (d + 5) 5) (zC 5) 689 (zB5_0.drop 11) [(0, .ref 15), (1, .int (Int32.ofNat p))] [zrf (X.1 18 (Int32.ofNat p).toNatClampNeg)] (zmk I J X) = _
    rw [i32_clamp (by omega), h]
    rfl
  refine (zcS S).trans ?_
  rfl
/-- the class's terms of a land: references, from when, when told -/
def zEnt (I : Nat → Nat → Int32) (X : XH) (l n : Nat) (ρ : Nat → Nat) (F O : Nat → Int32) : Prop := l < 9 ∧ n ≤ 5 ∧ I 19 l = Int32.ofNat n ∧ I 16 0 = -1 ∧ ∀ i, i < n → X.1 18 (5 * l + i) = some (ρ i) ∧ 123 ≤ ρ i ∧ X.2.1 (ρ i) = (18, 0) ∧ I (ρ i) 0 = F i ∧ I (ρ i) 1 = O i ∧ 0 ≤ (F i).toInt
def zrfo (ρ : Nat → Nat) : Option Nat → Nat
  | none => 16
  | some j => ρ j
theorem find_loop (xs : Nat → Int32) (L d : Nat) (I : Nat → Nat → Int32) (J : Nat → Nat → Int64) (X : XH) (l n : Nat) (ρ : Nat → Nat) (F O : Nat → Int32) (t k : Int32) (h : zEnt I X l n ρ F O) : ∀ (j i : Nat), i + j = n → zgo xs L (d + 6) 4 2 [(0, .ref 15), (1, .int (Int32.ofNat l)), (2, .int t), (3, .int k), (4, .ref (zrfo ρ (zbst F O t k i))), (5, .int (Int32.ofNat n)), (6, .int (Int32.ofNat i))] (zmk I J X) = some (.inr (some (.ref (zrfo ρ (zbst F O t k n)))), zmk I J X)
  | 0, i, hi => by
    have hi : i = n := by omega
    subst hi
    have hn := h.2.1
    rw [zgo_q, S4_2 xs L (d + 1), if_pos (decide_eq_true ((nat_le (by omega) (by omega)).mpr (Nat.le_refl _)))]
    rfl
  | j + 1, i, hi => by
    have ih := find_loop xs L d I J X l n ρ F O t k h j (i + 1) (by omega)
    obtain ⟨hl, hn, _, hu, he⟩ := h
    obtain ⟨e1, e2, e3, e4, e5, e6⟩ := he i (by omega)
    have hidx : Int32.ofNat l * (5 : Int32) + Int32.ofNat i = Int32.ofNat (5 * l + i) := by
      show Int32.ofNat l * Int32.ofNat 5 + Int32.ofNat i = _
      rw [nat_mul, nat_add, Nat.mul_comm]
    have hk : hK (zmk I J X) (ρ i) = (18, 0) := (zmk_K e2).trans e3
    rw [zgo_q, S4_2 xs L (d + 1), if_neg (fun z => by
      have := (nat_le (by omega) (by omega)).mp (of_decide_eq_true z)
      omega), hidx, get_eq xs L _ (by omega) I J X _ _ (by omega) e1, zcr_r, T4_2_10_690, if_pos hk, if_pos hk, if_pos hk, e4, e5, nat_succ]
    by_cases c1 : k < O i
    · rw [if_pos (decide_eq_true c1), zth_go]
      have e : zbst F O t k (i + 1) = zbst F O t k i := by
        have c1 := i32_lt.mp c1
        exact zbst_no (fun z => by omega)
      rw [e] at ih
      exact ih
    · rw [if_neg (fun z => c1 (of_decide_eq_true z))]
      have c1 : (O i).toInt ≤ k.toInt := by
        have : ¬ k.toInt < (O i).toInt := fun z => c1 (i32_lt.mpr z)
        omega
      by_cases c2 : t < F i
      · rw [if_pos (decide_eq_true c2), zth_go]
        have e : zbst F O t k (i + 1) = zbst F O t k i := by
          have c2 := i32_lt.mp c2
          exact zbst_no (fun z => by omega)
        rw [e] at ih
        exact ih
      · rw [if_neg (fun z => c2 (of_decide_eq_true z))]
        have c2 : (F i).toInt ≤ t.toInt := by
          have : ¬ t.toInt < (F i).toInt := fun z => c2 (i32_lt.mpr z)
          omega
        cases hb : zbst F O t k i with
        | none =>
          have e : zbst F O t k (i + 1) = some i := by
            unfold zbst
            rw [hb]
            exact if_pos ⟨c1, c2⟩
          rw [e] at ih
          show zth xs L (d + 6) 4 (if hK (zmk I J X) 16 = (18, 0) then (if decide (F i < I 16 0) = true then _ else _) else _) = _
          rw [if_pos (show hK (zmk I J X) 16 = (18, 0) from rfl), hu, if_neg (fun z => by
            have z := i32_lt.mp (of_decide_eq_true z)
            rw [i32_m1] at z
            omega), zth_go]
          exact ih
        | some q =>
          have hq := zbst_lt hb
          obtain ⟨q1, q2, q3, q4, q5, q6⟩ := he q (by omega)
          show zth xs L (d + 6) 4 (if hK (zmk I J X) (ρ q) = (18, 0) then (if decide (F i < I (ρ q) 0) = true then _ else _) else _) = _
          rw [if_pos ((zmk_K q2).trans q3), q4]
          by_cases c3 : F i < F q
          · rw [if_pos (decide_eq_true c3), zth_go]
            have e : zbst F O t k (i + 1) = some q := by
              have c3 := i32_lt.mp c3
              unfold zbst
              rw [hb]
              exact if_neg (fun z => by have := z.2.2; omega)
            rw [e] at ih
            exact ih
          · rw [if_neg (fun z => c3 (of_decide_eq_true z)), zth_go]
            have e : zbst F O t k (i + 1) = some i := by
              have c3 : ¬ (F i).toInt < (F q).toInt := fun z => c3 (i32_lt.mpr z)
              unfold zbst
              rw [hb]
              exact if_pos ⟨c1, c2, by omega⟩
            rw [e] at ih
            exact ih
theorem find_eq (xs : Nat → Int32) (L D : Nat) (hD : 7 ≤ D) (I : Nat → Nat → Int32) (J : Nat → Nat → Int64) (X : XH) (l n : Nat) (ρ : Nat → Nat) (F O : Nat → Int32) (t k : Int32) (h : zEnt I X l n ρ F O) : zev xs L D 4 [.ref 15, .int (Int32.ofNat l), .int t, .int k] (zmk I J X) = some (.inr (some (.ref (zrfo ρ (zbst F O t k n)))), zmk I J X) := by
  obtain ⟨d, rfl⟩ := Nat.exists_eq_add_of_le hD
  rw [show 7 + d = d + 1 + 6 by omega]
  refine (zcS (S4_0 xs L (d + 1) I J X _ _ _)).trans ?_
  have hl := h.1
  rw [zth_go, zat_nat (by omega) (by omega), h.2.2.1]
  exact find_loop xs L d I J X l n ρ F O t k h n 0 (by omega)
