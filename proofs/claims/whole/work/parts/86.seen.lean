/-! THE PURE PART: ways, and what a set of cameras sees. -/
def PWay (V : Nat → Nat → Int32) : Prop := (V 57 0 = V 61 69 ∧ 0 ≤ (V 61 69).toInt ∧ (V 61 69).toInt ≤ 20) ∧ (∀ j, j < nv (V 61 69) → (1 ≤ (V 105 j).toInt ∧ (V 105 j).toInt ≤ 6) ∧ (∀ i, i < nv (V 105 j) → 0 ≤ (V 107 (6 * j + i)).toInt ∧ (V 107 (6 * j + i)).toInt < (V 61 4).toInt) ∧ V 58 j = ymk (fun i => V 107 (6 * j + i)) (nv (V 105 j)) ∧ V 59 j = V 106 j ∧ 1 ≤ (V 106 j).toInt ∧ (V 106 j).toInt ≤ 999) ∧ (V 57 4 = 0 ∨ ∀ z, z ≤ 12 → ∃ s, V 60 z = Int32.ofNat s ∧ yisB (fun j => nv (V 58 j)) (fun j => nv (V 59 j)) (nv (V 61 69)) z s)
def yse (V : Nat → Nat → Int32) (a : Int32) : Nat → Int32
  | 0 => 0
  | j + 1 => yse V a j + (if V 58 j &&& a = 0 then 0 else V 59 j)
theorem seen_loop (xs : Nat → Int32) (L d : Nat) (I : Nat → Nat → Int32) (J : Nat → Nat → Int64) (X : XH) (a : Int32) (m : Nat) (h0 : I 57 0 = Int32.ofNat m) (hm : m ≤ 20) : ∀ (q j : Nat), j + q = m → zgo xs L (d + 5) 91 2 [(0, .ref 57), (1, .int a), (2, .int (yse I a j)), (3, .int (Int32.ofNat j))] (zmk I J X) = some (.inr (some (.int (yse I a m))), zmk I J X)
  | 0, j, hj => by
    have hj : j = m := hj
    subst hj
    rw [zgo_q, S91_2 xs L d, h0, if_pos (decide_eq_true ((nat_le (by omega) (by omega)).mpr (Nat.le_refl _)))]
    rfl
  | q + 1, j, hj => by
    have ih := seen_loop xs L d I J X a m h0 hm q (j + 1) (by omega)
    have e : yse I a (j + 1) = yse I a j + (if I 58 j &&& a = 0 then 0 else I 59 j) := rfl
    rw [zgo_q, S91_2 xs L d, h0, if_neg (fun z => by
      have := (nat_le (by omega) (by omega)).mp (of_decide_eq_true z)
      omega), zat_nat (by omega) (by omega), zat_nat (by omega) (by omega)]
    refine Eq.trans ?_ ih
    rw [e]
    by_cases c : I 58 j &&& a = 0
    · rw [if_pos (decide_eq_true c), if_pos c, Int32.add_zero, zth_go, nat_succ]
    · rw [if_neg (fun z => c (of_decide_eq_true z)), if_neg c, zth_go, nat_succ]
theorem seen_c (xs : Nat → Int32) (L D : Nat) (hD : 6 ≤ D) (I : Nat → Nat → Int32) (J : Nat → Nat → Int64) (X : XH) (a : Int32) (m : Nat) (h0 : I 57 0 = Int32.ofNat m) (hm : m ≤ 20) : zev xs L D 91 [.ref 57, .int a] (zmk I J X) = some (.inr (some (.int (yse I a m))), zmk I J X) := by
  obtain ⟨d, rfl⟩ := Nat.exists_eq_add_of_le hD
  rw [Nat.add_comm 6 d]
  refine (zcS (S91_0 xs L d I J X a)).trans ?_
  rw [zth_go]
  exact seen_loop xs L d I J X a m h0 hm m 0 (Nat.zero_add _)
theorem hit_loop (xs : Nat → Int32) (L d : Nat) (M : Nat → Nat → Int32) (J : Nat → Nat → Int64) (X : XH) (a s : Int32) (j n : Nat) (hj : j < 20) (hn : M 105 j = Int32.ofNat n) (hn6 : n ≤ 6) : ∀ (q i : Nat), i + q = n → zgo xs L (d + 5) 208 5 [(0, .ref 61), (1, .int a), (2, .int s), (3, .int (Int32.ofNat j)), (4, .int (if yhit (fun i => M 107 (6 * j + i)) a i = true then 1 else 0)), (5, .int (Int32.ofNat i))] (zmk M J X) = zgo xs L (d + 5) 208 2 [(0, .ref 61), (1, .int a), (2, .int (s + (if yhit (fun i => M 107 (6 * j + i)) a n = true then M 106 j else 0))), (3, .int (Int32.ofNat (j + 1)))] (zmk M J X)
  | 0, i, hi => by
    have hi : i = n := hi
    subst hi
    have ej : (Int32.ofNat j).toNatClampNeg = j := i32_clamp (by omega)
    have e5 : M 105 (Int32.ofNat j).toNatClampNeg = Int32.ofNat i := by rw [ej, hn]
    have e6 : M 106 (Int32.ofNat j).toNatClampNeg = M 106 j := by rw [ej]
    have zj : zix 0 20 0 (Int32.ofNat j) := zix_nat rfl (by omega) (by omega)
    rw [zgo_q, S208_5 xs L d, if_pos zj, e5, e6, if_pos (decide_eq_true ((nat_le (by omega) (by omega)).mpr (Nat.le_refl _)))]
    by_cases c : yhit (fun i => M 107 (6 * j + i)) a i = true
    · rw [if_pos c, if_pos c, if_neg (show ¬ decide ((1 : Int32) = 0) = true by decide), if_pos zj, zth_go, nat_succ]
    · rw [if_neg c, if_neg c, if_pos (show decide ((0 : Int32) = 0) = true by decide), zth_go, nat_succ]
  | q + 1, i, hi => by
    have ej : (Int32.ofNat j).toNatClampNeg = j := i32_clamp (by omega)
    have e5 : M 105 (Int32.ofNat j).toNatClampNeg = Int32.ofNat n := by rw [ej, hn]
    have e6 : M 106 (Int32.ofNat j).toNatClampNeg = M 106 j := by rw [ej]
    have zj : zix 0 20 0 (Int32.ofNat j) := zix_nat rfl (by omega) (by omega)
    have ei : (6 : Int32) * Int32.ofNat j + Int32.ofNat i = Int32.ofNat (6 * j + i) := by
      show Int32.ofNat 6 * Int32.ofNat j + Int32.ofNat i = _
      rw [nat_mul, nat_add]
    have eI : M 107 ((6 : Int32) * Int32.ofNat j + Int32.ofNat i).toNatClampNeg = M 107 (6 * j + i) := by rw [ei, i32_clamp (by omega)]
    have zi : zix 0 120 0 ((6 : Int32) * Int32.ofNat j + Int32.ofNat i) := by
      rw [ei]
      exact zix_nat rfl (by omega) (by omega)
    have ih := hit_loop xs L d M J X a s j n hj hn hn6 q (i + 1) (by omega)
    have e2 : yhit (fun i => M 107 (6 * j + i)) a (i + 1) = (yhit (fun i => M 107 (6 * j + i)) a i || (decide (¬ (12 : Int32) ≤ M 107 (6 * j + i)) && decide ((a >>> (M 107 (6 * j + i) &&& 31)) &&& 1 = 1))) := rfl
    rw [zgo_q, S208_5 xs L d, if_pos zj, e5, if_neg (fun z => by
      have := (nat_le (by omega) (by omega)).mp (of_decide_eq_true z)
      omega), if_pos zi, eI]
    refine Eq.trans ?_ ih
    rw [e2]
    by_cases c : yhit (fun i => M 107 (6 * j + i)) a i = true
    · rw [c, Bool.true_or, if_pos (show true = true from rfl), if_pos (show decide (¬ (1 : Int32) = 0) = true by decide), zth_go, nat_succ]
    · rw [Bool.eq_false_iff.mpr c, Bool.false_or, if_neg (show ¬ false = true by decide), if_neg (show ¬ decide (¬ (0 : Int32) = 0) = true by decide)]
      by_cases c1 : (12 : Int32) ≤ M 107 (6 * j + i)
      · rw [if_pos (decide_eq_true c1), decide_eq_false (show ¬ ¬ (12 : Int32) ≤ M 107 (6 * j + i) from fun z => z c1), Bool.false_and, if_neg (show ¬ false = true by decide), zth_go, nat_succ]
      · rw [if_neg (fun z => c1 (of_decide_eq_true z)), decide_eq_true (show ¬ (12 : Int32) ≤ M 107 (6 * j + i) from c1), Bool.true_and]
        by_cases c2 : (a >>> (M 107 (6 * j + i) &&& 31)) &&& 1 = 1
        · rw [if_neg (fun z => (of_decide_eq_true z) c2), if_pos (decide_eq_true c2), zth_go, nat_succ]
        · rw [if_pos (decide_eq_true c2), if_neg (fun z => c2 (of_decide_eq_true z)), zth_go, nat_succ]
theorem way_loop (xs : Nat → Int32) (L d : Nat) {V M : Nat → Nat → Int32} (J : Nat → Nat → Int64) (X : XH) (a : Int32) (hP : PWay V) (h105 : M 105 = V 105) (h106 : M 106 = V 106) (h107 : M 107 = V 107) (h69 : M 61 69 = V 61 69) : ∀ (q j : Nat), j + q = nv (V 61 69) → zgo xs L (d + 5) 208 2 [(0, .ref 61), (1, .int a), (2, .int (yse V a j)), (3, .int (Int32.ofNat j))] (zmk M J X) = some (.inr (some (.int (yse V a (nv (V 61 69))))), zmk M J X)
  | 0, j, hj => by
    have hj : j = nv (V 61 69) := hj
    obtain ⟨⟨p1, p2, p3⟩, _, _⟩ := hP
    have hm := nv_int p2
    rw [zgo_q, S208_2 xs L d, h69, ← nv_of p2, ← hj, if_pos (decide_eq_true ((nat_le (by omega) (by omega)).mpr (Nat.le_refl _)))]
    rw [nv_nat (by omega)]
    rfl
  | q + 1, j, hj => by
    have hm := nv_int hP.1.2.1
    have hm2 := hP.1.2.2
    obtain ⟨w1, w2, w3, w4, w5⟩ := hP.2.1 j (by omega)
    have ih := way_loop xs L d J X a hP h105 h106 h107 h69 q (j + 1) (by omega)
    have e : yse V a (j + 1) = yse V a j + (if V 58 j &&& a = 0 then 0 else V 59 j) := rfl
    have hn := nv_int (x := V 105 j) (by omega)
    have hl := hit_loop xs L d M J X a (yse V a j) j (nv (V 105 j)) (by omega) (by rw [h105, nv_of (by omega)]) (by omega) (nv (V 105 j)) 0 (Nat.zero_add _)
    have hk := ymk_hit (fun i => V 107 (6 * j + i)) a (nv (V 105 j)) (fun i hi => (w2 i hi).1)
    rw [← w3] at hk
    rw [zgo_q, S208_2 xs L d, h69, ← nv_of hP.1.2.1, if_neg (fun z => by
      have := (nat_le (by omega) (by omega)).mp (of_decide_eq_true z)
      omega), zth_go]
    rw [nv_of hP.1.2.1]
    refine Eq.trans ?_ (hl.trans (Eq.trans ?_ ih))
    · rfl
    · rw [h107, h106, e]
      by_cases c : V 58 j &&& a = 0
      · rw [hk.mp c, if_pos c, if_neg (show ¬ false = true by decide)]
      · have c' : yhit (fun i => V 107 (6 * j + i)) a (nv (V 105 j)) = true := by
          cases q : yhit (fun i => V 107 (6 * j + i)) a (nv (V 105 j))
          · exact absurd (hk.mpr q) c
          · rfl
        rw [c', if_neg c, if_pos (show true = true from rfl), w4]
theorem seen_m (xs : Nat → Int32) (L D : Nat) (hD : 6 ≤ D) {V M : Nat → Nat → Int32} (J : Nat → Nat → Int64) (X : XH) (a : Int32) (hP : PWay V) (h105 : M 105 = V 105) (h106 : M 106 = V 106) (h107 : M 107 = V 107) (h69 : M 61 69 = V 61 69) : zev xs L D 208 [.ref 61, .int a] (zmk M J X) = some (.inr (some (.int (yse V a (nv (V 61 69))))), zmk M J X) := by
  obtain ⟨d, rfl⟩ := Nat.exists_eq_add_of_le hD
  rw [Nat.add_comm 6 d]
  refine (zcS (S208_0 xs L d M J X a)).trans ?_
  rw [zth_go]
  exact way_loop xs L d J X a hP h105 h106 h107 h69 _ 0 (Nat.zero_add _)
