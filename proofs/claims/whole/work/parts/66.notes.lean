/-! THE PURE PART: black boxes and rates, on both sides. -/
def yblk (V : Nat → Nat → Int32) (b t k : Int32) : Nat → Int32
  | 0 => 0
  | i + 1 => if V 84 i = b ∧ (V 85 i).toInt ≤ t.toInt ∧ (V 86 i).toInt ≤ k.toInt then V 91 i else yblk V b t k i
def yrat (V : Nat → Nat → Int32) (l m k : Int32) : Nat → Int32
  | 0 => 1000
  | i + 1 => if V 87 i = l ∧ V 88 i = m ∧ (V 90 i).toInt ≤ k.toInt then V 89 i else yrat V l m k i
theorem yblk_01 {V : Nat → Nat → Int32} (h : PBlk V) (b t k : Int32) : ∀ i, yblk V b t k i = 0 ∨ yblk V b t k i = 1
  | 0 => Or.inl rfl
  | i + 1 => by
    unfold yblk
    split
    · exact h.2.2.2.2.2 i
    · exact yblk_01 h b t k i
theorem blk_loop (xs : Nat → Int32) (L d : Nat) {V : Nat → Nat → Int32} (H : Nat → Nat → Int32) (J : Nat → Nat → Int64) (X : XH) (b t k : Int32) (h40 : H 40 = V 84) (h41 : H 41 = V 85) (h42 : H 42 = V 91) (h43 : H 43 = V 86) : ∀ i, i ≤ 60 → zgo xs L (d + 5) 41 2 [(0, .ref 39), (1, .int b), (2, .int t), (3, .int k), (4, .int 0), (5, .int (Int32.ofNat i - 1))] (zmk H J X) = some (.inr (some (.int (yblk V b t k i))), zmk H J X)
  | 0, _ => by
    rw [zgo_q, S41a_2, if_pos (by decide)]
    rfl
  | i + 1, hi => by
    have ih := blk_loop xs L d H J X b t k h40 h41 h42 h43 i (by omega)
    have e : Int32.ofNat i + (-1 : Int32) = Int32.ofNat i - 1 := (Int32.sub_eq_add_neg _ _).symm
    rw [zgo_q, S41a_2, nat_pred, if_neg (fun z => by
      have z := (nat_lt (a := i) (b := 0) (by omega) (by omega)).mp (of_decide_eq_true z)
      omega), zat_nat (by omega) (by omega), zat_nat (by omega) (by omega), zat_nat (by omega) (by omega), zat_nat (by omega) (by omega), h40, h41, h42, h43, e]
    have hno : ¬ (V 84 i = b ∧ (V 85 i).toInt ≤ t.toInt ∧ (V 86 i).toInt ≤ k.toInt) → yblk V b t k (i + 1) = yblk V b t k i := fun z => if_neg z
    by_cases c1 : V 84 i = b
    · rw [if_neg (fun z => (of_decide_eq_true z) c1)]
      by_cases c2 : t < V 85 i
      · rw [if_pos (decide_eq_true c2), zth_go, hno (fun z => by
          have c2 := i32_lt.mp c2
          omega)]
        exact ih
      rw [if_neg (fun z => c2 (of_decide_eq_true z))]
      have c2 : ¬ t.toInt < (V 85 i).toInt := fun z => c2 (i32_lt.mpr z)
      by_cases c3 : k < V 86 i
      · rw [if_pos (decide_eq_true c3), zth_go, hno (fun z => by
          have c3 := i32_lt.mp c3
          omega)]
        exact ih
      rw [if_neg (fun z => c3 (of_decide_eq_true z))]
      have c3 : ¬ k.toInt < (V 86 i).toInt := fun z => c3 (i32_lt.mpr z)
      have ey : yblk V b t k (i + 1) = V 91 i := if_pos ⟨c1, by omega, by omega⟩
      rw [ey]
      rfl
    · rw [if_pos (decide_eq_true (show ¬ V 84 i = b from c1)), zth_go, hno (fun z => c1 z.1)]
      exact ih
/-- the class asks whether the passage at hand is unpaid -/
theorem unpaid_c (xs : Nat → Int32) (L D : Nat) (hD : 7 ≤ D) {V H : Nat → Nat → Int32} (J : Nat → Nat → Int64) (X : XH) (k b t : Int32) (hB : PBlk V) (hC : zCH V k H) (h8 : H 49 8 = b) (h9 : H 49 9 = k) (h14 : H 49 14 = t) : zev xs L D 89 [.ref 49] (zmk H J X) = some (.inr (some (.int (yblk V b t k (nv (V 61 22))))), zmk H J X) := by
  obtain ⟨d, rfl⟩ := Nat.exists_eq_add_of_le hD
  rw [show 7 + d = d + 1 + 6 by omega]
  have hB0 := hB
  obtain ⟨⟨a1, a2, a3⟩, b1, b2, b3, b4, _⟩ := hB
  have n22 := nv_int a2
  have q : zev xs L (d + 1 + 5) 41 [.ref 39, .int b, .int t, .int k, .int 0] (zmk H J X) = some (.inr (some (.int (yblk V b t k (nv (V 61 22))))), zmk H J X) := by
    refine (zcS (S41a_0 xs L d H J X b t k 0)).trans ?_
    rw [zth_go, hC.1 39 (by decide) (by decide), a1]
    have e := blk_loop xs L d H J X b t k ((hC.1 40 (by decide) (by decide)).trans b1) ((hC.1 41 (by decide) (by decide)).trans b2) ((hC.1 42 (by decide) (by decide)).trans b3) ((hC.1 43 (by decide) (by decide)).trans b4) (nv (V 61 22)) (by omega)
    rw [nv_of a2] at e
    exact e
  refine (zcS (S89_0 xs L (d + 1) H J X)).trans ?_
  rw [h8, h9, h14, q, zci_i, T89_0_10_690 xs L (d + 1)]
  rcases yblk_01 hB0 b t k (nv (V 61 22)) with e | e
  · rw [e]
    rfl
  · rw [e]
    rfl
theorem blkm_loop (xs : Nat → Int32) (L d : Nat) {V : Nat → Nat → Int32} (M : Nat → Nat → Int32) (J : Nat → Nat → Int64) (X : XH) (b t k : Int32) (n : Nat) (hn : n ≤ 60) (hB : PBlk V) (h22 : M 61 22 = Int32.ofNat n) (h84 : M 84 = V 84) (h85 : M 85 = V 85) (h86 : M 86 = V 86) (h91 : M 91 = V 91) : ∀ (j i : Nat), i + j = n → zgo xs L (d + 5) 199 2 [(0, .ref 61), (1, .int b), (2, .int t), (3, .int k), (4, .int (yblk V b t k i)), (5, .int (Int32.ofNat i))] (zmk M J X) = some (.inr (some (.int (yblk V b t k n))), zmk M J X)
  | 0, i, hi => by
    have hi : i = n := by omega
    subst hi
    rw [zgo_q, S199_2, h22, if_pos (decide_eq_true ((nat_le (by omega) (by omega)).mpr (Nat.le_refl _))), if_pos (yblk_01 hB b t k i)]
    rfl
  | j + 1, i, hi => by
    have ih := blkm_loop xs L d M J X b t k n hn hB h22 h84 h85 h86 h91 j (i + 1) (by omega)
    have zi : zix 0 60 0 (Int32.ofNat i) := zix_nat rfl (by omega) (by omega)
    have zi1 : zix 1 60 1 (Int32.ofNat i) := zix_nat rfl (by omega) (by omega)
    rw [zgo_q, S199_2, h22, if_neg (fun z => by
      have := (nat_le (by omega) (by omega)).mp (of_decide_eq_true z)
      omega), if_pos zi, if_pos zi, if_pos zi, if_pos zi1, i32_clamp (n := i) (by omega), h84, h85, h86, h91, nat_succ]
    have hno : ¬ (V 84 i = b ∧ (V 85 i).toInt ≤ t.toInt ∧ (V 86 i).toInt ≤ k.toInt) → yblk V b t k (i + 1) = yblk V b t k i := fun z => if_neg z
    by_cases c1 : V 84 i = b
    · rw [if_neg (fun z => (of_decide_eq_true z) c1)]
      by_cases c3 : k < V 86 i
      · rw [hno (fun z => by
          have c3 := i32_lt.mp c3
          omega)] at ih
        rw [if_pos (decide_eq_true c3), zth_go]
        exact ih
      rw [if_neg (fun z => c3 (of_decide_eq_true z))]
      have c3 : ¬ k.toInt < (V 86 i).toInt := fun z => c3 (i32_lt.mpr z)
      by_cases c2 : t < V 85 i
      · rw [hno (fun z => by
          have c2 := i32_lt.mp c2
          omega)] at ih
        rw [if_pos (decide_eq_true c2), zth_go]
        exact ih
      rw [if_neg (fun z => c2 (of_decide_eq_true z))]
      have c2 : ¬ t.toInt < (V 85 i).toInt := fun z => c2 (i32_lt.mpr z)
      have ey : yblk V b t k (i + 1) = V 91 i := if_pos ⟨c1, by omega, by omega⟩
      rw [ey] at ih
      rw [zth_go]
      exact ih
    · rw [hno (fun z => c1 z.1)] at ih
      rw [if_pos (decide_eq_true (show ¬ V 84 i = b from c1)), zth_go]
      exact ih
theorem black_m (xs : Nat → Int32) (L D : Nat) (hD : 6 ≤ D) {V M : Nat → Nat → Int32} (J : Nat → Nat → Int64) (X : XH) (k b t : Int32) (hB : PBlk V) (h22 : M 61 22 = V 61 22) (h84 : M 84 = V 84) (h85 : M 85 = V 85) (h86 : M 86 = V 86) (h91 : M 91 = V 91) : zev xs L D 199 [.ref 61, .int b, .int t, .int k] (zmk M J X) = some (.inr (some (.int (yblk V b t k (nv (V 61 22))))), zmk M J X) := by
  obtain ⟨d, rfl⟩ := Nat.exists_eq_add_of_le hD
  rw [Nat.add_comm 6 d]
  have n22 := nv_int hB.1.2.1
  have a3 := hB.1.2.2
  refine (zcS (S199_0 xs L d M J X b t k)).trans ?_
  rw [zth_go]
  exact blkm_loop xs L d M J X b t k (nv (V 61 22)) (by omega) hB (by rw [h22, nv_of hB.1.2.1]) h84 h85 h86 h91 (nv (V 61 22)) 0 (by omega)
theorem rat_loop (xs : Nat → Int32) (L d : Nat) {V : Nat → Nat → Int32} (H : Nat → Nat → Int32) (J : Nat → Nat → Int64) (X : XH) (l m : Nat) (k : Int32) (hl : l < 9) (hm : m < 3) (hV : PRat V) (h45 : H 45 = V 45) (h46 : H 46 = V 46) (h47 : H 47 = V 47) (h48 : H 48 = V 48) : ∀ i, i ≤ nv (V 61 23) → zgo xs L (d + 5) 41 2 [(0, .ref 44), (1, .int (Int32.ofNat (l * 3 + m))), (2, .int 0), (3, .int k), (4, .int 1000), (5, .int (Int32.ofNat i - 1))] (zmk H J X) = some (.inr (some (.int (yrat V (Int32.ofNat l) (Int32.ofNat m) k i))), zmk H J X)
  | 0, _ => by
    rw [zgo_q, S41b_2, if_pos (by decide)]
    rfl
  | i + 1, hi => by
    have ih := rat_loop xs L d H J X l m k hl hm hV h45 h46 h47 h48 i (by omega)
    have e : Int32.ofNat i + (-1 : Int32) = Int32.ofNat i - 1 := (Int32.sub_eq_add_neg _ _).symm
    obtain ⟨⟨a1, a2, a3⟩, ⟨r47, r48⟩, hr⟩ := hV
    have n23 := nv_int a2
    obtain ⟨q45, q87, q88, q46, q89⟩ := hr i (by omega)
    rw [zgo_q, S41b_2, nat_pred, if_neg (fun z => by
      have z := (nat_lt (a := i) (b := 0) (by omega) (by omega)).mp (of_decide_eq_true z)
      omega), zat_nat (by omega) (by omega), zat_nat (by omega) (by omega), zat_nat (by omega) (by omega), zat_nat (by omega) (by omega), h45, h46, h47, h48, r47, r48, q45, q46, e]
    have hno : ¬ (V 87 i = Int32.ofNat l ∧ V 88 i = Int32.ofNat m ∧ (V 90 i).toInt ≤ k.toInt) → yrat V (Int32.ofNat l) (Int32.ofNat m) k (i + 1) = yrat V (Int32.ofNat l) (Int32.ofNat m) k i := fun z => if_neg z
    have e3 : (3 : Int32).toInt = 3 := by decide
    have em : (V 87 i * 3).toInt = (V 87 i).toInt * 3 := by rw [i32_mul (by rw [e3]; omega) (by rw [e3]; omega), e3]
    have es : (V 87 i * 3 + V 88 i).toInt = (V 87 i).toInt * 3 + (V 88 i).toInt := by rw [i32_add (by omega) (by omega), em]
    have hcell : V 87 i * 3 + V 88 i = Int32.ofNat (l * 3 + m) ↔ V 87 i = Int32.ofNat l ∧ V 88 i = Int32.ofNat m := by
      rw [i32_eq, i32_eq, i32_eq, es, i32_toInt (by omega), i32_toInt (by omega), i32_toInt (by omega)]
      omega
    by_cases c1 : V 87 i = Int32.ofNat l ∧ V 88 i = Int32.ofNat m
    · rw [if_neg (fun z => (of_decide_eq_true z) (hcell.mpr c1)), if_neg (by decide)]
      by_cases c3 : k < V 90 i
      · rw [if_pos (decide_eq_true c3), zth_go, hno (fun z => by
          have c3 := i32_lt.mp c3
          omega)]
        exact ih
      rw [if_neg (fun z => c3 (of_decide_eq_true z))]
      have c3 : ¬ k.toInt < (V 90 i).toInt := fun z => c3 (i32_lt.mpr z)
      have ey : yrat V (Int32.ofNat l) (Int32.ofNat m) k (i + 1) = V 89 i := if_pos ⟨c1.1, c1.2, by omega⟩
      rw [ey]
      rfl
    · rw [if_pos (decide_eq_true (show ¬ V 87 i * 3 + V 88 i = Int32.ofNat (l * 3 + m) from fun z => c1 (hcell.mp z))), zth_go, hno (fun z => c1 ⟨z.1, z.2.1⟩)]
      exact ih
theorem rate_c (xs : Nat → Int32) (L D : Nat) (hD : 6 ≤ D) {V H : Nat → Nat → Int32} (J : Nat → Nat → Int64) (X : XH) (l m : Nat) (k k' : Int32) (hl : l < 9) (hm : m < 3) (hV : PRat V) (hC : zCH V k' H) : zev xs L D 41 [.ref 44, .int (Int32.ofNat (l * 3 + m)), .int 0, .int k, .int 1000] (zmk H J X) = some (.inr (some (.int (yrat V (Int32.ofNat l) (Int32.ofNat m) k (nv (V 61 23))))), zmk H J X) := by
  obtain ⟨d, rfl⟩ := Nat.exists_eq_add_of_le hD
  rw [Nat.add_comm 6 d]
  refine (zcS (S41b_0 xs L d H J X _ 0 k 1000)).trans ?_
  rw [zth_go, hC.1 44 (by decide) (by decide), hV.1.1]
  have e := rat_loop xs L d H J X l m k hl hm hV (hC.1 45 (by decide) (by decide)) (hC.1 46 (by decide) (by decide)) (hC.1 47 (by decide) (by decide)) (hC.1 48 (by decide) (by decide)) (nv (V 61 23)) (Nat.le_refl _)
  rw [nv_of hV.1.2.1] at e
  exact e
theorem ratm_loop (xs : Nat → Int32) (L d : Nat) {V : Nat → Nat → Int32} (M : Nat → Nat → Int32) (J : Nat → Nat → Int64) (X : XH) (l m k : Int32) (n : Nat) (hn : n ≤ 60) (h23 : M 61 23 = Int32.ofNat n) (h87 : M 87 = V 87) (h88 : M 88 = V 88) (h89 : M 89 = V 89) (h90 : M 90 = V 90) : ∀ (j i : Nat), i + j = n → zgo xs L (d + 5) 203 2 [(0, .ref 61), (1, .int l), (2, .int m), (3, .int k), (4, .long (yrat V l m k i).toInt64), (6, .int (Int32.ofNat i))] (zmk M J X) = some (.inr (some (.long (yrat V l m k n).toInt64)), zmk M J X)
  | 0, i, hi => by
    have hi : i = n := by omega
    subst hi
    rw [zgo_q, S203_2, h23, if_pos (decide_eq_true ((nat_le (by omega) (by omega)).mpr (Nat.le_refl _)))]
    rfl
  | j + 1, i, hi => by
    have ih := ratm_loop xs L d M J X l m k n hn h23 h87 h88 h89 h90 j (i + 1) (by omega)
    have zi : zix 0 60 0 (Int32.ofNat i) := zix_nat rfl (by omega) (by omega)
    rw [zgo_q, S203_2, h23, if_neg (fun z => by
      have := (nat_le (by omega) (by omega)).mp (of_decide_eq_true z)
      omega), if_pos zi, if_pos zi, if_pos zi, if_pos zi, i32_clamp (n := i) (by omega), h87, h88, h89, h90, nat_succ]
    have hno : ¬ (V 87 i = l ∧ V 88 i = m ∧ (V 90 i).toInt ≤ k.toInt) → yrat V l m k (i + 1) = yrat V l m k i := fun z => if_neg z
    by_cases c1 : V 87 i = l
    · rw [if_neg (fun z => (of_decide_eq_true z) c1)]
      by_cases c2 : V 88 i = m
      · rw [if_neg (fun z => (of_decide_eq_true z) c2)]
        by_cases c3 : k < V 90 i
        · rw [hno (fun z => by
            have c3 := i32_lt.mp c3
            omega)] at ih
          rw [if_pos (decide_eq_true c3), zth_go]
          exact ih
        rw [if_neg (fun z => c3 (of_decide_eq_true z))]
        have c3 : ¬ k.toInt < (V 90 i).toInt := fun z => c3 (i32_lt.mpr z)
        have ey : yrat V l m k (i + 1) = V 89 i := if_pos ⟨c1, c2, by omega⟩
        rw [ey] at ih
        rw [zth_go]
        exact ih
      · rw [hno (fun z => c2 z.2.1)] at ih
        rw [if_pos (decide_eq_true (show ¬ V 88 i = m from c2)), zth_go]
        exact ih
    · rw [hno (fun z => c1 z.1)] at ih
      rw [if_pos (decide_eq_true (show ¬ V 87 i = l from c1)), zth_go]
      exact ih
theorem rate_m (xs : Nat → Int32) (L D : Nat) (hD : 6 ≤ D) {V M : Nat → Nat → Int32} (J : Nat → Nat → Int64) (X : XH) (l m k : Int32) (hV : PRat V) (h23 : M 61 23 = V 61 23) (h87 : M 87 = V 87) (h88 : M 88 = V 88) (h89 : M 89 = V 89) (h90 : M 90 = V 90) : zev xs L D 203 [.ref 61, .int l, .int m, .int k] (zmk M J X) = some (.inr (some (.long (yrat V l m k (nv (V 61 23))).toInt64)), zmk M J X) := by
  obtain ⟨d, rfl⟩ := Nat.exists_eq_add_of_le hD
  rw [Nat.add_comm 6 d]
  have n23 := nv_int hV.1.2.1
  have a3 := hV.1.2.2
  refine (zcS (S203_0 xs L d M J X l m k)).trans ?_
  rw [zth_go]
  exact ratm_loop xs L d M J X l m k (nv (V 61 23)) (by omega) (by rw [h23, nv_of hV.1.2.1]) h87 h88 h89 h90 (nv (V 61 23)) 0 (by omega)
