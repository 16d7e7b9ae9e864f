/-! THE PURE PART: what holds between calls, in pieces; what a call leaves as it was. -/
/-- another heap of ints that differs at objects of S and at the model's fields of T alone -/
def zfr8 (S T : List Nat) (I I2 : Nat → Nat → Int32) : Prop := (∀ b, b ∉ S → b ≠ 61 → I2 b = I b) ∧ ∀ k, k ∉ T → I2 61 k = I 61 k
theorem zfr8_rfl {S T : List Nat} {I : Nat → Nat → Int32} : zfr8 S T I I := ⟨fun _ _ _ => rfl, fun _ _ => rfl⟩
theorem zfr8_up {S T : List Nat} {I I2 : Nat → Nat → Int32} {a k : Nat} {v : Int32} (h : zfr8 S T I I2) (ha : a ∈ S) (hn : a ≠ 61) : zfr8 S T I (zup I2 a k v) := by
  refine ⟨fun b hb h6 => ?_, fun j hj => ?_⟩
  · have : b ≠ a := fun e => hb (e ▸ ha)
    exact (if_neg this).trans (h.1 b hb h6)
  · have e : zup I2 a k v 61 = I2 61 := if_neg (fun e => hn e.symm)
    rw [e]
    exact h.2 j hj
theorem zfr8_m {S T : List Nat} {I I2 : Nat → Nat → Int32} {k : Nat} {v : Int32} (h : zfr8 S T I I2) (hk : k ∈ T) : zfr8 S T I (zup I2 61 k v) := by
  refine ⟨fun b hb h6 => ?_, fun j hj => ?_⟩
  · exact (if_neg h6).trans (h.1 b hb h6)
  · have : j ≠ k := fun e => hj (e ▸ hk)
    have e : zup I2 61 k v 61 j = I2 61 j := by
      unfold zup
      rw [if_pos rfl, if_neg this]
    rw [e]
    exact h.2 j hj
theorem zfr8_put {S T : List Nat} {I I2 : Nat → Nat → Int32} {a n : Nat} {i v : Int32} (h : zfr8 S T I I2) (ha : a ∈ S) (hn : a ≠ 61) : zfr8 S T I (zput I2 a n i v) := by
  refine ⟨fun b hb h6 => ?_, fun j hj => ?_⟩
  · have : b ≠ a := fun e => hb (e ▸ ha)
    exact (if_neg this).trans (h.1 b hb h6)
  · have e : zput I2 a n i v 61 = I2 61 := if_neg (fun e => hn e.symm)
    rw [e]
    exact h.2 j hj
theorem zfr8_ov {S T : List Nat} {I I2 : Nat → Nat → Int32} {a : Nat} {f : Nat → Int32} (h : zfr8 S T I I2) (ha : a ∈ S) (hn : a ≠ 61) : zfr8 S T I (zov I2 a f) := by
  refine ⟨fun b hb h6 => ?_, fun j hj => ?_⟩
  · have : b ≠ a := fun e => hb (e ▸ ha)
    exact (if_neg this).trans (h.1 b hb h6)
  · have e : zov I2 a f 61 = I2 61 := if_neg (fun e => hn e.symm)
    rw [e]
    exact h.2 j hj
/-- a thrown exception's count -/
def zXe (X : XH) : XH := (X.1, X.2.1, X.2.2.1, X.2.2.2.1 + 1, X.2.2.2.2 + 6)
theorem zexc_mk (I : Nat → Nat → Int32) (J : Nat → Nat → Int64) (X : XH) : zexc (zmk I J X) = zmk I J (zXe X) := rfl
def PNow (I : Nat → Nat → Int32) : Prop := I 0 11 = I 61 2 ∧ 0 ≤ (I 61 2).toInt ∧ (I 61 2).toInt ≤ 129599
def PLand (I : Nat → Nat → Int32) : Prop := I 1 0 = I 61 3 ∧ 0 ≤ (I 61 3).toInt ∧ (I 61 3).toInt ≤ 9
def PFleet (I : Nat → Nat → Int32) : Prop := (I 9 0 = I 61 5 ∧ 0 ≤ (I 61 5).toInt ∧ (I 61 5).toInt ≤ 6) ∧ (I 9 1 = I 61 6 ∧ 0 ≤ (I 61 6).toInt ∧ (I 61 6).toInt ≤ 16) ∧ (I 9 2 = I 61 7 ∧ 0 ≤ (I 61 7).toInt ∧ (I 61 7).toInt ≤ 24) ∧ I 10 = I 68 ∧ I 11 = I 69 ∧ I 12 = I 70 ∧ I 13 = I 71 ∧ I 14 = I 72 ∧ (∀ p, p < nv (I 61 5) → 0 ≤ (I 68 p).toInt ∧ (I 68 p).toInt ≤ 1000000) ∧ ∀ b, b < nv (I 61 7) → (0 ≤ (I 71 b).toInt ∧ (I 71 b).toInt < (I 61 6).toInt) ∧ 0 ≤ (I 72 b).toInt ∧ (I 72 b).toInt < (I 61 5).toInt
theorem PNow_fr {S T : List Nat} {I I2 : Nat → Nat → Int32} (h : zfr8 S T I I2) (hs : ∀ b, b ∈ [0] → b ∉ S) (ht : ∀ k, k ∈ [2] → k ∉ T) (p : PNow I) : PNow I2 := by
  unfold PNow
  rw [h.1 0 (hs 0 (by decide)) (by decide), h.2 2 (ht 2 (by decide))]
  exact p
theorem PLand_fr {S T : List Nat} {I I2 : Nat → Nat → Int32} (h : zfr8 S T I I2) (hs : ∀ b, b ∈ [1] → b ∉ S) (ht : ∀ k, k ∈ [3] → k ∉ T) (p : PLand I) : PLand I2 := by
  unfold PLand
  rw [h.1 1 (hs 1 (by decide)) (by decide), h.2 3 (ht 3 (by decide))]
  exact p
theorem PFleet_fr {S T : List Nat} {I I2 : Nat → Nat → Int32} (h : zfr8 S T I I2) (hs : ∀ b, b ∈ [9, 10, 11, 12, 13, 14, 68, 69, 70, 71, 72] → b ∉ S) (ht : ∀ k, k ∈ [5, 6, 7] → k ∉ T) (p : PFleet I) : PFleet I2 := by
  unfold PFleet
  rw [h.1 9 (hs 9 (by decide)) (by decide), h.1 10 (hs 10 (by decide)) (by decide), h.1 11 (hs 11 (by decide)) (by decide), h.1 12 (hs 12 (by decide)) (by decide), h.1 13 (hs 13 (by decide)) (by decide), h.1 14 (hs 14 (by decide)) (by decide), h.1 68 (hs 68 (by decide)) (by decide), h.1 69 (hs 69 (by decide)) (by decide), h.1 70 (hs 70 (by decide)) (by decide), h.1 71 (hs 71 (by decide)) (by decide), h.1 72 (hs 72 (by decide)) (by decide), h.2 5 (ht 5 (by decide)), h.2 6 (ht 6 (by decide)), h.2 7 (ht 7 (by decide))]
  exact p
/-- a row that grows by one cell on both sides -/
theorem zput_zset {I : Nat → Nat → Int32} {a n : Nat} {i v : Int32} (h1 : 0 ≤ i.toInt) (h2 : i.toInt < n) : zput I a n i v = zov I a (zset (I a) (nv i) v) := by
  rw [zput_of h1 h2, zup_ov]
theorem nv_add1 {x : Int32} (h1 : 0 ≤ x.toInt) (h2 : x.toInt < 2147483647) : nv (x + 1) = nv x + 1 ∧ (x + 1).toInt = x.toInt + 1 := by
  have e : (x + 1).toInt = x.toInt + 1 := by
    rw [i32_add] <;> rw [i32_1] <;> omega
  have h3 := nv_int h1
  have h4 : nv (x + 1) = (x + 1).toInt.toNat := rfl
  refine ⟨by omega, e⟩
theorem i32_add_sub (x : Int32) : x + 1 - 1 = x := by
  have := Int32.add_sub_cancel x 1
  exact this
theorem need_ok (xs : Nat → Int32) (L D : Nat) (hD : 6 ≤ D) (I : Nat → Nat → Int32) (J : Nat → Nat → Int64) (X : XH) (a n : Int32) (h : 0 ≤ a.toInt ∧ a.toInt < n.toInt) : zev xs L D 111 [.ref 0, .int a, .int n] (zmk I J X) = some (.inr none, zmk I J X) := by
  obtain ⟨d, rfl⟩ := Nat.exists_eq_add_of_le hD
  rw [Nat.add_comm 6 d]
  refine (zcS (S111_0 xs L d I J X _ _)).trans ?_
  simp only [decide_eq_true_eq, i32_lt, Int32.reduceToInt]
  rw [if_neg (by omega), if_pos h.2]
  rfl
theorem need_no (xs : Nat → Int32) (L D : Nat) (hD : 6 ≤ D) (I : Nat → Nat → Int32) (J : Nat → Nat → Int64) (X : XH) (a n : Int32) (h : ¬ (0 ≤ a.toInt ∧ a.toInt < n.toInt)) : zev xs L D 111 [.ref 0, .int a, .int n] (zmk I J X) = some (.inl 0, zmk I J (zXe X)) := by
  obtain ⟨d, rfl⟩ := Nat.exists_eq_add_of_le hD
  rw [Nat.add_comm 6 d]
  refine (zcS (S111_0 xs L d I J X _ _)).trans ?_
  simp only [decide_eq_true_eq, i32_lt, Int32.reduceToInt]
  by_cases c : a.toInt < 0
  · rw [if_pos c]
    rfl
  · rw [if_neg c, if_neg (by omega)]
    rfl
/-! the fleet -/
theorem a_provider (xs : Nat → Int32) (L d : Nat) (I : Nat → Nat → Int32) (J : Nat → Nat → Int64) (X : XH) (a : Int32) (hF : PFleet I) : ∃ v I1 I2, zev xs L (d + 7) 101 [.ref 0, .int a] (zmk I J X) = some (.inr (some (.int v)), zmk I1 J X) ∧ zev xs L (d + 7) 146 [.ref 61, .int a] (zmk I1 J X) = some (.inr (some (.int v)), zmk I2 J X) ∧ PFleet I2 ∧ zfr8 [9, 10, 68] [1, 5] I I2 := by
  obtain ⟨⟨h1, h2, h3⟩, h4, h5, h6, h7, h8, h9, h10, h11, h12⟩ := hF
  have h1t : (I 9 0).toInt = (I 61 5).toInt := by rw [h1]
  by_cases P : (I 9 0).toInt < 6 ∧ 0 ≤ a.toInt ∧ a.toInt ≤ 1000000
  · refine ⟨I 9 0, zup (zput I 10 6 (I 9 0) a) 9 0 (I 9 0 + 1), zup (zup (zup (zup (zput I 10 6 (I 9 0) a) 9 0 (I 9 0 + 1)) 61 1 0) 68 (I 61 5).toNatClampNeg a) 61 5 (I 61 5 + 1), ?_, ?_, ?_, ?_⟩
    · refine (zcS (S101_0 xs L (d + 1) I J X _)).trans ?_
      have e : zev xs L (d + 1 + 5) 12 [.ref 9, .int a] (zmk I J X) = some (.inr (some (.int (I 9 0))), zmk (zup (zput I 10 6 (I 9 0) a) 9 0 (I 9 0 + 1)) J X) := by
        refine (zcS (S12_0 xs L d I J X _)).trans ?_
        simp only [decide_eq_true_eq, i32_le, i32_lt, Int32.reduceToInt, zbi_eq0]
        rw [if_neg (by omega), if_pos (by omega)]
        rfl
      rw [e, zci_i, T101_0_4_696]
      rfl
    · refine (zcS (S146_0 xs L (d + 1) _ J X _)).trans ?_
      simp only [decide_eq_true_eq, i32_le, i32_lt, i32_eq, Int32.reduceToInt]
      have e : (zup (zput I 10 6 (I 9 0) a) 9 0 (I 9 0 + 1)) 61 5 = I 61 5 := rfl
      rw [e, if_neg (by omega), if_neg (by omega), if_pos (by omega), if_pos (zix_of rfl (by omega) (by omega)), i32_add_sub, h1]
      rfl
    · have e1 := nv_add1 h2 (by omega)
      have hz : zput I 10 6 (I 9 0) a = zov I 10 (zset (I 10) (nv (I 61 5)) a) := by
        rw [zput_zset (by omega) (by omega), h1]
      rw [hz]
      refine ⟨⟨?_, ?_, ?_⟩, h4, h5, ?_, h7, h8, h9, h10, ?_, fun b hb => ?_⟩
      · show I 9 0 + 1 = I 61 5 + 1
        rw [h1]
      · show 0 ≤ (I 61 5 + 1).toInt
        omega
      · show (I 61 5 + 1).toInt ≤ 6
        omega
      · show zset (I 10) (nv (I 61 5)) a = fun k' => if k' = (I 61 5).toNatClampNeg then a else I 68 k'
        rw [h6]
        rfl
      · show ∀ p, p < nv (I 61 5 + 1) → 0 ≤ (if p = (I 61 5).toNatClampNeg then a else I 68 p).toInt ∧ (if p = (I 61 5).toNatClampNeg then a else I 68 p).toInt ≤ 1000000
        intro p hp
        split
        · omega
        · rename_i hne
          have hne : p ≠ nv (I 61 5) := hne
          exact h11 p (by omega)
      · have h13 := h12 b hb
        refine ⟨h13.1, h13.2.1, ?_⟩
        show (I 72 b).toInt < (I 61 5 + 1).toInt
        omega
    · exact zfr8_m (zfr8_up (zfr8_m (zfr8_up (zfr8_put zfr8_rfl (by decide) (by decide)) (by decide) (by decide)) (by decide)) (by decide) (by decide)) (by decide)
  · refine ⟨-1, I, zup I 61 1 0, ?_, ?_, ?_, ?_⟩
    · refine (zcS (S101_0 xs L (d + 1) I J X _)).trans ?_
      have e : zev xs L (d + 1 + 5) 12 [.ref 9, .int a] (zmk I J X) = some (.inr (some (.int (-1))), zmk I J X) := by
        refine (zcS (S12_0 xs L d I J X _)).trans ?_
        simp only [decide_eq_true_eq, i32_le, i32_lt, Int32.reduceToInt, zbi_eq0]
        split
        · rfl
        · rw [if_neg (by omega)]
          rfl
      rw [e, zci_i, T101_0_4_696]
      rfl
    · refine (zcS (S146_0 xs L (d + 1) I J X _)).trans ?_
      simp only [decide_eq_true_eq, i32_le, i32_lt, i32_eq, Int32.reduceToInt]
      by_cases c1 : (I 61 5).toInt = 6
      · rw [if_pos c1]
        rfl
      · rw [if_neg c1]
        by_cases c2 : a.toInt < 0
        · rw [if_pos c2]
          rfl
        · rw [if_neg c2, if_neg (by omega)]
          rfl
    · exact ⟨⟨h1, h2, h3⟩, h4, h5, h6, h7, h8, h9, h10, h11, h12⟩
    · exact zfr8_m zfr8_rfl (by decide)
