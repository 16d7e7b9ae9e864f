/-! THE PURE PART: the model's reader, its state. -/
/-- the model has read the token at b -/
def yMt (M : Nat → Nat → Int32) (T : Nat → Int32) (n b : Nat) : Prop := M 104 = T ∧ M 61 59 = Int32.ofNat n ∧ M 61 63 = Int32.ofNat (ylx T n b).2.2.1 ∧ M 61 58 = Int32.ofNat (ylx T n b).2.2.2 ∧ M 61 64 = Int32.ofNat (ylx T n b).2.2.2 ∧ M 61 60 = ykn (ylx T n b).1 ∧ (ykn (ylx T n b).1 = 3 → M 61 61 = (ylx T n b).1) ∧ ((ylx T n b).1 = 258 → M 61 62 = (ylx T n b).2.1)
theorem yMt_fr {M M' : Nat → Nat → Int32} {T : Nat → Int32} {n b : Nat} (h : yMt M T n b) (e4 : M' 104 = M 104) (e : ∀ k, k ∈ [58, 59, 60, 61, 62, 63, 64] → M' 61 k = M 61 k) : yMt M' T n b := by
  unfold yMt
  rw [e4, e 58 (by decide), e 59 (by decide), e 60 (by decide), e 61 (by decide), e 62 (by decide), e 63 (by decide), e 64 (by decide)]
  exact h
/-- on to the next token, from place q on -/
theorem step_at (xs : Nat → Int32) (L D : Nat) (hD : 7 ≤ D) (J : Nat → Nat → Int64) (X : XH) {M : Nat → Nat → Int32} {T : Nat → Int32} {n q : Nat} (hn : n ≤ 400) (hq : q ≤ n) (hb : ∀ i, i < n → 0 ≤ (T i).toInt ∧ (T i).toInt ≤ 255) (hT : M 104 = T) (h59 : M 61 59 = Int32.ofNat n) (h58 : M 61 58 = Int32.ofNat q) : ∃ M', zev xs L D 161 [.ref 61] (zmk M J X) = some (.inr none, zmk M' J X) ∧ yf61 [58, 60, 61, 62, 63, 64] M M' ∧ yMt M' T n q := by
  obtain ⟨d, rfl⟩ := Nat.exists_eq_add_of_le hD
  rw [show 7 + d = d + 1 + 6 by omega]
  obtain ⟨M', s1, s2, s3, s4, s5, s6, s7, s8⟩ := step_loop xs L d J X T n hn hb (n - q) q M (by omega) hT h59 h58
  refine ⟨M', ?_, s2, ?_, ?_, s3, s4, s5, s6, s7, s8⟩
  · refine (zcS (S161_0 xs L (d + 1) M J X)).trans ?_
    rw [zth_go]
    exact s1
  · rw [s2.1 104 (by decide)]
    exact hT
  · rw [s2.2 59 (by decide)]
    exact h59
theorem step_m (xs : Nat → Int32) (L D : Nat) (hD : 7 ≤ D) (J : Nat → Nat → Int64) (X : XH) {M : Nat → Nat → Int32} {T : Nat → Int32} {n b : Nat} (hn : n ≤ 400) (hbn : b ≤ n) (hb : ∀ i, i < n → 0 ≤ (T i).toInt ∧ (T i).toInt ≤ 255) (h : yMt M T n b) : ∃ M', zev xs L D 161 [.ref 61] (zmk M J X) = some (.inr none, zmk M' J X) ∧ yf61 [58, 60, 61, 62, 63, 64] M M' ∧ yMt M' T n (ylx T n b).2.2.2 := step_at xs L D hD J X hn (ylx_rg T n b hbn).2.1 hb h.1 h.2.1 h.2.2.2.1
theorem wrong_m (xs : Nat → Int32) (L D : Nat) (hD : 6 ≤ D) (M : Nat → Nat → Int32) (J : Nat → Nat → Int64) (X : XH) (k : Int32) : zev xs L D 167 [.ref 61, .int k] (zmk M J X) = some (.inr none, zmk (if M 61 65 = 0 then zup (zup M 61 65 k) 61 66 (M 61 63) else M) J X) := by
  obtain ⟨d, rfl⟩ := Nat.exists_eq_add_of_le hD
  rw [Nat.add_comm 6 d]
  refine (zcS (S167_0 xs L d M J X k)).trans ?_
  by_cases c : M 61 65 = 0
  · rw [if_pos (decide_eq_true c), if_pos c]
    rfl
  · rw [if_neg (fun z => c (of_decide_eq_true z)), if_neg c]
    rfl
/-- the codes written so far of text x -/
def yMK (M : Nat → Nat → Int32) (x : Nat) (K : List Int32) : Prop := M 61 68 = Int32.ofNat K.length ∧ zrow (M 101) (640 * x) K
theorem emit_m (xs : Nat → Int32) (L D : Nat) (hD : 6 ≤ D) (M : Nat → Nat → Int32) (J : Nat → Nat → Int64) (X : XH) (x : Nat) (K : List Int32) (v : Int32) (hx : x < 37) (hK : K.length < 640) (h0 : M 61 65 = 0) (h : yMK M x K) : ∃ M', zev xs L D 176 [.ref 61, .int (Int32.ofNat x), .int v] (zmk M J X) = some (.inr none, zmk M' J X) ∧ yMK M' x (K ++ [v]) ∧ (∀ a, a ≠ 61 → a ≠ 101 → M' a = M a) ∧ (∀ k, k ≠ 68 → M' 61 k = M 61 k) ∧ ∀ j, j ≠ 640 * x + K.length → M' 101 j = M 101 j := by
  obtain ⟨d, rfl⟩ := Nat.exists_eq_add_of_le hD
  rw [Nat.add_comm 6 d]
  obtain ⟨k1, k2⟩ := h
  have ei : (640 : Int32) * Int32.ofNat x + Int32.ofNat K.length = Int32.ofNat (640 * x + K.length) := by
    show Int32.ofNat 640 * Int32.ofNat x + Int32.ofNat K.length = _
    rw [nat_mul, nat_add]
  have S := zcS (as := [.ref 61, .int (Int32.ofNat x), .int v]) (S176_0 xs L d M J X (Int32.ofNat x) v)
  have zi : zix 0 23680 0 ((640 : Int32) * Int32.ofNat x + Int32.ofNat K.length) := by
    rw [ei]
    exact zix_nat rfl (by omega) (by omega)
  have ec : ((640 : Int32) * Int32.ofNat x + Int32.ofNat K.length).toNatClampNeg = 640 * x + K.length := by rw [ei, i32_clamp (by omega)]
  rw [if_pos (decide_eq_true h0), k1, if_pos zi, ec, nat_succ] at S
  refine ⟨_, S, ⟨?_, ?_⟩, fun a a1 a2 => (if_neg a1).trans (if_neg a2), fun k hk => (zup_k hk), fun j hj => ?_⟩
  · rw [List.length_append]
    rfl
  · rw [zrow_app]
    refine ⟨zrow_cg (fun j h1 h2 => (show _ = zup (zup M 101 (640 * x + K.length) v) 61 68 (Int32.ofNat (K.length + 1)) 101 j from ((zup_k (by omega) : zup M 101 (640 * x + K.length) v 101 j = M 101 j)).symm)) k2, ?_⟩
    exact ⟨(zup_at : zup M 101 (640 * x + K.length) v 101 (640 * x + K.length) = v), trivial⟩
  · exact (zup_k hj : zup M 101 (640 * x + K.length) v 101 j = M 101 j)
theorem emit_no (xs : Nat → Int32) (L D : Nat) (hD : 6 ≤ D) (M : Nat → Nat → Int32) (J : Nat → Nat → Int64) (X : XH) (x v : Int32) (h0 : ¬ M 61 65 = 0) : zev xs L D 176 [.ref 61, .int x, .int v] (zmk M J X) = some (.inr none, zmk M J X) := by
  obtain ⟨d, rfl⟩ := Nat.exists_eq_add_of_le hD
  rw [Nat.add_comm 6 d]
  refine (zcS (S176_0 xs L d M J X x v)).trans ?_
  rw [if_neg (fun z => h0 (of_decide_eq_true z))]
  rfl
theorem part_no (xs : Nat → Int32) (L D : Nat) (hD : 6 ≤ D) (M : Nat → Nat → Int32) (J : Nat → Nat → Int64) (X : XH) (x a : Int32) (h0 : ¬ M 61 65 = 0) : zev xs L D 174 [.ref 61, .int x, .int a] (zmk M J X) = some (.inr none, zmk M J X) := by
  obtain ⟨d, rfl⟩ := Nat.exists_eq_add_of_le hD
  rw [Nat.add_comm 6 d]
  refine (zcS (S174_0 xs L d M J X x a)).trans ?_
  rw [if_neg (fun z => h0 (of_decide_eq_true z))]
  rfl
theorem sgn_no {M : Nat → Nat → Int32} {c : Int32} (h0 : ¬ M 61 65 = 0) : zbi (M 61 65 = 0 ∧ M 61 60 = 3 ∧ M 61 61 = c) = 0 := if_neg (fun z => h0 z.1)
theorem prod_no2 (xs : Nat → Int32) (L d : Nat) (M : Nat → Nat → Int32) (J : Nat → Nat → Int64) (X : XH) (x a : Int32) (h0 : ¬ M 61 65 = 0) : zgo xs L (d + 5) 173 2 [(0, .ref 61), (1, .int x), (2, .int a)] (zmk M J X) = some (.inr none, zmk M J X) := by
  rw [zgo_q, S173_2 xs L d, if_neg (fun z => (of_decide_eq_true z) (sgn_no h0)), if_pos (decide_eq_true (sgn_no h0))]
  rfl
theorem prod_no (xs : Nat → Int32) (L D : Nat) (hD : 7 ≤ D) (M : Nat → Nat → Int32) (J : Nat → Nat → Int64) (X : XH) (x a : Int32) (h0 : ¬ M 61 65 = 0) : zev xs L D 173 [.ref 61, .int x, .int a] (zmk M J X) = some (.inr none, zmk M J X) := by
  obtain ⟨d, rfl⟩ := Nat.exists_eq_add_of_le hD
  rw [show 7 + d = d + 1 + 6 by omega]
  refine (zcS (S173_0 xs L (d + 1) M J X x a)).trans ?_
  rw [part_no xs L (d + 1 + 5) (by omega) M J X x a h0, zcw_v, T173_0_4_696 xs L (d + 1), zth_go]
  exact prod_no2 xs L (d + 1) M J X x a h0
theorem sum_no2 (xs : Nat → Int32) (L d : Nat) (M : Nat → Nat → Int32) (J : Nat → Nat → Int64) (X : XH) (x a : Int32) (h0 : ¬ M 61 65 = 0) : zgo xs L (d + 5) 172 2 [(0, .ref 61), (1, .int x), (2, .int a)] (zmk M J X) = some (.inr none, zmk M J X) := by
  rw [zgo_q, S172_2 xs L d, if_neg (fun z => (of_decide_eq_true z) (sgn_no h0)), if_pos (decide_eq_true (sgn_no h0))]
  rfl
theorem sum_no (xs : Nat → Int32) (L D : Nat) (hD : 8 ≤ D) (M : Nat → Nat → Int32) (J : Nat → Nat → Int64) (X : XH) (x a : Int32) (h0 : ¬ M 61 65 = 0) : zev xs L D 172 [.ref 61, .int x, .int a] (zmk M J X) = some (.inr none, zmk M J X) := by
  obtain ⟨d, rfl⟩ := Nat.exists_eq_add_of_le hD
  rw [show 8 + d = d + 2 + 6 by omega]
  refine (zcS (S172_0 xs L (d + 2) M J X x a)).trans ?_
  rw [prod_no xs L (d + 2 + 5) (by omega) M J X x a h0, zcw_v, T172_0_4_696 xs L (d + 2), zth_go]
  exact sum_no2 xs L (d + 2) M J X x a h0
