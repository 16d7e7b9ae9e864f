/-! THE PURE PART: terms told: the call. -/
theorem yTf_o {I : Nat → Nat → Int32} {t m b : Nat} {a c : Int32} (h1 : b ≠ t) (h2 : b ≠ t + 1) : yTf I t m a c b = I b := by
  show (if b = t then _ else if b = t then _ else if b = t then _ else if b = t then _ else if b = t + 1 then _ else I b) = _
  rw [if_neg h1, if_neg h1, if_neg h1, if_neg h1, if_neg h2]
theorem yTf_t {I : Nat → Nat → Int32} {t m : Nat} {a c : Int32} : yTf I t m a c t 0 = a ∧ yTf I t m a c t 1 = c ∧ yTf I t m a c t 2 = I 35 10 ∧ yTf I t m a c t 3 = I 35 11 := by
  unfold yTf
  refine ⟨?_, ?_, ?_, zup_at⟩
  · rw [zup_k (by decide), zup_k (by decide), zup_k (by decide), zup_at]
  · rw [zup_k (by decide), zup_k (by decide), zup_at]
  · rw [zup_k (by decide), zup_at]
theorem yTf_u {I : Nat → Nat → Int32} {t m k : Nat} {a c : Int32} (hk : k < m) : yTf I t m a c (t + 1) k = I 37 k := by
  have n : ¬ t + 1 = t := by omega
  have e : yTf I t m a c (t + 1) = zcpI I 37 (t + 1) m (t + 1) := (if_neg n).trans ((if_neg n).trans ((if_neg n).trans (if_neg n)))
  rw [e]
  unfold zcpI
  rw [if_pos rfl]
  exact if_pos hk
/-- the class's terms, where a text is read -/
theorem terms_c (xs : Nat → Int32) (L d : Nat) {I H' : Nat → Nat → Int32} (J : Nat → Nat → Int64) (X : XH) (a b c r : Int32) (P : 0 ≤ a.toInt ∧ a.toInt < (I 1 0).toInt) (Q : 0 ≤ b.toInt ∧ b.toInt ≤ (I 35 1).toInt) (R : 0 ≤ c.toInt ∧ c.toInt ≤ 129599) (h4 : (zat I 19 9 a).toInt < 4) (h : zev xs L (d + 55) 44 [.ref 35, .int b] (zmk I J X) = some (.inr (some (.int r)), zmk H' J X)) (hr : r = 0 ∨ (¬ r = 0 ∧ ¬ r = 9)) : (¬ r = 0 → zev xs L (d + 57) 118 [.ref 0, .int a, .int b, .int c] (zmk I J X) = some (.inr (some (.int r)), zmk (zup (zup H' 0 12 (H' 35 3)) 35 1 0) J X)) ∧ (r = 0 → ∀ (m : Nat) (l k : Nat), a = Int32.ofNat l → l < 9 → k < 5 → H' 19 l = Int32.ofNat k → m < 400 → H' 35 13 = Int32.ofNat m → 123 ≤ X.2.2.1 → zev xs L (d + 57) 118 [.ref 0, .int a, .int b, .int c] (zmk I J X) = some (.inr (some (.int 0)), zmk (zup (yTf (zup (zup H' 0 12 (-1)) 35 1 0) X.2.2.1 m c (H' 0 11)) 19 l (Int32.ofNat (k + 1))) J (zXr (zXt X m) 18 (5 * l + k) (some X.2.2.1)))) := by
  have S := zcS (as := [.ref 0, .int a, .int b, .int c]) (S118_0 xs L (d + 51) I J X a b c)
  have nl := needLand_ok xs L (d + 51 + 5) (by omega) I J X a P
  have nb := need_len xs L (d + 51 + 5) (by omega) I J X b
  rw [if_pos Q] at nb
  have k1 : ¬ decide (zbi (¬ c < 0 ∧ ¬ (129599 : Int32) < c) = 0) = true := fun z => by
    have z := zbi_eq0.mp (of_decide_eq_true z)
    simp only [i32_lt, Int32.reduceToInt] at z
    omega
  have k2 : ¬ decide (zbi (¬ (4 : Int32) ≤ zat I 19 9 a) = 0) = true := fun z => by
    have z := zbi_eq0.mp (of_decide_eq_true z)
    simp only [i32_le, Int32.reduceToInt] at z
    omega
  have rd := read_121 xs L (d + 51 + 5) (by omega) (I := I) (H' := H') J X b r h hr
  rw [nl, zcw_v, T118_0_3_697 xs L (d + 51), nb, zcw_v, T118_0_6_694 xs L (d + 51), if_neg k1, if_neg k2, rd, zci_i, T118_2_1_681 xs L (d + 51)] at S
  refine ⟨fun r0 => ?_, fun r0 m l k e1 e2 e3 e4 e5 e6 e7 => ?_⟩
  · rw [if_pos (decide_eq_true r0), if_neg r0] at S
    exact S
  · rw [if_neg (fun z => (of_decide_eq_true z) r0), if_pos r0] at S
    have tr := tariff_z xs L (d + 51 + 5) (by omega) (zup (zup H' 0 12 (-1)) 35 1 0) J X c (H' 0 11) m e5 ((zup_k (by decide)).trans e6) e7
    have q11 : zup (zup H' 0 12 (-1)) 35 1 0 0 11 = H' 0 11 := (zup_k (I := H') (by decide) : zup H' 0 12 (-1) 0 11 = H' 0 11)
    have kt : (zXt X m).2.1 X.2.2.1 = (18, 0) := by
      show (if X.2.2.1 = X.2.2.1 + 1 then _ else if X.2.2.1 = X.2.2.1 then _ else _) = _
      rw [if_neg (by omega), if_pos rfl]
    have g19 : yTf (zup (zup H' 0 12 (-1)) 35 1 0) X.2.2.1 m c (H' 0 11) 19 l = Int32.ofNat k := by
      rw [yTf_o (by omega) (by omega)]
      exact e4
    have bk := book_add xs L (d + 51 + 5) (by omega) (yTf (zup (zup H' 0 12 (-1)) 35 1 0) X.2.2.1 m c (H' 0 11)) J (zXt X m) l k X.2.2.1 e2 e3 g19 e7 kt
    rw [q11, tr, zcr_r, T118_2_13_669 xs L (d + 51), e1, bk, zcw_v, T118_2_14_668 xs L (d + 51), r0] at S
    rw [e1]
    exact S
theorem refuse_c (xs : Nat → Int32) (L d : Nat) {I : Nat → Nat → Int32} (J : Nat → Nat → Int64) (X : XH) (a b c : Int32) (P : 0 ≤ a.toInt ∧ a.toInt < (I 1 0).toInt) (Q : 0 ≤ b.toInt ∧ b.toInt ≤ (I 35 1).toInt) (R : ¬ ((0 ≤ c.toInt ∧ c.toInt ≤ 129599) ∧ (zat I 19 9 a).toInt < 4)) : zev xs L (d + 57) 118 [.ref 0, .int a, .int b, .int c] (zmk I J X) = some (.inr (some (.int 9)), zmk (zup (zup I 0 12 (-1)) 35 1 0) J X) := by
  have S := zcS (as := [.ref 0, .int a, .int b, .int c]) (S118_0 xs L (d + 51) I J X a b c)
  have nl := needLand_ok xs L (d + 51 + 5) (by omega) I J X a P
  have nb := need_len xs L (d + 51 + 5) (by omega) I J X b
  rw [if_pos Q] at nb
  have rd := read_9 xs L (d + 51 + 5) (by omega) I J X b
  rw [nl, zcw_v, T118_0_3_697 xs L (d + 51), nb, zcw_v, T118_0_6_694 xs L (d + 51)] at S
  by_cases k1 : 0 ≤ c.toInt ∧ c.toInt ≤ 129599
  · have n1 : ¬ decide (zbi (¬ c < 0 ∧ ¬ (129599 : Int32) < c) = 0) = true := fun z => by
      have z := zbi_eq0.mp (of_decide_eq_true z)
      simp only [i32_lt, Int32.reduceToInt] at z
      omega
    have n2 : decide (zbi (¬ (4 : Int32) ≤ zat I 19 9 a) = 0) = true := decide_eq_true (zbi_eq0.mpr (fun z => by
      simp only [i32_le, Int32.reduceToInt] at z
      omega))
    rw [if_neg n1, if_pos n2, rd, zci_i, T118_2_1_681 xs L (d + 51), if_pos (show decide (¬ (9 : Int32) = 0) = true by decide)] at S
    exact S
  · have n1 : decide (zbi (¬ c < 0 ∧ ¬ (129599 : Int32) < c) = 0) = true := decide_eq_true (zbi_eq0.mpr (fun z => by
      simp only [i32_lt, Int32.reduceToInt] at z
      omega))
    rw [if_pos n1, rd, zci_i, T118_2_1_686 xs L (d + 51), if_pos (show decide (¬ (9 : Int32) = 0) = true by decide)] at S
    exact S
