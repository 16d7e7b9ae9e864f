/-! THE PURE PART: terms under trial: the class. -/
theorem chain_c (xs : Nat → Int32) (L d : Nat) {I H' H1 H4 : Nat → Nat → Int32} {J Ja Jb : Nat → Nat → Int64} {X : XH} (b c v1 v2 : Int32) (l m mm : Nat) (hl : l < 9) (hm : m < 5) (P : 0 ≤ (Int32.ofNat l).toInt ∧ (Int32.ofNat l).toInt < (I 1 0).toInt) (Q : 0 ≤ b.toInt ∧ b.toInt ≤ (I 35 1).toInt) (R : 0 ≤ c.toInt ∧ c.toInt ≤ 129599) (h44 : zev xs L (d + 53) 44 [.ref 35, .int b] (zmk I J X) = some (.inr (some (.int 0)), zmk H' J X)) (eA : zev xs L (d + 54) 138 [.ref 0, .int (Int32.ofNat l)] (zmk (zup (zup H' 0 12 (-1)) 35 1 0) J X) = some (.inr (some (.int v1)), zmk H1 Ja X)) (h13 : H1 35 13 = Int32.ofNat mm) (hmm : mm < 400) (h19 : H1 19 l = Int32.ofNat m) (eB : zev xs L (d + 54) 138 [.ref 0, .int (Int32.ofNat l)] (zmk (zup (yTf H1 X.2.2.1 mm c (H1 0 11)) 19 l (Int32.ofNat (m + 1))) Ja (zXr (zXt X mm) 18 (5 * l + m) (some X.2.2.1))) = some (.inr (some (.int v2)), zmk H4 Jb (zXr (zXt X mm) 18 (5 * l + m) (some X.2.2.1)))) (h4 : H4 19 l = Int32.ofNat (m + 1)) (hX : 123 ≤ X.2.2.1) : zev xs L (d + 55) 137 [.ref 0, .int (Int32.ofNat l), .int b, .int c] (zmk I J X) = some (.inr (some (.int 0)), zmk (zup (zup H4 0 13 (v2 - v1)) 19 l (Int32.ofNat m)) Jb (zXr (zXr (zXt X mm) 18 (5 * l + m) (some X.2.2.1)) 18 (5 * l + m) none)) := by
  have S := zcS (as := [.ref 0, .int (Int32.ofNat l), .int b, .int c]) (S137_0 xs L (d + 49) I J X (Int32.ofNat l) b c)
  have nl := needLand_ok xs L (d + 49 + 5) (by omega) I J X (Int32.ofNat l) P
  have nb := need_len xs L (d + 49 + 5) (by omega) I J X b
  rw [if_pos Q] at nb
  have z1 : zbi (¬ c < 0 ∧ ¬ (129599 : Int32) < c) = 1 := zbi_t (by
    simp only [i32_lt, Int32.reduceToInt]
    omega)
  have rd := read_121 xs L (d + 49 + 5) (by omega) (I := I) (H' := H') J X b 0 h44 (Or.inl rfl)
  rw [if_pos rfl] at rd
  have tr := tariff_z xs L (d + 49 + 5) (by omega) H1 Ja X c (H1 0 11) mm hmm h13 hX
  have kt : (zXt X mm).2.1 X.2.2.1 = (18, 0) := by
    show (if X.2.2.1 = X.2.2.1 + 1 then _ else if X.2.2.1 = X.2.2.1 then _ else _) = _
    rw [if_neg (by omega), if_pos rfl]
  have g19 : yTf H1 X.2.2.1 mm c (H1 0 11) 19 l = Int32.ofNat m := by
    rw [yTf_o (by omega) (by omega)]
    exact h19
  have bk := book_add xs L (d + 49 + 5) (by omega) (yTf H1 X.2.2.1 mm c (H1 0 11)) Ja (zXt X mm) l m X.2.2.1 hl hm g19 hX kt
  have bd := book_drop xs L (d + 49 + 5) (by omega) (zup H4 0 13 (v2 - v1)) Jb (zXr (zXt X mm) 18 (5 * l + m) (some X.2.2.1)) l m hl hm h4
  rw [nl, zcw_v, T137_0_3_697 xs L (d + 49), nb, zcw_v, T137_0_6_694 xs L (d + 49), z1, rd, zci_i, T137_0_11_689 xs L (d + 49), if_neg (show ¬ decide (¬ (0 : Int32) = 0) = true by decide), eA, zci_i, T137_0_17_683 xs L (d + 49), tr, zcr_r, T137_0_27_673 xs L (d + 49), bk, zcw_v, T137_0_28_672 xs L (d + 49), eB, zci_i, T137_0_32_668 xs L (d + 49), bd, zcw_v, T137_0_39_661 xs L (d + 49)] at S
  exact S
theorem fail_c (xs : Nat → Int32) (L d : Nat) {I H' : Nat → Nat → Int32} {J : Nat → Nat → Int64} {X : XH} (a b c r : Int32) (P : 0 ≤ a.toInt ∧ a.toInt < (I 1 0).toInt) (Q : 0 ≤ b.toInt ∧ b.toInt ≤ (I 35 1).toInt) (R : 0 ≤ c.toInt ∧ c.toInt ≤ 129599) (h44 : zev xs L (d + 53) 44 [.ref 35, .int b] (zmk I J X) = some (.inr (some (.int r)), zmk H' J X)) (hr : ¬ r = 0 ∧ ¬ r = 9) : zev xs L (d + 55) 137 [.ref 0, .int a, .int b, .int c] (zmk I J X) = some (.inr (some (.int r)), zmk (zup (zup H' 0 12 (H' 35 3)) 35 1 0) J X) := by
  have S := zcS (as := [.ref 0, .int a, .int b, .int c]) (S137_0 xs L (d + 49) I J X a b c)
  have nl := needLand_ok xs L (d + 49 + 5) (by omega) I J X a P
  have nb := need_len xs L (d + 49 + 5) (by omega) I J X b
  rw [if_pos Q] at nb
  have z1 : zbi (¬ c < 0 ∧ ¬ (129599 : Int32) < c) = 1 := zbi_t (by
    simp only [i32_lt, Int32.reduceToInt]
    omega)
  have rd := read_121 xs L (d + 49 + 5) (by omega) (I := I) (H' := H') J X b r h44 (Or.inr hr)
  rw [if_neg hr.1] at rd
  rw [nl, zcw_v, T137_0_3_697 xs L (d + 49), nb, zcw_v, T137_0_6_694 xs L (d + 49), z1, rd, zci_i, T137_0_11_689 xs L (d + 49), if_pos (decide_eq_true hr.1)] at S
  exact S
theorem nine_c (xs : Nat → Int32) (L d : Nat) {I : Nat → Nat → Int32} {J : Nat → Nat → Int64} {X : XH} (a b c : Int32) (P : 0 ≤ a.toInt ∧ a.toInt < (I 1 0).toInt) (Q : 0 ≤ b.toInt ∧ b.toInt ≤ (I 35 1).toInt) (R : ¬ (0 ≤ c.toInt ∧ c.toInt ≤ 129599)) : zev xs L (d + 55) 137 [.ref 0, .int a, .int b, .int c] (zmk I J X) = some (.inr (some (.int 9)), zmk (zup (zup I 0 12 (-1)) 35 1 0) J X) := by
  have S := zcS (as := [.ref 0, .int a, .int b, .int c]) (S137_0 xs L (d + 49) I J X a b c)
  have nl := needLand_ok xs L (d + 49 + 5) (by omega) I J X a P
  have nb := need_len xs L (d + 49 + 5) (by omega) I J X b
  rw [if_pos Q] at nb
  have z1 : zbi (¬ c < 0 ∧ ¬ (129599 : Int32) < c) = 0 := zbi_f (by
    simp only [i32_lt, Int32.reduceToInt]
    omega)
  have rd := read_9 xs L (d + 49 + 5) (by omega) I J X b
  rw [nl, zcw_v, T137_0_3_697 xs L (d + 49), nb, zcw_v, T137_0_6_694 xs L (d + 49), z1, rd, zci_i, T137_0_11_689 xs L (d + 49), if_pos (show decide (¬ (9 : Int32) = 0) = true by decide)] at S
  exact S
