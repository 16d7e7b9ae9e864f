/-! What the stretches answer: each by rfl. Written by program (wip/whole/lift.py). -/
/-! 100 TollTags.land ()I -/
theorem S100_0 (xs : Nat → Int32) (L d : Nat) (I : Nat → Nat → Int32) (J : Nat → Nat → Int64) (X : XH) : zseg (zE xs L (d + 5) 100) (zC 100) 700 (zC 100 0) [(0, .ref 0)] [] (zmk I J X) = zci (zE xs L (d + 5) 100) (zev xs L (d + 5) 29 [.ref 1] (zmk I J X)) (fun r h => zseg (zE xs L (d + 5) 100) (zC 100) 697 (zB100_0.drop 3) [(0, .ref 0)] [.int r] h) := by
  rfl
theorem T100_0_3_697 (xs : Nat → Int32) (L d : Nat) (I : Nat → Nat → Int32) (J : Nat → Nat → Int64) (X : XH) (b0 : Int32) : zseg (zE xs L (d + 5) 100) (zC 100) 697 (zB100_0.drop 3) [(0, .ref 0)] [.int b0] (zmk I J X) = some (.inr (.inr (some (.int b0)), zmk I J X)) := by
  rfl
/-! 101 TollTags.provider (I)I -/
theorem S101_0 (xs : Nat → Int32) (L d : Nat) (I : Nat → Nat → Int32) (J : Nat → Nat → Int64) (X : XH) (a1 : Int32) : zseg (zE xs L (d + 5) 101) (zC 101) 700 (zC 101 0) [(0, .ref 0), (1, .int a1)] [] (zmk I J X) = zci (zE xs L (d + 5) 101) (zev xs L (d + 5) 12 [.ref 9, .int a1] (zmk I J X)) (fun r h => zseg (zE xs L (d + 5) 101) (zC 101) 696 (zB101_0.drop 4) [(0, .ref 0), (1, .int a1)] [.int r] h) := by
  rfl
theorem T101_0_4_696 (xs : Nat → Int32) (L d : Nat) (I : Nat → Nat → Int32) (J : Nat → Nat → Int64) (X : XH) (a1 : Int32) (b0 : Int32) : zseg (zE xs L (d + 5) 101) (zC 101) 696 (zB101_0.drop 4) [(0, .ref 0), (1, .int a1)] [.int b0] (zmk I J X) = some (.inr (.inr (some (.int b0)), zmk I J X)) := by
  rfl
/-! 103 TollTags.lorry (II)I -/
theorem S103_0 (xs : Nat → Int32) (L d : Nat) (I : Nat → Nat → Int32) (J : Nat → Nat → Int64) (X : XH) (a1 : Int32) (a2 : Int32) : zseg (zE xs L (d + 5) 103) (zC 103) 700 (zC 103 0) [(0, .ref 0), (1, .int a1), (2, .int a2)] [] (zmk I J X) = zci (zE xs L (d + 5) 103) (zev xs L (d + 5) 13 [.ref 9, .int a1, .int a2] (zmk I J X)) (fun r h => zseg (zE xs L (d + 5) 103) (zC 103) 695 (zB103_0.drop 5) [(0, .ref 0), (1, .int a1), (2, .int a2)] [.int r] h) := by
  rfl
theorem T103_0_5_695 (xs : Nat → Int32) (L d : Nat) (I : Nat → Nat → Int32) (J : Nat → Nat → Int64) (X : XH) (a1 : Int32) (a2 : Int32) (b0 : Int32) : zseg (zE xs L (d + 5) 103) (zC 103) 695 (zB103_0.drop 5) [(0, .ref 0), (1, .int a1), (2, .int a2)] [.int b0] (zmk I J X) = some (.inr (.inr (some (.int b0)), zmk I J X)) := by
  rfl
/-! 104 TollTags.feed (IIIII)I -/
theorem S104_0 (xs : Nat → Int32) (L d : Nat) (I : Nat → Nat → Int32) (J : Nat → Nat → Int64) (X : XH) (a1 : Int32) (a2 : Int32) (a3 : Int32) (a4 : Int32) (a5 : Int32) : zseg (zE xs L (d + 5) 104) (zC 104) 700 (zC 104 0) [(0, .ref 0), (1, .int a1), (2, .int a2), (3, .int a3), (4, .int a4), (5, .int a5)] [] (zmk I J X) = if decide (((I 35 1) + (20 : Int32)) ≤ (400 : Int32)) = true then
  zcw (zE xs L (d + 5) 104) (zev xs L (d + 5) 43 [.ref 35, .int a1] (zmk I J X)) (fun h => zseg (zE xs L (d + 5) 104) (zC 104) 689 (zB104_1.drop 4) [(0, .ref 0), (1, .int a1), (2, .int a2), (3, .int a3), (4, .int a4), (5, .int a5)] [] h)
  else some (.inr (.inr (some (.int (-1 : Int32))), zmk I J X)) := by
  refine zite_congr ?_ ?_
  · rfl
  · rfl
theorem T104_1_4_689 (xs : Nat → Int32) (L d : Nat) (I : Nat → Nat → Int32) (J : Nat → Nat → Int64) (X : XH) (a1 : Int32) (a2 : Int32) (a3 : Int32) (a4 : Int32) (a5 : Int32) : zseg (zE xs L (d + 5) 104) (zC 104) 689 (zB104_1.drop 4) [(0, .ref 0), (1, .int a1), (2, .int a2), (3, .int a3), (4, .int a4), (5, .int a5)] [] (zmk I J X) = zcw (zE xs L (d + 5) 104) (zev xs L (d + 5) 43 [.ref 35, .int a2] (zmk I J X)) (fun h => zseg (zE xs L (d + 5) 104) (zC 104) 685 (zB104_1.drop 8) [(0, .ref 0), (1, .int a1), (2, .int a2), (3, .int a3), (4, .int a4), (5, .int a5)] [] h) := by
  rfl
theorem T104_1_8_685 (xs : Nat → Int32) (L d : Nat) (I : Nat → Nat → Int32) (J : Nat → Nat → Int64) (X : XH) (a1 : Int32) (a2 : Int32) (a3 : Int32) (a4 : Int32) (a5 : Int32) : zseg (zE xs L (d + 5) 104) (zC 104) 685 (zB104_1.drop 8) [(0, .ref 0), (1, .int a1), (2, .int a2), (3, .int a3), (4, .int a4), (5, .int a5)] [] (zmk I J X) = zcw (zE xs L (d + 5) 104) (zev xs L (d + 5) 43 [.ref 35, .int a3] (zmk I J X)) (fun h => zseg (zE xs L (d + 5) 104) (zC 104) 681 (zB104_1.drop 12) [(0, .ref 0), (1, .int a1), (2, .int a2), (3, .int a3), (4, .int a4), (5, .int a5)] [] h) := by
  rfl
theorem T104_1_12_681 (xs : Nat → Int32) (L d : Nat) (I : Nat → Nat → Int32) (J : Nat → Nat → Int64) (X : XH) (a1 : Int32) (a2 : Int32) (a3 : Int32) (a4 : Int32) (a5 : Int32) : zseg (zE xs L (d + 5) 104) (zC 104) 681 (zB104_1.drop 12) [(0, .ref 0), (1, .int a1), (2, .int a2), (3, .int a3), (4, .int a4), (5, .int a5)] [] (zmk I J X) = zcw (zE xs L (d + 5) 104) (zev xs L (d + 5) 43 [.ref 35, .int a4] (zmk I J X)) (fun h => zseg (zE xs L (d + 5) 104) (zC 104) 677 (zB104_1.drop 16) [(0, .ref 0), (1, .int a1), (2, .int a2), (3, .int a3), (4, .int a4), (5, .int a5)] [] h) := by
  rfl
theorem T104_1_16_677 (xs : Nat → Int32) (L d : Nat) (I : Nat → Nat → Int32) (J : Nat → Nat → Int64) (X : XH) (a1 : Int32) (a2 : Int32) (a3 : Int32) (a4 : Int32) (a5 : Int32) : zseg (zE xs L (d + 5) 104) (zC 104) 677 (zB104_1.drop 16) [(0, .ref 0), (1, .int a1), (2, .int a2), (3, .int a3), (4, .int a4), (5, .int a5)] [] (zmk I J X) = zcw (zE xs L (d + 5) 104) (zev xs L (d + 5) 43 [.ref 35, .int a5] (zmk I J X)) (fun h => zseg (zE xs L (d + 5) 104) (zC 104) 673 (zB104_1.drop 20) [(0, .ref 0), (1, .int a1), (2, .int a2), (3, .int a3), (4, .int a4), (5, .int a5)] [] h) := by
  rfl
theorem T104_1_20_673 (xs : Nat → Int32) (L d : Nat) (I : Nat → Nat → Int32) (J : Nat → Nat → Int64) (X : XH) (a1 : Int32) (a2 : Int32) (a3 : Int32) (a4 : Int32) (a5 : Int32) : zseg (zE xs L (d + 5) 104) (zC 104) 673 (zB104_1.drop 20) [(0, .ref 0), (1, .int a1), (2, .int a2), (3, .int a3), (4, .int a4), (5, .int a5)] [] (zmk I J X) = some (.inr (.inr (some (.int (I 35 1))), zmk I J X)) := by
  rfl
/-! 106 TollTags.sees (I)I -/
theorem S106_0 (xs : Nat → Int32) (L d : Nat) (I : Nat → Nat → Int32) (J : Nat → Nat → Int64) (X : XH) (a1 : Int32) : zseg (zE xs L (d + 5) 106) (zC 106) 700 (zC 106 0) [(0, .ref 0), (1, .int a1)] [] (zmk I J X) = zci (zE xs L (d + 5) 106) (zev xs L (d + 5) 91 [.ref 57, .int a1] (zmk I J X)) (fun r h => zseg (zE xs L (d + 5) 106) (zC 106) 696 (zB106_0.drop 4) [(0, .ref 0), (1, .int a1)] [.int r] h) := by
  rfl
theorem T106_0_4_696 (xs : Nat → Int32) (L d : Nat) (I : Nat → Nat → Int32) (J : Nat → Nat → Int64) (X : XH) (a1 : Int32) (b0 : Int32) : zseg (zE xs L (d + 5) 106) (zC 106) 696 (zB106_0.drop 4) [(0, .ref 0), (1, .int a1)] [.int b0] (zmk I J X) = some (.inr (.inr (some (.int b0)), zmk I J X)) := by
  rfl
/-! 109 TollTags.road (IIIIIZ)I -/
theorem S109_0 (xs : Nat → Int32) (L d : Nat) (I : Nat → Nat → Int32) (J : Nat → Nat → Int64) (X : XH) (a1 : Int32) (a2 : Int32) (a3 : Int32) (a4 : Int32) (a5 : Int32) (a6 : Int32) : zseg (zE xs L (d + 5) 109) (zC 109) 700 (zC 109 0) [(0, .ref 0), (1, .int a1), (2, .int a2), (3, .int a3), (4, .int a4), (5, .int a5), (6, .int a6)] [] (zmk I J X) = zcw (zE xs L (d + 5) 109) (zev xs L (d + 5) 110 [.ref 0, .int a3] (zmk I J X)) (fun h => zseg (zE xs L (d + 5) 109) (zC 109) 697 (zB109_0.drop 3) [(0, .ref 0), (1, .int a1), (2, .int a2), (3, .int a3), (4, .int a4), (5, .int a5), (6, .int a6)] [] h) := by
  rfl
theorem T109_0_3_697 (xs : Nat → Int32) (L d : Nat) (I : Nat → Nat → Int32) (J : Nat → Nat → Int64) (X : XH) (a1 : Int32) (a2 : Int32) (a3 : Int32) (a4 : Int32) (a5 : Int32) (a6 : Int32) : zseg (zE xs L (d + 5) 109) (zC 109) 697 (zB109_0.drop 3) [(0, .ref 0), (1, .int a1), (2, .int a2), (3, .int a3), (4, .int a4), (5, .int a5), (6, .int a6)] [] (zmk I J X) = zci (zE xs L (d + 5) 109) (zev xs L (d + 5) 30 [.ref 1, .int a1, .int a2, .int a3, .int a4, .int a5, .int a6] (zmk I J X)) (fun r h => zseg (zE xs L (d + 5) 109) (zC 109) 688 (zB109_0.drop 12) [(0, .ref 0), (1, .int a1), (2, .int a2), (3, .int a3), (4, .int a4), (5, .int a5), (6, .int a6)] [.int r] h) := by
  rfl
theorem T109_0_12_688 (xs : Nat → Int32) (L d : Nat) (I : Nat → Nat → Int32) (J : Nat → Nat → Int64) (X : XH) (a1 : Int32) (a2 : Int32) (a3 : Int32) (a4 : Int32) (a5 : Int32) (a6 : Int32) (b0 : Int32) : zseg (zE xs L (d + 5) 109) (zC 109) 688 (zB109_0.drop 12) [(0, .ref 0), (1, .int a1), (2, .int a2), (3, .int a3), (4, .int a4), (5, .int a5), (6, .int a6)] [.int b0] (zmk I J X) = some (.inr (.inr (some (.int b0)), zmk I J X)) := by
  rfl
/-! 110 TollTags.needLand (I)V -/
theorem S110_0 (xs : Nat → Int32) (L d : Nat) (I : Nat → Nat → Int32) (J : Nat → Nat → Int64) (X : XH) (a1 : Int32) : zseg (zE xs L (d + 5) 110) (zC 110) 700 (zC 110 0) [(0, .ref 0), (1, .int a1)] [] (zmk I J X) = zcw (zE xs L (d + 5) 110) (zev xs L (d + 5) 111 [.ref 0, .int a1, .int (I 1 0)] (zmk I J X)) (fun h => zseg (zE xs L (d + 5) 110) (zC 110) 694 (zB110_0.drop 6) [(0, .ref 0), (1, .int a1)] [] h) := by
  rfl
theorem T110_0_6_694 (xs : Nat → Int32) (L d : Nat) (I : Nat → Nat → Int32) (J : Nat → Nat → Int64) (X : XH) (a1 : Int32) : zseg (zE xs L (d + 5) 110) (zC 110) 694 (zB110_0.drop 6) [(0, .ref 0), (1, .int a1)] [] (zmk I J X) = some (.inr (.inr none, zmk I J X)) := by
  rfl
/-! 111 TollTags.need (II)V -/
theorem S111_0 (xs : Nat → Int32) (L d : Nat) (I : Nat → Nat → Int32) (J : Nat → Nat → Int64) (X : XH) (a1 : Int32) (a2 : Int32) : zseg (zE xs L (d + 5) 111) (zC 111) 700 (zC 111 0) [(0, .ref 0), (1, .int a1), (2, .int a2)] [] (zmk I J X) = if decide (a1 < 0) = true then
  some (.inr (.inl 0, zexc (zmk I J X)))
  else if decide (a1 < a2) = true then
    some (.inr (.inr none, zmk I J X))
    else some (.inr (.inl 0, zexc (zmk I J X))) := by
  refine zite_congr ?_ ?_
  · rfl
  · refine zite_congr ?_ ?_
    · rfl
    · rfl
/-! 112 TollTags.box (II)I -/
theorem S112_0 (xs : Nat → Int32) (L d : Nat) (I : Nat → Nat → Int32) (J : Nat → Nat → Int64) (X : XH) (a1 : Int32) (a2 : Int32) : zseg (zE xs L (d + 5) 112) (zC 112) 700 (zC 112 0) [(0, .ref 0), (1, .int a1), (2, .int a2)] [] (zmk I J X) = zcw (zE xs L (d + 5) 112) (zev xs L (d + 5) 111 [.ref 0, .int a1, .int (I 9 1)] (zmk I J X)) (fun h => zseg (zE xs L (d + 5) 112) (zC 112) 694 (zB112_0.drop 6) [(0, .ref 0), (1, .int a1), (2, .int a2)] [] h) := by
  rfl
theorem T112_0_6_694 (xs : Nat → Int32) (L d : Nat) (I : Nat → Nat → Int32) (J : Nat → Nat → Int64) (X : XH) (a1 : Int32) (a2 : Int32) : zseg (zE xs L (d + 5) 112) (zC 112) 694 (zB112_0.drop 6) [(0, .ref 0), (1, .int a1), (2, .int a2)] [] (zmk I J X) = zcw (zE xs L (d + 5) 112) (zev xs L (d + 5) 111 [.ref 0, .int a2, .int (I 9 0)] (zmk I J X)) (fun h => zseg (zE xs L (d + 5) 112) (zC 112) 688 (zB112_0.drop 12) [(0, .ref 0), (1, .int a1), (2, .int a2)] [] h) := by
  rfl
theorem T112_0_12_688 (xs : Nat → Int32) (L d : Nat) (I : Nat → Nat → Int32) (J : Nat → Nat → Int64) (X : XH) (a1 : Int32) (a2 : Int32) : zseg (zE xs L (d + 5) 112) (zC 112) 688 (zB112_0.drop 12) [(0, .ref 0), (1, .int a1), (2, .int a2)] [] (zmk I J X) = zci (zE xs L (d + 5) 112) (zev xs L (d + 5) 14 [.ref 9, .int a1, .int a2] (zmk I J X)) (fun r h => zseg (zE xs L (d + 5) 112) (zC 112) 683 (zB112_0.drop 17) [(0, .ref 0), (1, .int a1), (2, .int a2)] [.int r] h) := by
  rfl
theorem T112_0_17_683 (xs : Nat → Int32) (L d : Nat) (I : Nat → Nat → Int32) (J : Nat → Nat → Int64) (X : XH) (a1 : Int32) (a2 : Int32) (b0 : Int32) : zseg (zE xs L (d + 5) 112) (zC 112) 683 (zB112_0.drop 17) [(0, .ref 0), (1, .int a1), (2, .int a2)] [.int b0] (zmk I J X) = some (.inr (.inr (some (.int b0)), zmk I J X)) := by
  rfl
/-! 113 TollTags.go (I)I -/
theorem S113_0 (xs : Nat → Int32) (L d : Nat) (I : Nat → Nat → Int32) (J : Nat → Nat → Int64) (X : XH) (a1 : Int32) : zseg (zE xs L (d + 5) 113) (zC 113) 700 (zC 113 0) [(0, .ref 0), (1, .int a1)] [] (zmk I J X) = if decide (a1 < 0) = true then
  some (.inr (.inl 1, zexc (zmk I J X)))
  else if decide (a1 ≤ ((129599 : Int32) - (I 0 11))) = true then
    some (.inr (.inr (some (.int ((I 0 11) + a1))), zmk (zup I 0 11 ((I 0 11) + a1)) J X))
    else some (.inr (.inl 1, zexc (zmk I J X))) := by
  refine zite_congr ?_ ?_
  · rfl
  · show zseg (zE xs L (d + 5) 113) (zC 113) 698 [(4, 5, 1, 1, 0, 0), (5, 1, 0, 3, 125, 129599), (7, 7, 0, 1, 0, 0), (8, 60, 11, 11, 126, 0), (11, 13, 0, 0, 0, 0), (12, 53, 2, 0, 0, 0), (15, 56, 1, 0, 0, 0)] [(0, .ref 0), (1, .int a1)] [] (zmk I J X) = _
    generalize (129599 : Int32) = z
    refine zite_congr ?_ ?_
    · rfl
    · rfl
/-! 114 TollTags.signal (III)I -/
theorem S114_0 (xs : Nat → Int32) (L d : Nat) (I : Nat → Nat → Int32) (J : Nat → Nat → Int64) (X : XH) (a1 : Int32) (a2 : Int32) (a3 : Int32) : zseg (zE xs L (d + 5) 114) (zC 114) 700 (zC 114 0) [(0, .ref 0), (1, .int a1), (2, .int a2), (3, .int a3)] [] (zmk I J X) = zcw (zE xs L (d + 5) 114) (zev xs L (d + 5) 111 [.ref 0, .int a1, .int (I 9 2)] (zmk I J X)) (fun h => zseg (zE xs L (d + 5) 114) (zC 114) 694 (zB114_0.drop 6) [(0, .ref 0), (1, .int a1), (2, .int a2), (3, .int a3)] [] h) := by
  rfl
theorem T114_0_6_694 (xs : Nat → Int32) (L d : Nat) (I : Nat → Nat → Int32) (J : Nat → Nat → Int64) (X : XH) (a1 : Int32) (a2 : Int32) (a3 : Int32) : zseg (zE xs L (d + 5) 114) (zC 114) 694 (zB114_0.drop 6) [(0, .ref 0), (1, .int a1), (2, .int a2), (3, .int a3)] [] (zmk I J X) = zcw (zE xs L (d + 5) 114) (zev xs L (d + 5) 111 [.ref 0, .int a2, .int (I 1 1)] (zmk I J X)) (fun h => zseg (zE xs L (d + 5) 114) (zC 114) 688 (zB114_0.drop 12) [(0, .ref 0), (1, .int a1), (2, .int a2), (3, .int a3)] [] h) := by
  rfl
theorem T114_0_12_688 (xs : Nat → Int32) (L d : Nat) (I : Nat → Nat → Int32) (J : Nat → Nat → Int64) (X : XH) (a1 : Int32) (a2 : Int32) (a3 : Int32) : zseg (zE xs L (d + 5) 114) (zC 114) 688 (zB114_0.drop 12) [(0, .ref 0), (1, .int a1), (2, .int a2), (3, .int a3)] [] (zmk I J X) = if decide ((zbi (zat I 7 40 a2 = 1000000000)) = 0) = true then
  some (.inr (.inr (some (.int (-1 : Int32))), zmk I J X))
  else if decide (¬ (zbi (¬ a3 < (0 : Int32) ∧ ¬ I 0 11 < a3)) = 0) = true then
    zci (zE xs L (d + 5) 114) (zev xs L (d + 5) 66 [.ref 26, .int a1, .int a2, .int a3, .int (I 0 11)] (zmk I J X)) (fun r h => zseg (zE xs L (d + 5) 114) (zC 114) 669 (zB114_2.drop 8) [(0, .ref 0), (1, .int a1), (2, .int a2), (3, .int a3)] [.int r] h)
    else some (.inr (.inr (some (.int (-1 : Int32))), zmk I J X)) := by
  refine zite_congr ?_ ?_
  · rfl
  · refine zite_congr ?_ ?_
    · rfl
    · rfl
theorem T114_2_8_669 (xs : Nat → Int32) (L d : Nat) (I : Nat → Nat → Int32) (J : Nat → Nat → Int64) (X : XH) (a1 : Int32) (a2 : Int32) (a3 : Int32) (b0 : Int32) : zseg (zE xs L (d + 5) 114) (zC 114) 669 (zB114_2.drop 8) [(0, .ref 0), (1, .int a1), (2, .int a2), (3, .int a3)] [.int b0] (zmk I J X) = some (.inr (.inr (some (.int b0)), zmk I J X)) := by
  rfl
/-! 115 TollTags.back (I)Z -/
theorem S115_0 (xs : Nat → Int32) (L d : Nat) (I : Nat → Nat → Int32) (J : Nat → Nat → Int64) (X : XH) (a1 : Int32) : zseg (zE xs L (d + 5) 115) (zC 115) 700 (zC 115 0) [(0, .ref 0), (1, .int a1)] [] (zmk I J X) = zcw (zE xs L (d + 5) 115) (zev xs L (d + 5) 111 [.ref 0, .int a1, .int (I 26 4)] (zmk I J X)) (fun h => zseg (zE xs L (d + 5) 115) (zC 115) 694 (zB115_0.drop 6) [(0, .ref 0), (1, .int a1)] [] h) := by
  rfl
theorem T115_0_6_694 (xs : Nat → Int32) (L d : Nat) (I : Nat → Nat → Int32) (J : Nat → Nat → Int64) (X : XH) (a1 : Int32) : zseg (zE xs L (d + 5) 115) (zC 115) 694 (zB115_0.drop 6) [(0, .ref 0), (1, .int a1)] [] (zmk I J X) = zci (zE xs L (d + 5) 115) (zev xs L (d + 5) 69 [.ref 26, .int a1, .int (I 0 11)] (zmk I J X)) (fun r h => zseg (zE xs L (d + 5) 115) (zC 115) 688 (zB115_0.drop 12) [(0, .ref 0), (1, .int a1)] [.int r] h) := by
  rfl
theorem T115_0_12_688 (xs : Nat → Int32) (L d : Nat) (I : Nat → Nat → Int32) (J : Nat → Nat → Int64) (X : XH) (a1 : Int32) (b0 : Int32) : zseg (zE xs L (d + 5) 115) (zC 115) 688 (zB115_0.drop 12) [(0, .ref 0), (1, .int a1)] [.int b0] (zmk I J X) = if b0 = 0 ∨ b0 = 1 then
  some (.inr (.inr (some (.int b0)), zmk I J X))
  else none := by
  refine zite_congr ?_ ?_
  · rfl
  · rfl
/-! 116 TollTags.dispute (I)I -/
theorem S116_0 (xs : Nat → Int32) (L d : Nat) (I : Nat → Nat → Int32) (J : Nat → Nat → Int64) (X : XH) (a1 : Int32) : zseg (zE xs L (d + 5) 116) (zC 116) 700 (zC 116 0) [(0, .ref 0), (1, .int a1)] [] (zmk I J X) = zcw (zE xs L (d + 5) 116) (zev xs L (d + 5) 111 [.ref 0, .int a1, .int (I 26 4)] (zmk I J X)) (fun h => zseg (zE xs L (d + 5) 116) (zC 116) 694 (zB116_0.drop 6) [(0, .ref 0), (1, .int a1)] [] h) := by
  rfl
theorem T116_0_6_694 (xs : Nat → Int32) (L d : Nat) (I : Nat → Nat → Int32) (J : Nat → Nat → Int64) (X : XH) (a1 : Int32) : zseg (zE xs L (d + 5) 116) (zC 116) 694 (zB116_0.drop 6) [(0, .ref 0), (1, .int a1)] [] (zmk I J X) = zci (zE xs L (d + 5) 116) (zev xs L (d + 5) 8 [.ref 20, .int a1] (zmk I J X)) (fun r h => zseg (zE xs L (d + 5) 116) (zC 116) 690 (zB116_0.drop 10) [(0, .ref 0), (1, .int a1)] [.int r] h) := by
  rfl
theorem T116_0_10_690 (xs : Nat → Int32) (L d : Nat) (I : Nat → Nat → Int32) (J : Nat → Nat → Int64) (X : XH) (a1 : Int32) (b0 : Int32) : zseg (zE xs L (d + 5) 116) (zC 116) 690 (zB116_0.drop 10) [(0, .ref 0), (1, .int a1)] [.int b0] (zmk I J X) = some (.inr (.inr (some (.int b0)), zmk I J X)) := by
  rfl
/-! 117 TollTags.decide (III)Z -/
theorem S117_0 (xs : Nat → Int32) (L d : Nat) (I : Nat → Nat → Int32) (J : Nat → Nat → Int64) (X : XH) (a1 : Int32) (a2 : Int32) (a3 : Int32) : zseg (zE xs L (d + 5) 117) (zC 117) 700 (zC 117 0) [(0, .ref 0), (1, .int a1), (2, .int a2), (3, .int a3)] [] (zmk I J X) = zcw (zE xs L (d + 5) 117) (zev xs L (d + 5) 111 [.ref 0, .int a1, .int (I 20 0)] (zmk I J X)) (fun h => zseg (zE xs L (d + 5) 117) (zC 117) 694 (zB117_0.drop 6) [(0, .ref 0), (1, .int a1), (2, .int a2), (3, .int a3)] [] h) := by
  rfl
theorem T117_0_6_694 (xs : Nat → Int32) (L d : Nat) (I : Nat → Nat → Int32) (J : Nat → Nat → Int64) (X : XH) (a1 : Int32) (a2 : Int32) (a3 : Int32) : zseg (zE xs L (d + 5) 117) (zC 117) 694 (zB117_0.drop 6) [(0, .ref 0), (1, .int a1), (2, .int a2), (3, .int a3)] [] (zmk I J X) = if decide (¬ a2 = (2 : Int32)) = true then
  if decide ((zbi (¬ a2 < (0 : Int32) ∧ ¬ (2 : Int32) < a2)) = 0) = true then
    some (.inr (.inr (some (.int (0 : Int32))), zmk I J X))
    else if decide (¬ a2 = (2 : Int32)) = true then
      zci (zE xs L (d + 5) 117) (zev xs L (d + 5) 9 [.ref 20, .int a1, .int a2, .int a3, .int (I 0 11)] (zmk I J X)) (fun r h => zseg (zE xs L (d + 5) 117) (zC 117) 675 (zB117_3.drop 8) [(0, .ref 0), (1, .int a1), (2, .int a2), (3, .int a3)] [.int r] h)
      else if decide (¬ (zbi (zat I 7 40 a3 = 1000000000)) = 0) = true then
        zci (zE xs L (d + 5) 117) (zev xs L (d + 5) 9 [.ref 20, .int a1, .int a2, .int a3, .int (I 0 11)] (zmk I J X)) (fun r h => zseg (zE xs L (d + 5) 117) (zC 117) 670 (zB117_3.drop 8) [(0, .ref 0), (1, .int a1), (2, .int a2), (3, .int a3)] [.int r] h)
        else some (.inr (.inr (some (.int (0 : Int32))), zmk I J X))
  else zcw (zE xs L (d + 5) 117) (zev xs L (d + 5) 111 [.ref 0, .int a3, .int (I 1 1)] (zmk I J X)) (fun h => zseg (zE xs L (d + 5) 117) (zC 117) 685 (zB117_0.drop 15) [(0, .ref 0), (1, .int a1), (2, .int a2), (3, .int a3)] [] h) := by
  refine zite_congr ?_ ?_
  · refine zite_congr ?_ ?_
    · rfl
    · refine zite_congr ?_ ?_
      · rfl
      · refine zite_congr ?_ ?_
        · rfl
        · rfl
  · rfl
theorem T117_3_8_675 (xs : Nat → Int32) (L d : Nat) (I : Nat → Nat → Int32) (J : Nat → Nat → Int64) (X : XH) (a1 : Int32) (a2 : Int32) (a3 : Int32) (b0 : Int32) : zseg (zE xs L (d + 5) 117) (zC 117) 675 (zB117_3.drop 8) [(0, .ref 0), (1, .int a1), (2, .int a2), (3, .int a3)] [.int b0] (zmk I J X) = if b0 = 0 ∨ b0 = 1 then
  some (.inr (.inr (some (.int b0)), zmk I J X))
  else none := by
  refine zite_congr ?_ ?_
  · rfl
  · rfl
theorem T117_3_8_670 (xs : Nat → Int32) (L d : Nat) (I : Nat → Nat → Int32) (J : Nat → Nat → Int64) (X : XH) (a1 : Int32) (a2 : Int32) (a3 : Int32) (b0 : Int32) : zseg (zE xs L (d + 5) 117) (zC 117) 670 (zB117_3.drop 8) [(0, .ref 0), (1, .int a1), (2, .int a2), (3, .int a3)] [.int b0] (zmk I J X) = if b0 = 0 ∨ b0 = 1 then
  some (.inr (.inr (some (.int b0)), zmk I J X))
  else none := by
  refine zite_congr ?_ ?_
  · rfl
  · rfl
theorem T117_0_15_685 (xs : Nat → Int32) (L d : Nat) (I : Nat → Nat → Int32) (J : Nat → Nat → Int64) (X : XH) (a1 : Int32) (a2 : Int32) (a3 : Int32) : zseg (zE xs L (d + 5) 117) (zC 117) 685 (zB117_0.drop 15) [(0, .ref 0), (1, .int a1), (2, .int a2), (3, .int a3)] [] (zmk I J X) = if decide ((zbi (¬ a2 < (0 : Int32) ∧ ¬ (2 : Int32) < a2)) = 0) = true then
  some (.inr (.inr (some (.int (0 : Int32))), zmk I J X))
  else if decide (¬ a2 = (2 : Int32)) = true then
    zci (zE xs L (d + 5) 117) (zev xs L (d + 5) 9 [.ref 20, .int a1, .int a2, .int a3, .int (I 0 11)] (zmk I J X)) (fun r h => zseg (zE xs L (d + 5) 117) (zC 117) 668 (zB117_3.drop 8) [(0, .ref 0), (1, .int a1), (2, .int a2), (3, .int a3)] [.int r] h)
    else if decide (¬ (zbi (zat I 7 40 a3 = 1000000000)) = 0) = true then
      zci (zE xs L (d + 5) 117) (zev xs L (d + 5) 9 [.ref 20, .int a1, .int a2, .int a3, .int (I 0 11)] (zmk I J X)) (fun r h => zseg (zE xs L (d + 5) 117) (zC 117) 663 (zB117_3.drop 8) [(0, .ref 0), (1, .int a1), (2, .int a2), (3, .int a3)] [.int r] h)
      else some (.inr (.inr (some (.int (0 : Int32))), zmk I J X)) := by
  refine zite_congr ?_ ?_
  · rfl
  · refine zite_congr ?_ ?_
    · rfl
    · refine zite_congr ?_ ?_
      · rfl
      · rfl
theorem T117_3_8_668 (xs : Nat → Int32) (L d : Nat) (I : Nat → Nat → Int32) (J : Nat → Nat → Int64) (X : XH) (a1 : Int32) (a2 : Int32) (a3 : Int32) (b0 : Int32) : zseg (zE xs L (d + 5) 117) (zC 117) 668 (zB117_3.drop 8) [(0, .ref 0), (1, .int a1), (2, .int a2), (3, .int a3)] [.int b0] (zmk I J X) = if b0 = 0 ∨ b0 = 1 then
  some (.inr (.inr (some (.int b0)), zmk I J X))
  else none := by
  refine zite_congr ?_ ?_
  · rfl
  · rfl
theorem T117_3_8_663 (xs : Nat → Int32) (L d : Nat) (I : Nat → Nat → Int32) (J : Nat → Nat → Int64) (X : XH) (a1 : Int32) (a2 : Int32) (a3 : Int32) (b0 : Int32) : zseg (zE xs L (d + 5) 117) (zC 117) 663 (zB117_3.drop 8) [(0, .ref 0), (1, .int a1), (2, .int a2), (3, .int a3)] [.int b0] (zmk I J X) = if b0 = 0 ∨ b0 = 1 then
  some (.inr (.inr (some (.int b0)), zmk I J X))
  else none := by
  refine zite_congr ?_ ?_
  · rfl
  · rfl
/-! 118 TollTags.terms (III)I -/
theorem S118_0 (xs : Nat → Int32) (L d : Nat) (I : Nat → Nat → Int32) (J : Nat → Nat → Int64) (X : XH) (a1 : Int32) (a2 : Int32) (a3 : Int32) : zseg (zE xs L (d + 5) 118) (zC 118) 700 (zC 118 0) [(0, .ref 0), (1, .int a1), (2, .int a2), (3, .int a3)] [] (zmk I J X) = zcw (zE xs L (d + 5) 118) (zev xs L (d + 5) 110 [.ref 0, .int a1] (zmk I J X)) (fun h => zseg (zE xs L (d + 5) 118) (zC 118) 697 (zB118_0.drop 3) [(0, .ref 0), (1, .int a1), (2, .int a2), (3, .int a3)] [] h) := by
  rfl
theorem T118_0_3_697 (xs : Nat → Int32) (L d : Nat) (I : Nat → Nat → Int32) (J : Nat → Nat → Int64) (X : XH) (a1 : Int32) (a2 : Int32) (a3 : Int32) : zseg (zE xs L (d + 5) 118) (zC 118) 697 (zB118_0.drop 3) [(0, .ref 0), (1, .int a1), (2, .int a2), (3, .int a3)] [] (zmk I J X) = zcw (zE xs L (d + 5) 118) (zev xs L (d + 5) 119 [.ref 0, .int a2] (zmk I J X)) (fun h => zseg (zE xs L (d + 5) 118) (zC 118) 694 (zB118_0.drop 6) [(0, .ref 0), (1, .int a1), (2, .int a2), (3, .int a3)] [] h) := by
  rfl
theorem T118_0_6_694 (xs : Nat → Int32) (L d : Nat) (I : Nat → Nat → Int32) (J : Nat → Nat → Int64) (X : XH) (a1 : Int32) (a2 : Int32) (a3 : Int32) : zseg (zE xs L (d + 5) 118) (zC 118) 694 (zB118_0.drop 6) [(0, .ref 0), (1, .int a1), (2, .int a2), (3, .int a3)] [] (zmk I J X) = if decide ((zbi (¬ a3 < 0 ∧ ¬ 129599 < a3)) = 0) = true then
  zci (zE xs L (d + 5) 118) (zev xs L (d + 5) 121 [.ref 0, .int a2, .int (0 : Int32)] (zmk I J X)) (fun r h => zseg (zE xs L (d + 5) 118) (zC 118) 686 (zB118_2.drop 1) [(0, .ref 0), (1, .int a1), (2, .int a2), (3, .int a3)] [.int r] h)
  else if decide ((zbi (¬ 4 ≤ zat I 19 9 a1)) = 0) = true then
    zci (zE xs L (d + 5) 118) (zev xs L (d + 5) 121 [.ref 0, .int a2, .int (0 : Int32)] (zmk I J X)) (fun r h => zseg (zE xs L (d + 5) 118) (zC 118) 681 (zB118_2.drop 1) [(0, .ref 0), (1, .int a1), (2, .int a2), (3, .int a3)] [.int r] h)
    else zci (zE xs L (d + 5) 118) (zev xs L (d + 5) 121 [.ref 0, .int a2, .int (1 : Int32)] (zmk I J X)) (fun r h => zseg (zE xs L (d + 5) 118) (zC 118) 681 (zB118_2.drop 1) [(0, .ref 0), (1, .int a1), (2, .int a2), (3, .int a3)] [.int r] h) := by
  refine zite_congr ?_ ?_
  · rfl
  · refine zite_congr ?_ ?_
    · rfl
    · rfl
theorem T118_2_1_686 (xs : Nat → Int32) (L d : Nat) (I : Nat → Nat → Int32) (J : Nat → Nat → Int64) (X : XH) (a1 : Int32) (a2 : Int32) (a3 : Int32) (b0 : Int32) : zseg (zE xs L (d + 5) 118) (zC 118) 686 (zB118_2.drop 1) [(0, .ref 0), (1, .int a1), (2, .int a2), (3, .int a3)] [.int b0] (zmk I J X) = if decide (¬ b0 = 0) = true then
  some (.inr (.inr (some (.int b0)), zmk I J X))
  else zcr (zE xs L (d + 5) 118) (zev xs L (d + 5) 64 [.ref 35, .int a3, .int (I 0 11)] (zmk I J X)) (fun r h => zseg (zE xs L (d + 5) 118) (zC 118) 674 (zB118_2.drop 13) [(4, .int b0), (0, .ref 0), (1, .int a1), (2, .int a2), (3, .int a3)] [.ref r, .int a1, .ref 15] h) (fun h => zseg (zE xs L (d + 5) 118) (zC 118) 674 (zB118_2.drop 13) [(4, .int b0), (0, .ref 0), (1, .int a1), (2, .int a2), (3, .int a3)] [.null, .int a1, .ref 15] h) := by
  refine zite_congr ?_ ?_
  · rfl
  · rfl
theorem T118_2_1_681 (xs : Nat → Int32) (L d : Nat) (I : Nat → Nat → Int32) (J : Nat → Nat → Int64) (X : XH) (a1 : Int32) (a2 : Int32) (a3 : Int32) (b0 : Int32) : zseg (zE xs L (d + 5) 118) (zC 118) 681 (zB118_2.drop 1) [(0, .ref 0), (1, .int a1), (2, .int a2), (3, .int a3)] [.int b0] (zmk I J X) = if decide (¬ b0 = 0) = true then
  some (.inr (.inr (some (.int b0)), zmk I J X))
  else zcr (zE xs L (d + 5) 118) (zev xs L (d + 5) 64 [.ref 35, .int a3, .int (I 0 11)] (zmk I J X)) (fun r h => zseg (zE xs L (d + 5) 118) (zC 118) 669 (zB118_2.drop 13) [(4, .int b0), (0, .ref 0), (1, .int a1), (2, .int a2), (3, .int a3)] [.ref r, .int a1, .ref 15] h) (fun h => zseg (zE xs L (d + 5) 118) (zC 118) 669 (zB118_2.drop 13) [(4, .int b0), (0, .ref 0), (1, .int a1), (2, .int a2), (3, .int a3)] [.null, .int a1, .ref 15] h) := by
  refine zite_congr ?_ ?_
  · rfl
  · rfl
theorem T118_2_13_674 (xs : Nat → Int32) (L d : Nat) (I : Nat → Nat → Int32) (J : Nat → Nat → Int64) (X : XH) (a4 : Int32) (a1 : Int32) (a2 : Int32) (a3 : Int32) (b1 : Int32) (b2 : Nat) : zseg (zE xs L (d + 5) 118) (zC 118) 674 (zB118_2.drop 13) [(4, .int a4), (0, .ref 0), (1, .int a1), (2, .int a2), (3, .int a3)] [.ref b2, .int b1, .ref 15] (zmk I J X) = zcw (zE xs L (d + 5) 118) (zev xs L (d + 5) 2 [.ref 15, .int b1, .ref b2] (zmk I J X)) (fun h => zseg (zE xs L (d + 5) 118) (zC 118) 673 (zB118_2.drop 14) [(4, .int a4), (0, .ref 0), (1, .int a1), (2, .int a2), (3, .int a3)] [] h) := by
  rfl
theorem T118_2_13_674_5 (xs : Nat → Int32) (L d : Nat) (I : Nat → Nat → Int32) (J : Nat → Nat → Int64) (X : XH) (a4 : Int32) (a1 : Int32) (a2 : Int32) (a3 : Int32) (b1 : Int32) : zseg (zE xs L (d + 5) 118) (zC 118) 674 (zB118_2.drop 13) [(4, .int a4), (0, .ref 0), (1, .int a1), (2, .int a2), (3, .int a3)] [.null, .int b1, .ref 15] (zmk I J X) = zcw (zE xs L (d + 5) 118) (zev xs L (d + 5) 2 [.ref 15, .int b1, .null] (zmk I J X)) (fun h => zseg (zE xs L (d + 5) 118) (zC 118) 673 (zB118_2.drop 14) [(4, .int a4), (0, .ref 0), (1, .int a1), (2, .int a2), (3, .int a3)] [] h) := by
  rfl
theorem T118_2_13_669 (xs : Nat → Int32) (L d : Nat) (I : Nat → Nat → Int32) (J : Nat → Nat → Int64) (X : XH) (a4 : Int32) (a1 : Int32) (a2 : Int32) (a3 : Int32) (b1 : Int32) (b2 : Nat) : zseg (zE xs L (d + 5) 118) (zC 118) 669 (zB118_2.drop 13) [(4, .int a4), (0, .ref 0), (1, .int a1), (2, .int a2), (3, .int a3)] [.ref b2, .int b1, .ref 15] (zmk I J X) = zcw (zE xs L (d + 5) 118) (zev xs L (d + 5) 2 [.ref 15, .int b1, .ref b2] (zmk I J X)) (fun h => zseg (zE xs L (d + 5) 118) (zC 118) 668 (zB118_2.drop 14) [(4, .int a4), (0, .ref 0), (1, .int a1), (2, .int a2), (3, .int a3)] [] h) := by
  rfl
theorem T118_2_13_669_7 (xs : Nat → Int32) (L d : Nat) (I : Nat → Nat → Int32) (J : Nat → Nat → Int64) (X : XH) (a4 : Int32) (a1 : Int32) (a2 : Int32) (a3 : Int32) (b1 : Int32) : zseg (zE xs L (d + 5) 118) (zC 118) 669 (zB118_2.drop 13) [(4, .int a4), (0, .ref 0), (1, .int a1), (2, .int a2), (3, .int a3)] [.null, .int b1, .ref 15] (zmk I J X) = zcw (zE xs L (d + 5) 118) (zev xs L (d + 5) 2 [.ref 15, .int b1, .null] (zmk I J X)) (fun h => zseg (zE xs L (d + 5) 118) (zC 118) 668 (zB118_2.drop 14) [(4, .int a4), (0, .ref 0), (1, .int a1), (2, .int a2), (3, .int a3)] [] h) := by
  rfl
theorem T118_2_14_673 (xs : Nat → Int32) (L d : Nat) (I : Nat → Nat → Int32) (J : Nat → Nat → Int64) (X : XH) (a4 : Int32) (a1 : Int32) (a2 : Int32) (a3 : Int32) : zseg (zE xs L (d + 5) 118) (zC 118) 673 (zB118_2.drop 14) [(4, .int a4), (0, .ref 0), (1, .int a1), (2, .int a2), (3, .int a3)] [] (zmk I J X) = some (.inr (.inr (some (.int a4)), zmk I J X)) := by
  rfl
theorem T118_2_14_668 (xs : Nat → Int32) (L d : Nat) (I : Nat → Nat → Int32) (J : Nat → Nat → Int64) (X : XH) (a4 : Int32) (a1 : Int32) (a2 : Int32) (a3 : Int32) : zseg (zE xs L (d + 5) 118) (zC 118) 668 (zB118_2.drop 14) [(4, .int a4), (0, .ref 0), (1, .int a1), (2, .int a2), (3, .int a3)] [] (zmk I J X) = some (.inr (.inr (some (.int a4)), zmk I J X)) := by
  rfl
/-! 119 TollTags.needTape (I)V -/
theorem S119_0 (xs : Nat → Int32) (L d : Nat) (I : Nat → Nat → Int32) (J : Nat → Nat → Int64) (X : XH) (a1 : Int32) : zseg (zE xs L (d + 5) 119) (zC 119) 700 (zC 119 0) [(0, .ref 0), (1, .int a1)] [] (zmk I J X) = if decide (¬ (zbi (¬ a1 < (0 : Int32) ∧ ¬ I 35 1 < a1)) = 0) = true then
  some (.inr (.inr none, zmk I J X))
  else some (.inr (.inl 1, zexc (zmk I J X))) := by
  refine zite_congr ?_ ?_
  · rfl
  · rfl
/-! 121 TollTags.readTape (IZ)I -/
theorem S121_0 (xs : Nat → Int32) (L d : Nat) (I : Nat → Nat → Int32) (J : Nat → Nat → Int64) (X : XH) (a1 : Int32) (a2 : Int32) : zseg (zE xs L (d + 5) 121) (zC 121) 700 (zC 121 0) [(0, .ref 0), (1, .int a1), (2, .int a2)] [] (zmk I J X) = if decide (a2 = 0) = true then
  some (.inr (.inr (some (.int (9 : Int32))), zmk (zup (zup I 0 12 (-1 : Int32)) 35 1 (0 : Int32)) J X))
  else zci (zE xs L (d + 5) 121) (zev xs L (d + 5) 44 [.ref 35, .int a1] (zmk I J X)) (fun r h => zseg (zE xs L (d + 5) 121) (zC 121) 694 (zB121_0.drop 6) [(0, .ref 0), (1, .int a1), (2, .int a2)] [.int r] h) := by
  refine zite_congr ?_ ?_
  · rfl
  · rfl
theorem T121_0_6_694 (xs : Nat → Int32) (L d : Nat) (I : Nat → Nat → Int32) (J : Nat → Nat → Int64) (X : XH) (a1 : Int32) (a2 : Int32) (b0 : Int32) : zseg (zE xs L (d + 5) 121) (zC 121) 694 (zB121_0.drop 6) [(0, .ref 0), (1, .int a1), (2, .int a2)] [.int b0] (zmk I J X) = if decide (b0 = 0) = true then
  some (.inr (.inr (some (.int b0)), zmk (zup (zup I 0 12 (-1 : Int32)) 35 1 (0 : Int32)) J X))
  else if decide (¬ b0 = (9 : Int32)) = true then
    some (.inr (.inr (some (.int b0)), zmk (zup (zup I 0 12 (I 35 3)) 35 1 (0 : Int32)) J X))
    else some (.inr (.inr (some (.int b0)), zmk (zup (zup I 0 12 (-1 : Int32)) 35 1 (0 : Int32)) J X)) := by
  refine zite_congr ?_ ?_
  · rfl
  · refine zite_congr ?_ ?_
    · rfl
    · rfl
/-! 122 TollTags.black (IZI)I -/
theorem S122_0 (xs : Nat → Int32) (L d : Nat) (I : Nat → Nat → Int32) (J : Nat → Nat → Int64) (X : XH) (a1 : Int32) (a2 : Int32) (a3 : Int32) : zseg (zE xs L (d + 5) 122) (zC 122) 700 (zC 122 0) [(0, .ref 0), (1, .int a1), (2, .int a2), (3, .int a3)] [] (zmk I J X) = zcw (zE xs L (d + 5) 122) (zev xs L (d + 5) 111 [.ref 0, .int a1, .int (I 9 2)] (zmk I J X)) (fun h => zseg (zE xs L (d + 5) 122) (zC 122) 694 (zB122_0.drop 6) [(0, .ref 0), (1, .int a1), (2, .int a2), (3, .int a3)] [] h) := by
  rfl
theorem T122_0_6_694 (xs : Nat → Int32) (L d : Nat) (I : Nat → Nat → Int32) (J : Nat → Nat → Int64) (X : XH) (a1 : Int32) (a2 : Int32) (a3 : Int32) : zseg (zE xs L (d + 5) 122) (zC 122) 694 (zB122_0.drop 6) [(0, .ref 0), (1, .int a1), (2, .int a2), (3, .int a3)] [] (zmk I J X) = if decide (a2 = 0) = true then
  zci (zE xs L (d + 5) 122) (zev xs L (d + 5) 40 [.ref 39, .int a1, .int a3, .int (0 : Int32), .int (I 0 11)] (zmk I J X)) (fun r h => zseg (zE xs L (d + 5) 122) (zC 122) 683 (zB122_2.drop 3) [(0, .ref 0), (1, .int a1), (2, .int a2), (3, .int a3)] [.int r] h)
  else zci (zE xs L (d + 5) 122) (zev xs L (d + 5) 40 [.ref 39, .int a1, .int a3, .int (1 : Int32), .int (I 0 11)] (zmk I J X)) (fun r h => zseg (zE xs L (d + 5) 122) (zC 122) 683 (zB122_2.drop 3) [(0, .ref 0), (1, .int a1), (2, .int a2), (3, .int a3)] [.int r] h) := by
  refine zite_congr ?_ ?_
  · rfl
  · rfl
theorem T122_2_3_683 (xs : Nat → Int32) (L d : Nat) (I : Nat → Nat → Int32) (J : Nat → Nat → Int64) (X : XH) (a1 : Int32) (a2 : Int32) (a3 : Int32) (b0 : Int32) : zseg (zE xs L (d + 5) 122) (zC 122) 683 (zB122_2.drop 3) [(0, .ref 0), (1, .int a1), (2, .int a2), (3, .int a3)] [.int b0] (zmk I J X) = if decide (b0 = 0) = true then
  some (.inr (.inr (some (.int (-1 : Int32))), zmk I J X))
  else some (.inr (.inr (some (.int (I 39 0))), zmk I J X)) := by
  refine zite_congr ?_ ?_
  · rfl
  · rfl
/-! 123 TollTags.rate (III)Z -/
theorem S123_0 (xs : Nat → Int32) (L d : Nat) (I : Nat → Nat → Int32) (J : Nat → Nat → Int64) (X : XH) (a1 : Int32) (a2 : Int32) (a3 : Int32) : zseg (zE xs L (d + 5) 123) (zC 123) 700 (zC 123 0) [(0, .ref 0), (1, .int a1), (2, .int a2), (3, .int a3)] [] (zmk I J X) = zcw (zE xs L (d + 5) 123) (zev xs L (d + 5) 110 [.ref 0, .int a1] (zmk I J X)) (fun h => zseg (zE xs L (d + 5) 123) (zC 123) 697 (zB123_0.drop 3) [(0, .ref 0), (1, .int a1), (2, .int a2), (3, .int a3)] [] h) := by
  rfl
theorem T123_0_3_697 (xs : Nat → Int32) (L d : Nat) (I : Nat → Nat → Int32) (J : Nat → Nat → Int64) (X : XH) (a1 : Int32) (a2 : Int32) (a3 : Int32) : zseg (zE xs L (d + 5) 123) (zC 123) 697 (zB123_0.drop 3) [(0, .ref 0), (1, .int a1), (2, .int a2), (3, .int a3)] [] (zmk I J X) = if decide ((zbi (¬ a2 < (0 : Int32) ∧ ¬ (2 : Int32) < a2)) = 0) = true then
  some (.inr (.inr (some (.int (0 : Int32))), zmk I J X))
  else if decide (¬ (zbi (¬ a3 < (1 : Int32) ∧ ¬ (99999 : Int32) < a3)) = 0) = true then
    zci (zE xs L (d + 5) 123) (zev xs L (d + 5) 40 [.ref 44, .int ((a1 * (3 : Int32)) + a2), .int (0 : Int32), .int a3, .int (I 0 11)] (zmk I J X)) (fun r h => zseg (zE xs L (d + 5) 123) (zC 123) 675 (zB123_2.drop 12) [(0, .ref 0), (1, .int a1), (2, .int a2), (3, .int a3)] [.int r] h)
    else some (.inr (.inr (some (.int (0 : Int32))), zmk I J X)) := by
  refine zite_congr ?_ ?_
  · rfl
  · refine zite_congr ?_ ?_
    · rfl
    · rfl
theorem T123_2_12_675 (xs : Nat → Int32) (L d : Nat) (I : Nat → Nat → Int32) (J : Nat → Nat → Int64) (X : XH) (a1 : Int32) (a2 : Int32) (a3 : Int32) (b0 : Int32) : zseg (zE xs L (d + 5) 123) (zC 123) 675 (zB123_2.drop 12) [(0, .ref 0), (1, .int a1), (2, .int a2), (3, .int a3)] [.int b0] (zmk I J X) = if b0 = 0 ∨ b0 = 1 then
  some (.inr (.inr (some (.int b0)), zmk I J X))
  else none := by
  refine zite_congr ?_ ?_
  · rfl
  · rfl
/-! 124 TollTags.track (III)I -/
theorem S124_0 (xs : Nat → Int32) (L d : Nat) (I : Nat → Nat → Int32) (J : Nat → Nat → Int64) (X : XH) (a1 : Int32) (a2 : Int32) (a3 : Int32) : zseg (zE xs L (d + 5) 124) (zC 124) 700 (zC 124 0) [(0, .ref 0), (1, .int a1), (2, .int a2), (3, .int a3)] [] (zmk I J X) = zcw (zE xs L (d + 5) 124) (zev xs L (d + 5) 111 [.ref 0, .int a1, .int (I 9 2)] (zmk I J X)) (fun h => zseg (zE xs L (d + 5) 124) (zC 124) 694 (zB124_0.drop 6) [(0, .ref 0), (1, .int a1), (2, .int a2), (3, .int a3)] [] h) := by
  rfl
theorem T124_0_6_694 (xs : Nat → Int32) (L d : Nat) (I : Nat → Nat → Int32) (J : Nat → Nat → Int64) (X : XH) (a1 : Int32) (a2 : Int32) (a3 : Int32) : zseg (zE xs L (d + 5) 124) (zC 124) 694 (zB124_0.drop 6) [(0, .ref 0), (1, .int a1), (2, .int a2), (3, .int a3)] [] (zmk I J X) = zcw (zE xs L (d + 5) 124) (zev xs L (d + 5) 111 [.ref 0, .int a2, .int (6 : Int32)] (zmk I J X)) (fun h => zseg (zE xs L (d + 5) 124) (zC 124) 690 (zB124_0.drop 10) [(0, .ref 0), (1, .int a1), (2, .int a2), (3, .int a3)] [] h) := by
  rfl
theorem T124_0_10_690 (xs : Nat → Int32) (L d : Nat) (I : Nat → Nat → Int32) (J : Nat → Nat → Int64) (X : XH) (a1 : Int32) (a2 : Int32) (a3 : Int32) : zseg (zE xs L (d + 5) 124) (zC 124) 690 (zB124_0.drop 10) [(0, .ref 0), (1, .int a1), (2, .int a2), (3, .int a3)] [] (zmk I J X) = zcw (zE xs L (d + 5) 124) (zev xs L (d + 5) 125 [.ref 0, .int a3] (zmk I J X)) (fun h => zseg (zE xs L (d + 5) 124) (zC 124) 687 (zB124_0.drop 13) [(0, .ref 0), (1, .int a1), (2, .int a2), (3, .int a3)] [] h) := by
  rfl
theorem T124_0_13_687 (xs : Nat → Int32) (L d : Nat) (I : Nat → Nat → Int32) (J : Nat → Nat → Int64) (X : XH) (a1 : Int32) (a2 : Int32) (a3 : Int32) : zseg (zE xs L (d + 5) 124) (zC 124) 687 (zB124_0.drop 13) [(0, .ref 0), (1, .int a1), (2, .int a2), (3, .int a3)] [] (zmk I J X) = zcw (zE xs L (d + 5) 124) (zev xs L (d + 5) 70 [.ref 26, .int a3] (zmk I J X)) (fun h => zseg (zE xs L (d + 5) 124) (zC 124) 683 (zB124_0.drop 17) [(0, .ref 0), (1, .int a1), (2, .int a2), (3, .int a3)] [] h) := by
  rfl
theorem T124_0_17_683 (xs : Nat → Int32) (L d : Nat) (I : Nat → Nat → Int32) (J : Nat → Nat → Int64) (X : XH) (a1 : Int32) (a2 : Int32) (a3 : Int32) : zseg (zE xs L (d + 5) 124) (zC 124) 683 (zB124_0.drop 17) [(0, .ref 0), (1, .int a1), (2, .int a2), (3, .int a3)] [] (zmk I J X) = zcw (zE xs L (d + 5) 124) (zev xs L (d + 5) 82 [.ref 49, .int a1, .int a3] (zmk I J X)) (fun h => zseg (zE xs L (d + 5) 124) (zC 124) 678 (zB124_0.drop 22) [(0, .ref 0), (1, .int a1), (2, .int a2), (3, .int a3)] [] h) := by
  rfl
theorem T124_0_22_678 (xs : Nat → Int32) (L d : Nat) (I : Nat → Nat → Int32) (J : Nat → Nat → Int64) (X : XH) (a1 : Int32) (a2 : Int32) (a3 : Int32) : zseg (zE xs L (d + 5) 124) (zC 124) 678 (zB124_0.drop 22) [(0, .ref 0), (1, .int a1), (2, .int a2), (3, .int a3)] [] (zmk I J X) = some (.inl (2, [(0, .ref 0), (1, .int a1), (2, .int a2), (3, .int a3), (4, .int (0 : Int32)), (5, .int (0 : Int32))], zmk I J X)) := by
  rfl
theorem S124_2 (xs : Nat → Int32) (L d : Nat) (I : Nat → Nat → Int32) (J : Nat → Nat → Int64) (X : XH) (a1 : Int32) (a2 : Int32) (a3 : Int32) (a4 : Int32) (a5 : Int32) : zseg (zE xs L (d + 5) 124) (zC 124) 700 (zC 124 2) [(0, .ref 0), (1, .int a1), (2, .int a2), (3, .int a3), (4, .int a4), (5, .int a5)] [] (zmk I J X) = if decide ((7200 : Int32) ≤ a5) = true then
  if decide (¬ a2 = (1 : Int32)) = true then
    some (.inr (.inr (some (.int a4)), zmk I J X))
    else some (.inr (.inr (some (.int (I 49 18))), zmk I J X))
  else zci (zE xs L (d + 5) 124) (zev xs L (d + 5) 83 [.ref 49] (zmk I J X)) (fun r h => zseg (zE xs L (d + 5) 124) (zC 124) 694 (zB124_2.drop 6) [(0, .ref 0), (1, .int a1), (2, .int a2), (3, .int a3), (4, .int a4), (5, .int a5)] [.int r] h) := by
  refine zite_congr ?_ ?_
  · refine zite_congr ?_ ?_
    · rfl
    · rfl
  · rfl
theorem T124_2_6_694 (xs : Nat → Int32) (L d : Nat) (I : Nat → Nat → Int32) (J : Nat → Nat → Int64) (X : XH) (a1 : Int32) (a2 : Int32) (a3 : Int32) (a4 : Int32) (a5 : Int32) (b0 : Int32) : zseg (zE xs L (d + 5) 124) (zC 124) 694 (zB124_2.drop 6) [(0, .ref 0), (1, .int a1), (2, .int a2), (3, .int a3), (4, .int a4), (5, .int a5)] [.int b0] (zmk I J X) = if decide (b0 = 0) = true then
  if decide (¬ a2 = (1 : Int32)) = true then
    some (.inr (.inr (some (.int a4)), zmk I J X))
    else some (.inr (.inr (some (.int (I 49 18))), zmk I J X))
  else zci (zE xs L (d + 5) 124) (zev xs L (d + 5) 126 [.ref 0, .int a2] (zmk I J X)) (fun r h => zseg (zE xs L (d + 5) 124) (zC 124) 689 (zB124_2.drop 11) [(0, .ref 0), (1, .int a1), (2, .int a2), (3, .int a3), (4, .int a4), (5, .int a5)] [.int r, .int a4] h) := by
  refine zite_congr ?_ ?_
  · refine zite_congr ?_ ?_
    · rfl
    · rfl
  · rfl
theorem T124_2_11_689 (xs : Nat → Int32) (L d : Nat) (I : Nat → Nat → Int32) (J : Nat → Nat → Int64) (X : XH) (a1 : Int32) (a2 : Int32) (a3 : Int32) (a4 : Int32) (a5 : Int32) (b0 : Int32) (b1 : Int32) : zseg (zE xs L (d + 5) 124) (zC 124) 689 (zB124_2.drop 11) [(0, .ref 0), (1, .int a1), (2, .int a2), (3, .int a3), (4, .int a4), (5, .int a5)] [.int b1, .int b0] (zmk I J X) = some (.inl (2, [(0, .ref 0), (1, .int a1), (2, .int a2), (3, .int a3), (4, .int (b0 + b1)), (5, .int (a5 + (1 : Int32)))], zmk I J X)) := by
  rfl
/-! 125 TollTags.needKnown (I)V -/
theorem S125_0 (xs : Nat → Int32) (L d : Nat) (I : Nat → Nat → Int32) (J : Nat → Nat → Int64) (X : XH) (a1 : Int32) : zseg (zE xs L (d + 5) 125) (zC 125) 700 (zC 125 0) [(0, .ref 0), (1, .int a1)] [] (zmk I J X) = if decide (¬ (zbi (¬ a1 < (0 : Int32) ∧ ¬ I 0 11 < a1)) = 0) = true then
  some (.inr (.inr none, zmk I J X))
  else some (.inr (.inl 1, zexc (zmk I J X))) := by
  refine zite_congr ?_ ?_
  · rfl
  · rfl
/-! 126 TollTags.partOfTrack (I)I -/
theorem S126_0 (xs : Nat → Int32) (L d : Nat) (I : Nat → Nat → Int32) (J : Nat → Nat → Int64) (X : XH) (a1 : Int32) : zseg (zE xs L (d + 5) 126) (zC 126) 700 (zC 126 0) [(0, .ref 0), (1, .int a1)] [] (zmk I J X) = if a1 = 0 then
  some (.inr (.inr (some (.int (1 : Int32))), zmk I J X))
  else if a1 = 1 then
  some (.inr (.inr (some (.int (0 : Int32))), zmk I J X))
  else if a1 = 2 then
  zci (zE xs L (d + 5) 126) (zev xs L (d + 5) 88 [.ref 49] (zmk I J X)) (fun r h => zseg (zE xs L (d + 5) 126) (zC 126) 695 (zB126_3.drop 3) [(0, .ref 0), (1, .int a1)] [.int r] h)
  else if a1 = 3 then
  some (.inr (.inr (some (.int (zat I 5 40 (I 49 13)))), zmk I J X))
  else if a1 = 4 then
  if decide ((I 49 17) = 0) = true then
    some (.inr (.inr (some (.int (0 : Int32))), zmk I J X))
    else some (.inr (.inr (some (.int (1 : Int32))), zmk I J X))
  else if a1 = 5 then
  if decide (¬ (I 49 15) = (-1 : Int32)) = true then
    some (.inr (.inr (some (.int (0 : Int32))), zmk I J X))
    else some (.inr (.inr (some (.int (1 : Int32))), zmk I J X))
  else some (.inr (.inr (some (.int (0 : Int32))), zmk I J X)) := by
  refine zite_congr ?_ ?_
  · rfl
  · refine zite_congr ?_ ?_
    · rfl
    · refine zite_congr ?_ ?_
      · rfl
      · refine zite_congr ?_ ?_
        · rfl
        · refine zite_congr ?_ ?_
          · refine zite_congr ?_ ?_
            · rfl
            · rfl
          · refine zite_congr ?_ ?_
            · refine zite_congr ?_ ?_
              · rfl
              · rfl
            · rfl
theorem T126_3_3_695 (xs : Nat → Int32) (L d : Nat) (I : Nat → Nat → Int32) (J : Nat → Nat → Int64) (X : XH) (a1 : Int32) (b0 : Int32) : zseg (zE xs L (d + 5) 126) (zC 126) 695 (zB126_3.drop 3) [(0, .ref 0), (1, .int a1)] [.int b0] (zmk I J X) = some (.inr (.inr (some (.int b0)), zmk I J X)) := by
  rfl
/-! 127 TollTags.passage (IIII)I -/
theorem S127_0 (xs : Nat → Int32) (L d : Nat) (I : Nat → Nat → Int32) (J : Nat → Nat → Int64) (X : XH) (a1 : Int32) (a2 : Int32) (a3 : Int32) (a4 : Int32) : zseg (zE xs L (d + 5) 127) (zC 127) 700 (zC 127 0) [(0, .ref 0), (1, .int a1), (2, .int a2), (3, .int a3), (4, .int a4)] [] (zmk I J X) = zcw (zE xs L (d + 5) 127) (zev xs L (d + 5) 111 [.ref 0, .int a1, .int (I 9 2)] (zmk I J X)) (fun h => zseg (zE xs L (d + 5) 127) (zC 127) 694 (zB127_0.drop 6) [(0, .ref 0), (1, .int a1), (2, .int a2), (3, .int a3), (4, .int a4)] [] h) := by
  rfl
theorem T127_0_6_694 (xs : Nat → Int32) (L d : Nat) (I : Nat → Nat → Int32) (J : Nat → Nat → Int64) (X : XH) (a1 : Int32) (a2 : Int32) (a3 : Int32) (a4 : Int32) : zseg (zE xs L (d + 5) 127) (zC 127) 694 (zB127_0.drop 6) [(0, .ref 0), (1, .int a1), (2, .int a2), (3, .int a3), (4, .int a4)] [] (zmk I J X) = zcw (zE xs L (d + 5) 127) (zev xs L (d + 5) 111 [.ref 0, .int a3, .int (7 : Int32)] (zmk I J X)) (fun h => zseg (zE xs L (d + 5) 127) (zC 127) 690 (zB127_0.drop 10) [(0, .ref 0), (1, .int a1), (2, .int a2), (3, .int a3), (4, .int a4)] [] h) := by
  rfl
theorem T127_0_10_690 (xs : Nat → Int32) (L d : Nat) (I : Nat → Nat → Int32) (J : Nat → Nat → Int64) (X : XH) (a1 : Int32) (a2 : Int32) (a3 : Int32) (a4 : Int32) : zseg (zE xs L (d + 5) 127) (zC 127) 690 (zB127_0.drop 10) [(0, .ref 0), (1, .int a1), (2, .int a2), (3, .int a3), (4, .int a4)] [] (zmk I J X) = zcw (zE xs L (d + 5) 127) (zev xs L (d + 5) 125 [.ref 0, .int a4] (zmk I J X)) (fun h => zseg (zE xs L (d + 5) 127) (zC 127) 687 (zB127_0.drop 13) [(0, .ref 0), (1, .int a1), (2, .int a2), (3, .int a3), (4, .int a4)] [] h) := by
  rfl
theorem T127_0_13_687 (xs : Nat → Int32) (L d : Nat) (I : Nat → Nat → Int32) (J : Nat → Nat → Int64) (X : XH) (a1 : Int32) (a2 : Int32) (a3 : Int32) (a4 : Int32) : zseg (zE xs L (d + 5) 127) (zC 127) 687 (zB127_0.drop 13) [(0, .ref 0), (1, .int a1), (2, .int a2), (3, .int a3), (4, .int a4)] [] (zmk I J X) = zcw (zE xs L (d + 5) 127) (zev xs L (d + 5) 111 [.ref 0, .int a2, .int (7200 : Int32)] (zmk I J X)) (fun h => zseg (zE xs L (d + 5) 127) (zC 127) 683 (zB127_0.drop 17) [(0, .ref 0), (1, .int a1), (2, .int a2), (3, .int a3), (4, .int a4)] [] h) := by
  rfl
theorem T127_0_17_683 (xs : Nat → Int32) (L d : Nat) (I : Nat → Nat → Int32) (J : Nat → Nat → Int64) (X : XH) (a1 : Int32) (a2 : Int32) (a3 : Int32) (a4 : Int32) : zseg (zE xs L (d + 5) 127) (zC 127) 683 (zB127_0.drop 17) [(0, .ref 0), (1, .int a1), (2, .int a2), (3, .int a3), (4, .int a4)] [] (zmk I J X) = zcw (zE xs L (d + 5) 127) (zev xs L (d + 5) 70 [.ref 26, .int a4] (zmk I J X)) (fun h => zseg (zE xs L (d + 5) 127) (zC 127) 679 (zB127_0.drop 21) [(0, .ref 0), (1, .int a1), (2, .int a2), (3, .int a3), (4, .int a4)] [] h) := by
  rfl
theorem T127_0_21_679 (xs : Nat → Int32) (L d : Nat) (I : Nat → Nat → Int32) (J : Nat → Nat → Int64) (X : XH) (a1 : Int32) (a2 : Int32) (a3 : Int32) (a4 : Int32) : zseg (zE xs L (d + 5) 127) (zC 127) 679 (zB127_0.drop 21) [(0, .ref 0), (1, .int a1), (2, .int a2), (3, .int a3), (4, .int a4)] [] (zmk I J X) = zcw (zE xs L (d + 5) 127) (zev xs L (d + 5) 82 [.ref 49, .int a1, .int a4] (zmk I J X)) (fun h => zseg (zE xs L (d + 5) 127) (zC 127) 674 (zB127_0.drop 26) [(0, .ref 0), (1, .int a1), (2, .int a2), (3, .int a3), (4, .int a4)] [] h) := by
  rfl
theorem T127_0_26_674 (xs : Nat → Int32) (L d : Nat) (I : Nat → Nat → Int32) (J : Nat → Nat → Int64) (X : XH) (a1 : Int32) (a2 : Int32) (a3 : Int32) (a4 : Int32) : zseg (zE xs L (d + 5) 127) (zC 127) 674 (zB127_0.drop 26) [(0, .ref 0), (1, .int a1), (2, .int a2), (3, .int a3), (4, .int a4)] [] (zmk I J X) = some (.inl (2, [(0, .ref 0), (1, .int a1), (2, .int a2), (3, .int a3), (4, .int a4), (5, .int (0 : Int32))], zmk I J X)) := by
  rfl
theorem S127_2 (xs : Nat → Int32) (L d : Nat) (I : Nat → Nat → Int32) (J : Nat → Nat → Int64) (X : XH) (a1 : Int32) (a2 : Int32) (a3 : Int32) (a4 : Int32) (a5 : Int32) : zseg (zE xs L (d + 5) 127) (zC 127) 700 (zC 127 2) [(0, .ref 0), (1, .int a1), (2, .int a2), (3, .int a3), (4, .int a4), (5, .int a5)] [] (zmk I J X) = if decide (a2 < a5) = true then
  zci (zE xs L (d + 5) 127) (zev xs L (d + 5) 128 [.ref 0, .int a3] (zmk I J X)) (fun r h => zseg (zE xs L (d + 5) 127) (zC 127) 694 (zB127_3.drop 3) [(0, .ref 0), (1, .int a1), (2, .int a2), (3, .int a3), (4, .int a4), (5, .int a5)] [.int r] h)
  else zci (zE xs L (d + 5) 127) (zev xs L (d + 5) 83 [.ref 49] (zmk I J X)) (fun r h => zseg (zE xs L (d + 5) 127) (zC 127) 694 (zB127_2.drop 6) [(0, .ref 0), (1, .int a1), (2, .int a2), (3, .int a3), (4, .int a4), (5, .int a5)] [.int r] h) := by
  refine zite_congr ?_ ?_
  · rfl
  · rfl
theorem T127_3_3_694 (xs : Nat → Int32) (L d : Nat) (I : Nat → Nat → Int32) (J : Nat → Nat → Int64) (X : XH) (a1 : Int32) (a2 : Int32) (a3 : Int32) (a4 : Int32) (a5 : Int32) (b0 : Int32) : zseg (zE xs L (d + 5) 127) (zC 127) 694 (zB127_3.drop 3) [(0, .ref 0), (1, .int a1), (2, .int a2), (3, .int a3), (4, .int a4), (5, .int a5)] [.int b0] (zmk I J X) = some (.inr (.inr (some (.int b0)), zmk I J X)) := by
  rfl
theorem T127_2_6_694 (xs : Nat → Int32) (L d : Nat) (I : Nat → Nat → Int32) (J : Nat → Nat → Int64) (X : XH) (a1 : Int32) (a2 : Int32) (a3 : Int32) (a4 : Int32) (a5 : Int32) (b0 : Int32) : zseg (zE xs L (d + 5) 127) (zC 127) 694 (zB127_2.drop 6) [(0, .ref 0), (1, .int a1), (2, .int a2), (3, .int a3), (4, .int a4), (5, .int a5)] [.int b0] (zmk I J X) = if decide (¬ b0 = 0) = true then
  some (.inl (2, [(0, .ref 0), (1, .int a1), (2, .int a2), (3, .int a3), (4, .int a4), (5, .int (a5 + (1 : Int32)))], zmk I J X))
  else some (.inr (.inl 0, zexc (zmk I J X))) := by
  refine zite_congr ?_ ?_
  · rfl
  · rfl
/-! 128 TollTags.partOfPassage (I)I -/
theorem S128_0 (xs : Nat → Int32) (L d : Nat) (I : Nat → Nat → Int32) (J : Nat → Nat → Int64) (X : XH) (a1 : Int32) : zseg (zE xs L (d + 5) 128) (zC 128) 700 (zC 128 0) [(0, .ref 0), (1, .int a1)] [] (zmk I J X) = if a1 = 0 then
  some (.inr (.inr (some (.int (I 49 13))), zmk I J X))
  else if a1 = 1 then
  some (.inr (.inr (some (.int (I 49 14))), zmk I J X))
  else if a1 = 2 then
  zci (zE xs L (d + 5) 128) (zev xs L (d + 5) 88 [.ref 49] (zmk I J X)) (fun r h => zseg (zE xs L (d + 5) 128) (zC 128) 695 (zB128_3.drop 3) [(0, .ref 0), (1, .int a1)] [.int r] h)
  else if a1 = 3 then
  some (.inr (.inr (some (.int (I 49 15))), zmk I J X))
  else if a1 = 4 then
  if decide ((I 49 17) = 0) = true then
    some (.inr (.inr (some (.int (0 : Int32))), zmk I J X))
    else some (.inr (.inr (some (.int (1 : Int32))), zmk I J X))
  else if a1 = 5 then
  some (.inr (.inr (some (.int (I 49 16))), zmk I J X))
  else zci (zE xs L (d + 5) 128) (zev xs L (d + 5) 89 [.ref 49] (zmk I J X)) (fun r h => zseg (zE xs L (d + 5) 128) (zC 128) 695 (zB128_7.drop 3) [(0, .ref 0), (1, .int a1)] [.int r] h) := by
  refine zite_congr ?_ ?_
  · rfl
  · refine zite_congr ?_ ?_
    · rfl
    · refine zite_congr ?_ ?_
      · rfl
      · refine zite_congr ?_ ?_
        · rfl
        · refine zite_congr ?_ ?_
          · refine zite_congr ?_ ?_
            · rfl
            · rfl
          · refine zite_congr ?_ ?_
            · rfl
            · rfl
theorem T128_7_3_695 (xs : Nat → Int32) (L d : Nat) (I : Nat → Nat → Int32) (J : Nat → Nat → Int64) (X : XH) (a1 : Int32) (b0 : Int32) : zseg (zE xs L (d + 5) 128) (zC 128) 695 (zB128_7.drop 3) [(0, .ref 0), (1, .int a1)] [.int b0] (zmk I J X) = if decide (b0 = 0) = true then
  some (.inr (.inr (some (.int (0 : Int32))), zmk I J X))
  else some (.inr (.inr (some (.int (1 : Int32))), zmk I J X)) := by
  refine zite_congr ?_ ?_
  · rfl
  · rfl
theorem T128_3_3_695 (xs : Nat → Int32) (L d : Nat) (I : Nat → Nat → Int32) (J : Nat → Nat → Int64) (X : XH) (a1 : Int32) (b0 : Int32) : zseg (zE xs L (d + 5) 128) (zC 128) 695 (zB128_3.drop 3) [(0, .ref 0), (1, .int a1)] [.int b0] (zmk I J X) = some (.inr (.inr (some (.int b0)), zmk I J X)) := by
  rfl
/-! 129 TollTags.due (IIII)J -/
theorem S129_0 (xs : Nat → Int32) (L d : Nat) (I : Nat → Nat → Int32) (J : Nat → Nat → Int64) (X : XH) (a1 : Int32) (a2 : Int32) (a3 : Int32) (a4 : Int32) : zseg (zE xs L (d + 5) 129) (zC 129) 700 (zC 129 0) [(0, .ref 0), (1, .int a1), (2, .int a2), (3, .int a3), (4, .int a4)] [] (zmk I J X) = zcw (zE xs L (d + 5) 129) (zev xs L (d + 5) 111 [.ref 0, .int a1, .int (I 9 0)] (zmk I J X)) (fun h => zseg (zE xs L (d + 5) 129) (zC 129) 694 (zB129_0.drop 6) [(0, .ref 0), (1, .int a1), (2, .int a2), (3, .int a3), (4, .int a4)] [] h) := by
  rfl
theorem T129_0_6_694 (xs : Nat → Int32) (L d : Nat) (I : Nat → Nat → Int32) (J : Nat → Nat → Int64) (X : XH) (a1 : Int32) (a2 : Int32) (a3 : Int32) (a4 : Int32) : zseg (zE xs L (d + 5) 129) (zC 129) 694 (zB129_0.drop 6) [(0, .ref 0), (1, .int a1), (2, .int a2), (3, .int a3), (4, .int a4)] [] (zmk I J X) = zcw (zE xs L (d + 5) 129) (zev xs L (d + 5) 110 [.ref 0, .int a2] (zmk I J X)) (fun h => zseg (zE xs L (d + 5) 129) (zC 129) 691 (zB129_0.drop 9) [(0, .ref 0), (1, .int a1), (2, .int a2), (3, .int a3), (4, .int a4)] [] h) := by
  rfl
theorem T129_0_9_691 (xs : Nat → Int32) (L d : Nat) (I : Nat → Nat → Int32) (J : Nat → Nat → Int64) (X : XH) (a1 : Int32) (a2 : Int32) (a3 : Int32) (a4 : Int32) : zseg (zE xs L (d + 5) 129) (zC 129) 691 (zB129_0.drop 9) [(0, .ref 0), (1, .int a1), (2, .int a2), (3, .int a3), (4, .int a4)] [] (zmk I J X) = zcw (zE xs L (d + 5) 129) (zev xs L (d + 5) 111 [.ref 0, .int a3, .int (3 : Int32)] (zmk I J X)) (fun h => zseg (zE xs L (d + 5) 129) (zC 129) 687 (zB129_0.drop 13) [(0, .ref 0), (1, .int a1), (2, .int a2), (3, .int a3), (4, .int a4)] [] h) := by
  rfl
theorem T129_0_13_687 (xs : Nat → Int32) (L d : Nat) (I : Nat → Nat → Int32) (J : Nat → Nat → Int64) (X : XH) (a1 : Int32) (a2 : Int32) (a3 : Int32) (a4 : Int32) : zseg (zE xs L (d + 5) 129) (zC 129) 687 (zB129_0.drop 13) [(0, .ref 0), (1, .int a1), (2, .int a2), (3, .int a3), (4, .int a4)] [] (zmk I J X) = zcw (zE xs L (d + 5) 129) (zev xs L (d + 5) 125 [.ref 0, .int a4] (zmk I J X)) (fun h => zseg (zE xs L (d + 5) 129) (zC 129) 684 (zB129_0.drop 16) [(0, .ref 0), (1, .int a1), (2, .int a2), (3, .int a3), (4, .int a4)] [] h) := by
  rfl
theorem T129_0_16_684 (xs : Nat → Int32) (L d : Nat) (I : Nat → Nat → Int32) (J : Nat → Nat → Int64) (X : XH) (a1 : Int32) (a2 : Int32) (a3 : Int32) (a4 : Int32) : zseg (zE xs L (d + 5) 129) (zC 129) 684 (zB129_0.drop 16) [(0, .ref 0), (1, .int a1), (2, .int a2), (3, .int a3), (4, .int a4)] [] (zmk I J X) = zcw (zE xs L (d + 5) 129) (zev xs L (d + 5) 130 [.ref 0, .int a1, .int a4] (zmk I J X)) (fun h => zseg (zE xs L (d + 5) 129) (zC 129) 680 (zB129_0.drop 20) [(0, .ref 0), (1, .int a1), (2, .int a2), (3, .int a3), (4, .int a4)] [] h) := by
  rfl
theorem T129_0_20_680 (xs : Nat → Int32) (L d : Nat) (I : Nat → Nat → Int32) (J : Nat → Nat → Int64) (X : XH) (a1 : Int32) (a2 : Int32) (a3 : Int32) (a4 : Int32) : zseg (zE xs L (d + 5) 129) (zC 129) 680 (zB129_0.drop 20) [(0, .ref 0), (1, .int a1), (2, .int a2), (3, .int a3), (4, .int a4)] [] (zmk I J X) = zcl (zE xs L (d + 5) 129) (zev xs L (d + 5) 23 [.ref 53, .int a2, .int a3, .int a4] (zmk I J X)) (fun r h => zseg (zE xs L (d + 5) 129) (zC 129) 674 (zB129_0.drop 26) [(0, .ref 0), (1, .int a1), (2, .int a2), (3, .int a3), (4, .int a4)] [.long r] h) := by
  rfl
theorem T129_0_26_674 (xs : Nat → Int32) (L d : Nat) (I : Nat → Nat → Int32) (J : Nat → Nat → Int64) (X : XH) (a1 : Int32) (a2 : Int32) (a3 : Int32) (a4 : Int32) (b0 : Int64) : zseg (zE xs L (d + 5) 129) (zC 129) 674 (zB129_0.drop 26) [(0, .ref 0), (1, .int a1), (2, .int a2), (3, .int a3), (4, .int a4)] [.long b0] (zmk I J X) = some (.inr (.inr (some (.long b0)), zmk I J X)) := by
  rfl
/-! 130 TollTags.addUp (II)V -/
theorem S130_0 (xs : Nat → Int32) (L d : Nat) (I : Nat → Nat → Int32) (J : Nat → Nat → Int64) (X : XH) (a1 : Int32) (a2 : Int32) : zseg (zE xs L (d + 5) 130) (zC 130) 700 (zC 130 0) [(0, .ref 0), (1, .int a1), (2, .int a2)] [] (zmk I J X) = zcw (zE xs L (d + 5) 130) (zev xs L (d + 5) 70 [.ref 26, .int a2] (zmk I J X)) (fun h => zseg (zE xs L (d + 5) 130) (zC 130) 696 (zB130_0.drop 4) [(0, .ref 0), (1, .int a1), (2, .int a2)] [] h) := by
  rfl
theorem T130_0_4_696 (xs : Nat → Int32) (L d : Nat) (I : Nat → Nat → Int32) (J : Nat → Nat → Int64) (X : XH) (a1 : Int32) (a2 : Int32) : zseg (zE xs L (d + 5) 130) (zC 130) 696 (zB130_0.drop 4) [(0, .ref 0), (1, .int a1), (2, .int a2)] [] (zmk I J X) = zcw (zE xs L (d + 5) 130) (zev xs L (d + 5) 21 [.ref 53, .int a1, .int a2] (zmk I J X)) (fun h => zseg (zE xs L (d + 5) 130) (zC 130) 691 (zB130_0.drop 9) [(0, .ref 0), (1, .int a1), (2, .int a2)] [] h) := by
  rfl
theorem T130_0_9_691 (xs : Nat → Int32) (L d : Nat) (I : Nat → Nat → Int32) (J : Nat → Nat → Int64) (X : XH) (a1 : Int32) (a2 : Int32) : zseg (zE xs L (d + 5) 130) (zC 130) 691 (zB130_0.drop 9) [(0, .ref 0), (1, .int a1), (2, .int a2)] [] (zmk I J X) = some (.inr (.inr none, zmk I J X)) := by
  rfl
/-! 133 TollTags.unpaid (III)I -/
theorem S133_0 (xs : Nat → Int32) (L d : Nat) (I : Nat → Nat → Int32) (J : Nat → Nat → Int64) (X : XH) (a1 : Int32) (a2 : Int32) (a3 : Int32) : zseg (zE xs L (d + 5) 133) (zC 133) 700 (zC 133 0) [(0, .ref 0), (1, .int a1), (2, .int a2), (3, .int a3)] [] (zmk I J X) = zcw (zE xs L (d + 5) 133) (zev xs L (d + 5) 110 [.ref 0, .int a1] (zmk I J X)) (fun h => zseg (zE xs L (d + 5) 133) (zC 133) 697 (zB133_0.drop 3) [(0, .ref 0), (1, .int a1), (2, .int a2), (3, .int a3)] [] h) := by
  rfl
theorem T133_0_3_697 (xs : Nat → Int32) (L d : Nat) (I : Nat → Nat → Int32) (J : Nat → Nat → Int64) (X : XH) (a1 : Int32) (a2 : Int32) (a3 : Int32) : zseg (zE xs L (d + 5) 133) (zC 133) 697 (zB133_0.drop 3) [(0, .ref 0), (1, .int a1), (2, .int a2), (3, .int a3)] [] (zmk I J X) = zcw (zE xs L (d + 5) 133) (zev xs L (d + 5) 111 [.ref 0, .int a2, .int (3 : Int32)] (zmk I J X)) (fun h => zseg (zE xs L (d + 5) 133) (zC 133) 693 (zB133_0.drop 7) [(0, .ref 0), (1, .int a1), (2, .int a2), (3, .int a3)] [] h) := by
  rfl
theorem T133_0_7_693 (xs : Nat → Int32) (L d : Nat) (I : Nat → Nat → Int32) (J : Nat → Nat → Int64) (X : XH) (a1 : Int32) (a2 : Int32) (a3 : Int32) : zseg (zE xs L (d + 5) 133) (zC 133) 693 (zB133_0.drop 7) [(0, .ref 0), (1, .int a1), (2, .int a2), (3, .int a3)] [] (zmk I J X) = zcw (zE xs L (d + 5) 133) (zev xs L (d + 5) 125 [.ref 0, .int a3] (zmk I J X)) (fun h => zseg (zE xs L (d + 5) 133) (zC 133) 690 (zB133_0.drop 10) [(0, .ref 0), (1, .int a1), (2, .int a2), (3, .int a3)] [] h) := by
  rfl
theorem T133_0_10_690 (xs : Nat → Int32) (L d : Nat) (I : Nat → Nat → Int32) (J : Nat → Nat → Int64) (X : XH) (a1 : Int32) (a2 : Int32) (a3 : Int32) : zseg (zE xs L (d + 5) 133) (zC 133) 690 (zB133_0.drop 10) [(0, .ref 0), (1, .int a1), (2, .int a2), (3, .int a3)] [] (zmk I J X) = zcw (zE xs L (d + 5) 133) (zev xs L (d + 5) 130 [.ref 0, .int (-1 : Int32), .int a3] (zmk I J X)) (fun h => zseg (zE xs L (d + 5) 133) (zC 133) 686 (zB133_0.drop 14) [(0, .ref 0), (1, .int a1), (2, .int a2), (3, .int a3)] [] h) := by
  rfl
theorem T133_0_14_686 (xs : Nat → Int32) (L d : Nat) (I : Nat → Nat → Int32) (J : Nat → Nat → Int64) (X : XH) (a1 : Int32) (a2 : Int32) (a3 : Int32) : zseg (zE xs L (d + 5) 133) (zC 133) 686 (zB133_0.drop 14) [(0, .ref 0), (1, .int a1), (2, .int a2), (3, .int a3)] [] (zmk I J X) = zci (zE xs L (d + 5) 133) (zev xs L (d + 5) 24 [.ref 53, .int a1, .int a2] (zmk I J X)) (fun r h => zseg (zE xs L (d + 5) 133) (zC 133) 681 (zB133_0.drop 19) [(0, .ref 0), (1, .int a1), (2, .int a2), (3, .int a3)] [.int r] h) := by
  rfl
theorem T133_0_19_681 (xs : Nat → Int32) (L d : Nat) (I : Nat → Nat → Int32) (J : Nat → Nat → Int64) (X : XH) (a1 : Int32) (a2 : Int32) (a3 : Int32) (b0 : Int32) : zseg (zE xs L (d + 5) 133) (zC 133) 681 (zB133_0.drop 19) [(0, .ref 0), (1, .int a1), (2, .int a2), (3, .int a3)] [.int b0] (zmk I J X) = some (.inr (.inr (some (.int b0)), zmk I J X)) := by
  rfl
/-! 134 TollTags.falls (III)J -/
theorem S134_0 (xs : Nat → Int32) (L d : Nat) (I : Nat → Nat → Int32) (J : Nat → Nat → Int64) (X : XH) (a1 : Int32) (a2 : Int32) (a3 : Int32) : zseg (zE xs L (d + 5) 134) (zC 134) 700 (zC 134 0) [(0, .ref 0), (1, .int a1), (2, .int a2), (3, .int a3)] [] (zmk I J X) = zcw (zE xs L (d + 5) 134) (zev xs L (d + 5) 111 [.ref 0, .int a1, .int (I 9 0)] (zmk I J X)) (fun h => zseg (zE xs L (d + 5) 134) (zC 134) 694 (zB134_0.drop 6) [(0, .ref 0), (1, .int a1), (2, .int a2), (3, .int a3)] [] h) := by
  rfl
theorem T134_0_6_694 (xs : Nat → Int32) (L d : Nat) (I : Nat → Nat → Int32) (J : Nat → Nat → Int64) (X : XH) (a1 : Int32) (a2 : Int32) (a3 : Int32) : zseg (zE xs L (d + 5) 134) (zC 134) 694 (zB134_0.drop 6) [(0, .ref 0), (1, .int a1), (2, .int a2), (3, .int a3)] [] (zmk I J X) = zcw (zE xs L (d + 5) 134) (zev xs L (d + 5) 110 [.ref 0, .int a2] (zmk I J X)) (fun h => zseg (zE xs L (d + 5) 134) (zC 134) 691 (zB134_0.drop 9) [(0, .ref 0), (1, .int a1), (2, .int a2), (3, .int a3)] [] h) := by
  rfl
theorem T134_0_9_691 (xs : Nat → Int32) (L d : Nat) (I : Nat → Nat → Int32) (J : Nat → Nat → Int64) (X : XH) (a1 : Int32) (a2 : Int32) (a3 : Int32) : zseg (zE xs L (d + 5) 134) (zC 134) 691 (zB134_0.drop 9) [(0, .ref 0), (1, .int a1), (2, .int a2), (3, .int a3)] [] (zmk I J X) = zcw (zE xs L (d + 5) 134) (zev xs L (d + 5) 125 [.ref 0, .int a3] (zmk I J X)) (fun h => zseg (zE xs L (d + 5) 134) (zC 134) 688 (zB134_0.drop 12) [(0, .ref 0), (1, .int a1), (2, .int a2), (3, .int a3)] [] h) := by
  rfl
theorem T134_0_12_688 (xs : Nat → Int32) (L d : Nat) (I : Nat → Nat → Int32) (J : Nat → Nat → Int64) (X : XH) (a1 : Int32) (a2 : Int32) (a3 : Int32) : zseg (zE xs L (d + 5) 134) (zC 134) 688 (zB134_0.drop 12) [(0, .ref 0), (1, .int a1), (2, .int a2), (3, .int a3)] [] (zmk I J X) = zcw (zE xs L (d + 5) 134) (zev xs L (d + 5) 130 [.ref 0, .int a1, .int a3] (zmk I J X)) (fun h => zseg (zE xs L (d + 5) 134) (zC 134) 684 (zB134_0.drop 16) [(0, .ref 0), (1, .int a1), (2, .int a2), (3, .int a3)] [] h) := by
  rfl
theorem T134_0_16_684 (xs : Nat → Int32) (L d : Nat) (I : Nat → Nat → Int32) (J : Nat → Nat → Int64) (X : XH) (a1 : Int32) (a2 : Int32) (a3 : Int32) : zseg (zE xs L (d + 5) 134) (zC 134) 684 (zB134_0.drop 16) [(0, .ref 0), (1, .int a1), (2, .int a2), (3, .int a3)] [] (zmk I J X) = zcl (zE xs L (d + 5) 134) (zev xs L (d + 5) 25 [.ref 53, .int a2, .long ((zat I 10 6 a1).toInt64), .int a3] (zmk I J X)) (fun r h => zseg (zE xs L (d + 5) 134) (zC 134) 674 (zB134_0.drop 26) [(0, .ref 0), (1, .int a1), (2, .int a2), (3, .int a3)] [.long r] h) := by
  rfl
theorem T134_0_26_674 (xs : Nat → Int32) (L d : Nat) (I : Nat → Nat → Int32) (J : Nat → Nat → Int64) (X : XH) (a1 : Int32) (a2 : Int32) (a3 : Int32) (b0 : Int64) : zseg (zE xs L (d + 5) 134) (zC 134) 674 (zB134_0.drop 26) [(0, .ref 0), (1, .int a1), (2, .int a2), (3, .int a3)] [.long b0] (zmk I J X) = some (.inr (.inr (some (.long b0)), zmk I J X)) := by
  rfl
/-! 135 TollTags.way (IJI)I -/
theorem S135_0 (xs : Nat → Int32) (L d : Nat) (I : Nat → Nat → Int32) (J : Nat → Nat → Int64) (X : XH) (a1 : Int32) (a2 : Int64) (a4 : Int32) : zseg (zE xs L (d + 5) 135) (zC 135) 700 (zC 135 0) [(0, .ref 0), (1, .int a1), (2, .long a2), (4, .int a4)] [] (zmk I J X) = zci (zE xs L (d + 5) 135) (zev xs L (d + 5) 92 [.ref 57, .int a1, .int a4] (zmk I J X)) (fun r h => zseg (zE xs L (d + 5) 135) (zC 135) 695 (zB135_0.drop 5) [(0, .ref 0), (1, .int a1), (2, .long a2), (4, .int a4)] [.int r] h) := by
  rfl
theorem T135_0_5_695 (xs : Nat → Int32) (L d : Nat) (I : Nat → Nat → Int32) (J : Nat → Nat → Int64) (X : XH) (a1 : Int32) (a2 : Int64) (a4 : Int32) (b0 : Int32) : zseg (zE xs L (d + 5) 135) (zC 135) 695 (zB135_0.drop 5) [(0, .ref 0), (1, .int a1), (2, .long a2), (4, .int a4)] [.int b0] (zmk I J X) = if decide (¬ b0 = 0) = true then
  some (.inl (3, [(0, .ref 0), (1, .int a1), (2, .long a2), (4, .int a4), (5, .int (0 : Int32))], zmk I J X))
  else some (.inr (.inr (some (.int (-1 : Int32))), zmk I J X)) := by
  refine zite_congr ?_ ?_
  · rfl
  · rfl
theorem S135_3 (xs : Nat → Int32) (L d : Nat) (I : Nat → Nat → Int32) (J : Nat → Nat → Int64) (X : XH) (a1 : Int32) (a2 : Int64) (a4 : Int32) (a5 : Int32) : zseg (zE xs L (d + 5) 135) (zC 135) 700 (zC 135 3) [(0, .ref 0), (1, .int a1), (2, .long a2), (4, .int a4), (5, .int a5)] [] (zmk I J X) = if decide (a1 ≤ a5) = true then
  zci (zE xs L (d + 5) 135) (zev xs L (d + 5) 94 [.ref 57, .int a1, .long a2, .int a4] (zmk I J X)) (fun r h => zseg (zE xs L (d + 5) 135) (zC 135) 691 (zB135_4.drop 6) [(0, .ref 0), (1, .int a1), (2, .long a2), (4, .int a4), (5, .int a5)] [.int r] h)
  else zcw (zE xs L (d + 5) 135) (zev xs L (d + 5) 111 [.ref 0, .int ((((a2.toUInt64 >>> (((6 : Int32) * a5).toInt64.toUInt64 &&& Int64.toUInt64 63)).toInt64) &&& (Int64.ofNat 63)).toInt32), .int (I 1 1)] (zmk I J X)) (fun h => zseg (zE xs L (d + 5) 135) (zC 135) 689 (zB135_3.drop 11) [(0, .ref 0), (1, .int a1), (2, .long a2), (4, .int a4), (5, .int a5)] [] h) := by
  refine zite_congr ?_ ?_
  · rfl
  · rfl
theorem T135_4_6_691 (xs : Nat → Int32) (L d : Nat) (I : Nat → Nat → Int32) (J : Nat → Nat → Int64) (X : XH) (a1 : Int32) (a2 : Int64) (a4 : Int32) (a5 : Int32) (b0 : Int32) : zseg (zE xs L (d + 5) 135) (zC 135) 691 (zB135_4.drop 6) [(0, .ref 0), (1, .int a1), (2, .long a2), (4, .int a4), (5, .int a5)] [.int b0] (zmk I J X) = some (.inr (.inr (some (.int b0)), zmk I J X)) := by
  rfl
theorem T135_3_11_689 (xs : Nat → Int32) (L d : Nat) (I : Nat → Nat → Int32) (J : Nat → Nat → Int64) (X : XH) (a1 : Int32) (a2 : Int64) (a4 : Int32) (a5 : Int32) : zseg (zE xs L (d + 5) 135) (zC 135) 689 (zB135_3.drop 11) [(0, .ref 0), (1, .int a1), (2, .long a2), (4, .int a4), (5, .int a5)] [] (zmk I J X) = some (.inl (3, [(0, .ref 0), (1, .int a1), (2, .long a2), (4, .int a4), (5, .int (a5 + (1 : Int32)))], zmk I J X)) := by
  rfl
/-! 136 TollTags.cameras (I)I -/
theorem S136_0 (xs : Nat → Int32) (L d : Nat) (I : Nat → Nat → Int32) (J : Nat → Nat → Int64) (X : XH) (a1 : Int32) : zseg (zE xs L (d + 5) 136) (zC 136) 700 (zC 136 0) [(0, .ref 0), (1, .int a1)] [] (zmk I J X) = if decide (¬ (zbi (¬ a1 < (0 : Int32) ∧ ¬ (12 : Int32) < a1)) = 0) = true then
  zci (zE xs L (d + 5) 136) (zev xs L (d + 5) 95 [.ref 57, .int a1] (zmk I J X)) (fun r h => zseg (zE xs L (d + 5) 136) (zC 136) 691 (zB136_1.drop 4) [(0, .ref 0), (1, .int a1)] [.int r] h)
  else some (.inr (.inl 1, zexc (zmk I J X))) := by
  refine zite_congr ?_ ?_
  · rfl
  · rfl
theorem T136_1_4_691 (xs : Nat → Int32) (L d : Nat) (I : Nat → Nat → Int32) (J : Nat → Nat → Int64) (X : XH) (a1 : Int32) (b0 : Int32) : zseg (zE xs L (d + 5) 136) (zC 136) 691 (zB136_1.drop 4) [(0, .ref 0), (1, .int a1)] [.int b0] (zmk I J X) = some (.inr (.inr (some (.int b0)), zmk I J X)) := by
  rfl
/-! 137 TollTags.attempt (III)I -/
theorem S137_0 (xs : Nat → Int32) (L d : Nat) (I : Nat → Nat → Int32) (J : Nat → Nat → Int64) (X : XH) (a1 : Int32) (a2 : Int32) (a3 : Int32) : zseg (zE xs L (d + 5) 137) (zC 137) 700 (zC 137 0) [(0, .ref 0), (1, .int a1), (2, .int a2), (3, .int a3)] [] (zmk I J X) = zcw (zE xs L (d + 5) 137) (zev xs L (d + 5) 110 [.ref 0, .int a1] (zmk I J X)) (fun h => zseg (zE xs L (d + 5) 137) (zC 137) 697 (zB137_0.drop 3) [(0, .ref 0), (1, .int a1), (2, .int a2), (3, .int a3)] [] h) := by
  rfl
theorem T137_0_3_697 (xs : Nat → Int32) (L d : Nat) (I : Nat → Nat → Int32) (J : Nat → Nat → Int64) (X : XH) (a1 : Int32) (a2 : Int32) (a3 : Int32) : zseg (zE xs L (d + 5) 137) (zC 137) 697 (zB137_0.drop 3) [(0, .ref 0), (1, .int a1), (2, .int a2), (3, .int a3)] [] (zmk I J X) = zcw (zE xs L (d + 5) 137) (zev xs L (d + 5) 119 [.ref 0, .int a2] (zmk I J X)) (fun h => zseg (zE xs L (d + 5) 137) (zC 137) 694 (zB137_0.drop 6) [(0, .ref 0), (1, .int a1), (2, .int a2), (3, .int a3)] [] h) := by
  rfl
theorem T137_0_6_694 (xs : Nat → Int32) (L d : Nat) (I : Nat → Nat → Int32) (J : Nat → Nat → Int64) (X : XH) (a1 : Int32) (a2 : Int32) (a3 : Int32) : zseg (zE xs L (d + 5) 137) (zC 137) 694 (zB137_0.drop 6) [(0, .ref 0), (1, .int a1), (2, .int a2), (3, .int a3)] [] (zmk I J X) = zci (zE xs L (d + 5) 137) (zev xs L (d + 5) 121 [.ref 0, .int a2, .int (zbi (¬ a3 < 0 ∧ ¬ 129599 < a3))] (zmk I J X)) (fun r h => zseg (zE xs L (d + 5) 137) (zC 137) 689 (zB137_0.drop 11) [(0, .ref 0), (1, .int a1), (2, .int a2), (3, .int a3)] [.int r] h) := by
  rfl
theorem T137_0_11_689 (xs : Nat → Int32) (L d : Nat) (I : Nat → Nat → Int32) (J : Nat → Nat → Int64) (X : XH) (a1 : Int32) (a2 : Int32) (a3 : Int32) (b0 : Int32) : zseg (zE xs L (d + 5) 137) (zC 137) 689 (zB137_0.drop 11) [(0, .ref 0), (1, .int a1), (2, .int a2), (3, .int a3)] [.int b0] (zmk I J X) = if decide (¬ b0 = 0) = true then
  some (.inr (.inr (some (.int b0)), zmk I J X))
  else zci (zE xs L (d + 5) 137) (zev xs L (d + 5) 138 [.ref 0, .int a1] (zmk I J X)) (fun r h => zseg (zE xs L (d + 5) 137) (zC 137) 683 (zB137_0.drop 17) [(4, .int b0), (0, .ref 0), (1, .int a1), (2, .int a2), (3, .int a3)] [.int r] h) := by
  refine zite_congr ?_ ?_
  · rfl
  · rfl
theorem T137_0_17_683 (xs : Nat → Int32) (L d : Nat) (I : Nat → Nat → Int32) (J : Nat → Nat → Int64) (X : XH) (a4 : Int32) (a1 : Int32) (a2 : Int32) (a3 : Int32) (b0 : Int32) : zseg (zE xs L (d + 5) 137) (zC 137) 683 (zB137_0.drop 17) [(4, .int a4), (0, .ref 0), (1, .int a1), (2, .int a2), (3, .int a3)] [.int b0] (zmk I J X) = zcr (zE xs L (d + 5) 137) (zev xs L (d + 5) 64 [.ref 35, .int a3, .int (I 0 11)] (zmk I J X)) (fun r h => zseg (zE xs L (d + 5) 137) (zC 137) 673 (zB137_0.drop 27) [(5, .int b0), (4, .int a4), (0, .ref 0), (1, .int a1), (2, .int a2), (3, .int a3)] [.ref r, .int a1, .ref 15] h) (fun h => zseg (zE xs L (d + 5) 137) (zC 137) 673 (zB137_0.drop 27) [(5, .int b0), (4, .int a4), (0, .ref 0), (1, .int a1), (2, .int a2), (3, .int a3)] [.null, .int a1, .ref 15] h) := by
  rfl
theorem T137_0_27_673 (xs : Nat → Int32) (L d : Nat) (I : Nat → Nat → Int32) (J : Nat → Nat → Int64) (X : XH) (a5 : Int32) (a4 : Int32) (a1 : Int32) (a2 : Int32) (a3 : Int32) (b1 : Int32) (b2 : Nat) : zseg (zE xs L (d + 5) 137) (zC 137) 673 (zB137_0.drop 27) [(5, .int a5), (4, .int a4), (0, .ref 0), (1, .int a1), (2, .int a2), (3, .int a3)] [.ref b2, .int b1, .ref 15] (zmk I J X) = zcw (zE xs L (d + 5) 137) (zev xs L (d + 5) 2 [.ref 15, .int b1, .ref b2] (zmk I J X)) (fun h => zseg (zE xs L (d + 5) 137) (zC 137) 672 (zB137_0.drop 28) [(5, .int a5), (4, .int a4), (0, .ref 0), (1, .int a1), (2, .int a2), (3, .int a3)] [] h) := by
  rfl
theorem T137_0_27_673_5 (xs : Nat → Int32) (L d : Nat) (I : Nat → Nat → Int32) (J : Nat → Nat → Int64) (X : XH) (a5 : Int32) (a4 : Int32) (a1 : Int32) (a2 : Int32) (a3 : Int32) (b1 : Int32) : zseg (zE xs L (d + 5) 137) (zC 137) 673 (zB137_0.drop 27) [(5, .int a5), (4, .int a4), (0, .ref 0), (1, .int a1), (2, .int a2), (3, .int a3)] [.null, .int b1, .ref 15] (zmk I J X) = zcw (zE xs L (d + 5) 137) (zev xs L (d + 5) 2 [.ref 15, .int b1, .null] (zmk I J X)) (fun h => zseg (zE xs L (d + 5) 137) (zC 137) 672 (zB137_0.drop 28) [(5, .int a5), (4, .int a4), (0, .ref 0), (1, .int a1), (2, .int a2), (3, .int a3)] [] h) := by
  rfl
theorem T137_0_28_672 (xs : Nat → Int32) (L d : Nat) (I : Nat → Nat → Int32) (J : Nat → Nat → Int64) (X : XH) (a5 : Int32) (a4 : Int32) (a1 : Int32) (a2 : Int32) (a3 : Int32) : zseg (zE xs L (d + 5) 137) (zC 137) 672 (zB137_0.drop 28) [(5, .int a5), (4, .int a4), (0, .ref 0), (1, .int a1), (2, .int a2), (3, .int a3)] [] (zmk I J X) = zci (zE xs L (d + 5) 137) (zev xs L (d + 5) 138 [.ref 0, .int a1] (zmk I J X)) (fun r h => zseg (zE xs L (d + 5) 137) (zC 137) 668 (zB137_0.drop 32) [(5, .int a5), (4, .int a4), (0, .ref 0), (1, .int a1), (2, .int a2), (3, .int a3)] [.int r, .ref 0] h) := by
  rfl
theorem T137_0_32_668 (xs : Nat → Int32) (L d : Nat) (I : Nat → Nat → Int32) (J : Nat → Nat → Int64) (X : XH) (a5 : Int32) (a4 : Int32) (a1 : Int32) (a2 : Int32) (a3 : Int32) (b1 : Int32) : zseg (zE xs L (d + 5) 137) (zC 137) 668 (zB137_0.drop 32) [(5, .int a5), (4, .int a4), (0, .ref 0), (1, .int a1), (2, .int a2), (3, .int a3)] [.int b1, .ref 0] (zmk I J X) = zcw (zE xs L (d + 5) 137) (zev xs L (d + 5) 6 [.ref 15, .int a1] (zmk (zup I 0 13 (b1 - a5)) J X)) (fun h => zseg (zE xs L (d + 5) 137) (zC 137) 661 (zB137_0.drop 39) [(5, .int a5), (4, .int a4), (0, .ref 0), (1, .int a1), (2, .int a2), (3, .int a3)] [] h) := by
  rfl
theorem T137_0_39_661 (xs : Nat → Int32) (L d : Nat) (I : Nat → Nat → Int32) (J : Nat → Nat → Int64) (X : XH) (a5 : Int32) (a4 : Int32) (a1 : Int32) (a2 : Int32) (a3 : Int32) : zseg (zE xs L (d + 5) 137) (zC 137) 661 (zB137_0.drop 39) [(5, .int a5), (4, .int a4), (0, .ref 0), (1, .int a1), (2, .int a2), (3, .int a3)] [] (zmk I J X) = some (.inr (.inr (some (.int a4)), zmk I J X)) := by
  rfl
/-! 138 TollTags.chargesNow (I)I -/
theorem S138_0 (xs : Nat → Int32) (L d : Nat) (I : Nat → Nat → Int32) (J : Nat → Nat → Int64) (X : XH) (a1 : Int32) : zseg (zE xs L (d + 5) 138) (zC 138) 700 (zC 138 0) [(0, .ref 0), (1, .int a1)] [] (zmk I J X) = zcw (zE xs L (d + 5) 138) (zev xs L (d + 5) 70 [.ref 26, .int (I 0 11)] (zmk I J X)) (fun h => zseg (zE xs L (d + 5) 138) (zC 138) 695 (zB138_0.drop 5) [(0, .ref 0), (1, .int a1)] [] h) := by
  rfl
theorem T138_0_5_695 (xs : Nat → Int32) (L d : Nat) (I : Nat → Nat → Int32) (J : Nat → Nat → Int64) (X : XH) (a1 : Int32) : zseg (zE xs L (d + 5) 138) (zC 138) 695 (zB138_0.drop 5) [(0, .ref 0), (1, .int a1)] [] (zmk I J X) = zcw (zE xs L (d + 5) 138) (zev xs L (d + 5) 21 [.ref 53, .int (-1 : Int32), .int (I 0 11)] (zmk I J X)) (fun h => zseg (zE xs L (d + 5) 138) (zC 138) 689 (zB138_0.drop 11) [(0, .ref 0), (1, .int a1)] [] h) := by
  rfl
theorem T138_0_11_689 (xs : Nat → Int32) (L d : Nat) (I : Nat → Nat → Int32) (J : Nat → Nat → Int64) (X : XH) (a1 : Int32) : zseg (zE xs L (d + 5) 138) (zC 138) 689 (zB138_0.drop 11) [(0, .ref 0), (1, .int a1)] [] (zmk I J X) = zci (zE xs L (d + 5) 138) (zev xs L (d + 5) 27 [.ref 53, .int a1] (zmk I J X)) (fun r h => zseg (zE xs L (d + 5) 138) (zC 138) 685 (zB138_0.drop 15) [(0, .ref 0), (1, .int a1)] [.int r] h) := by
  rfl
theorem T138_0_15_685 (xs : Nat → Int32) (L d : Nat) (I : Nat → Nat → Int32) (J : Nat → Nat → Int64) (X : XH) (a1 : Int32) (b0 : Int32) : zseg (zE xs L (d + 5) 138) (zC 138) 685 (zB138_0.drop 15) [(0, .ref 0), (1, .int a1)] [.int b0] (zmk I J X) = some (.inr (.inr (some (.int b0)), zmk I J X)) := by
  rfl
/-! 139 TollTags.count (I)I -/
theorem S139_0 (xs : Nat → Int32) (L d : Nat) (I : Nat → Nat → Int32) (J : Nat → Nat → Int64) (X : XH) (a1 : Int32) : zseg (zE xs L (d + 5) 139) (zC 139) 700 (zC 139 0) [(0, .ref 0), (1, .int a1)] [] (zmk I J X) = if a1 = 0 then
  some (.inr (.inr (some (.int (I 0 11))), zmk I J X))
  else if a1 = 1 then
  some (.inr (.inr (some (.int (I 1 0))), zmk I J X))
  else if a1 = 2 then
  some (.inr (.inr (some (.int (I 1 1))), zmk I J X))
  else if a1 = 3 then
  some (.inr (.inr (some (.int (I 9 0))), zmk I J X))
  else if a1 = 4 then
  some (.inr (.inr (some (.int (I 9 1))), zmk I J X))
  else if a1 = 5 then
  some (.inr (.inr (some (.int (I 9 2))), zmk I J X))
  else if a1 = 6 then
  some (.inr (.inr (some (.int (I 26 4))), zmk I J X))
  else if a1 = 7 then
  some (.inr (.inr (some (.int (I 20 0))), zmk I J X))
  else if a1 = 8 then
  some (.inr (.inr (some (.int (I 57 0))), zmk I J X))
  else if a1 = 9 then
  some (.inr (.inr (some (.int (I 35 1))), zmk I J X))
  else some (.inr (.inl 0, zexc (zmk I J X))) := by
  refine zite_congr ?_ ?_
  · rfl
  · refine zite_congr ?_ ?_
    · rfl
    · refine zite_congr ?_ ?_
      · rfl
      · refine zite_congr ?_ ?_
        · rfl
        · refine zite_congr ?_ ?_
          · rfl
          · refine zite_congr ?_ ?_
            · rfl
            · refine zite_congr ?_ ?_
              · rfl
              · refine zite_congr ?_ ?_
                · rfl
                · refine zite_congr ?_ ?_
                  · rfl
                  · refine zite_congr ?_ ?_
                    · rfl
                    · rfl
