/-! What the stretches answer: each by rfl. Written by program (wip/whole/lift.py). -/
/-! 85 Walk.meet ()V -/
theorem S85_0 (xs : Nat → Int32) (L d : Nat) (I : Nat → Nat → Int32) (J : Nat → Nat → Int64) (X : XH) : zseg (zP xs L (d + 5) 85) (zC 85) 700 (zC 85 0) [(0, .ref 49)] [] (zmk I J X) = zci (zP xs L (d + 5) 85) (zev xs L (d + 5) 67 [.ref 26, .int (I 49 10)] (zmk I J X)) (fun r h => zseg (zP xs L (d + 5) 85) (zC 85) 694 (zB85_0.drop 6) [(0, .ref 49)] [.int r, .ref 49] h) := by
  rfl
theorem T85_0_6_694 (xs : Nat → Int32) (L d : Nat) (I : Nat → Nat → Int32) (J : Nat → Nat → Int64) (X : XH) (b1 : Int32) : zseg (zP xs L (d + 5) 85) (zC 85) 694 (zB85_0.drop 6) [(0, .ref 49)] [.int b1, .ref 49] (zmk I J X) = zci (zP xs L (d + 5) 85) (zev xs L (d + 5) 73 [.ref 26, .int b1] (zmk (zup I 49 15 b1) J X)) (fun r h => zseg (zP xs L (d + 5) 85) (zC 85) 687 (zB85_0.drop 13) [(0, .ref 49)] [.int r, .ref 49] h) := by
  rfl
theorem T85_0_13_687 (xs : Nat → Int32) (L d : Nat) (I : Nat → Nat → Int32) (J : Nat → Nat → Int64) (X : XH) (b1 : Int32) : zseg (zP xs L (d + 5) 85) (zC 85) 687 (zB85_0.drop 13) [(0, .ref 49)] [.int b1, .ref 49] (zmk I J X) = zci (zP xs L (d + 5) 85) (zev xs L (d + 5) 68 [.ref 26, .int (I 49 15)] (zmk (zup I 49 13 b1) J X)) (fun r h => zseg (zP xs L (d + 5) 85) (zC 85) 680 (zB85_0.drop 20) [(0, .ref 49)] [.int r, .ref 49] h) := by
  rfl
theorem T85_0_20_680 (xs : Nat → Int32) (L d : Nat) (I : Nat → Nat → Int32) (J : Nat → Nat → Int64) (X : XH) (b1 : Int32) : zseg (zP xs L (d + 5) 85) (zC 85) 680 (zB85_0.drop 20) [(0, .ref 49)] [.int b1, .ref 49] (zmk I J X) = zci (zP xs L (d + 5) 85) (zev xs L (d + 5) 77 [.ref 26, .int (I 49 15)] (zmk (zup I 49 14 b1) J X)) (fun r h => zseg (zP xs L (d + 5) 85) (zC 85) 673 (zB85_0.drop 27) [(0, .ref 49)] [.int r, .ref 49] h) := by
  rfl
theorem T85_0_27_673 (xs : Nat → Int32) (L d : Nat) (I : Nat → Nat → Int32) (J : Nat → Nat → Int64) (X : XH) (b1 : Int32) : zseg (zP xs L (d + 5) 85) (zC 85) 673 (zB85_0.drop 27) [(0, .ref 49)] [.int b1, .ref 49] (zmk I J X) = if hK (zmk I J X) 49 = (19, 0) ∧ (b1 = 0 ∨ b1 = 1) then
  zci (zP xs L (d + 5) 85) (zev xs L (d + 5) 76 [.ref 26, .int (I 49 8), .int ((I 49 10) + (1 : Int32))] (zmk (zup I 49 17 b1) J X)) (fun r h => zseg (zP xs L (d + 5) 85) (zC 85) 662 (zB85_0.drop 38) [(0, .ref 49)] [.int r, .ref 49] h)
  else none := by
  refine zite_congr ?_ ?_
  · rfl
  · rfl
theorem T85_0_38_662 (xs : Nat → Int32) (L d : Nat) (I : Nat → Nat → Int32) (J : Nat → Nat → Int64) (X : XH) (b1 : Int32) : zseg (zP xs L (d + 5) 85) (zC 85) 662 (zB85_0.drop 38) [(0, .ref 49)] [.int b1, .ref 49] (zmk I J X) = some (.inr (.inr none, zmk (zup I 49 10 b1) J X)) := by
  rfl
/-! 88 Walk.charge ()I -/
theorem S88_0 (xs : Nat → Int32) (L d : Nat) (I : Nat → Nat → Int32) (J : Nat → Nat → Int64) (X : XH) : zseg (zP xs L (d + 5) 88) (zC 88) 700 (zC 88 0) [(0, .ref 49)] [] (zmk I J X) = if decide ((I 49 17) = 0) = true then
  zci (zP xs L (d + 5) 88) (zev xs L (d + 5) 16 [.ref 9, .int (I 49 8)] (zmk I J X)) (fun r h => zseg (zP xs L (d + 5) 88) (zC 88) 689 (zB88_1.drop 8) [(0, .ref 49)] [.int r, .int (0 : Int32), .ref 51] h)
  else some (.inr (.inr (some (.int (0 : Int32))), zmk I J X)) := by
  refine zite_congr ?_ ?_
  · rfl
  · rfl
theorem T88_1_8_689 (xs : Nat → Int32) (L d : Nat) (I : Nat → Nat → Int32) (J : Nat → Nat → Int64) (X : XH) (b1 : Int32) (b2 : Int32) : zseg (zP xs L (d + 5) 88) (zC 88) 689 (zB88_1.drop 8) [(0, .ref 49)] [.int b2, .int b1, .ref 51] (zmk I J X) = zqv (zev xs L (d + 5) 99 [.ref 51, .int b1, .int b2] (zmk I J X)) (fun h => zseg (zP xs L (d + 5) 88) (zC 88) 688 (zB88_1.drop 9) [(0, .ref 49)] [] h) := by
  rfl
theorem T88_1_9_688 (xs : Nat → Int32) (L d : Nat) (I : Nat → Nat → Int32) (J : Nat → Nat → Int64) (X : XH) : zseg (zP xs L (d + 5) 88) (zC 88) 688 (zB88_1.drop 9) [(0, .ref 49)] [] (zmk I J X) = zci (zP xs L (d + 5) 88) (zev xs L (d + 5) 17 [.ref 9, .int (I 49 8)] (zmk I J X)) (fun r h => zseg (zP xs L (d + 5) 88) (zC 88) 680 (zB88_1.drop 17) [(0, .ref 49)] [.int r, .int (1 : Int32), .ref 51] h) := by
  rfl
theorem T88_1_17_680 (xs : Nat → Int32) (L d : Nat) (I : Nat → Nat → Int32) (J : Nat → Nat → Int64) (X : XH) (b1 : Int32) (b2 : Int32) : zseg (zP xs L (d + 5) 88) (zC 88) 680 (zB88_1.drop 17) [(0, .ref 49)] [.int b2, .int b1, .ref 51] (zmk I J X) = zqv (zev xs L (d + 5) 99 [.ref 51, .int b1, .int b2] (zmk I J X)) (fun h => zseg (zP xs L (d + 5) 88) (zC 88) 679 (zB88_1.drop 18) [(0, .ref 49)] [] h) := by
  rfl
theorem T88_1_18_679 (xs : Nat → Int32) (L d : Nat) (I : Nat → Nat → Int32) (J : Nat → Nat → Int64) (X : XH) : zseg (zP xs L (d + 5) 88) (zC 88) 679 (zB88_1.drop 18) [(0, .ref 49)] [] (zmk I J X) = zci (zP xs L (d + 5) 88) (zev xs L (d + 5) 37 [.ref 1, .int (I 49 13)] (zmk I J X)) (fun r h => zseg (zP xs L (d + 5) 88) (zC 88) 671 (zB88_1.drop 26) [(0, .ref 49)] [.int r, .int (2 : Int32), .ref 51] h) := by
  rfl
theorem T88_1_26_671 (xs : Nat → Int32) (L d : Nat) (I : Nat → Nat → Int32) (J : Nat → Nat → Int64) (X : XH) (b1 : Int32) (b2 : Int32) : zseg (zP xs L (d + 5) 88) (zC 88) 671 (zB88_1.drop 26) [(0, .ref 49)] [.int b2, .int b1, .ref 51] (zmk I J X) = zqv (zev xs L (d + 5) 99 [.ref 51, .int b1, .int b2] (zmk I J X)) (fun h => zseg (zP xs L (d + 5) 88) (zC 88) 670 (zB88_1.drop 27) [(0, .ref 49)] [] h) := by
  rfl
theorem T88_1_27_670 (xs : Nat → Int32) (L d : Nat) (I : Nat → Nat → Int32) (J : Nat → Nat → Int64) (X : XH) : zseg (zP xs L (d + 5) 88) (zC 88) 670 (zB88_1.drop 27) [(0, .ref 49)] [] (zmk I J X) = zqv (zev xs L (d + 5) 99 [.ref 51, .int (3 : Int32), .int (((I 49 14) - (I 49 14) / (1440 : Int32) * (1440 : Int32)) / (60 : Int32))] (zmk I J X)) (fun h => zseg (zP xs L (d + 5) 88) (zC 88) 660 (zB88_1.drop 37) [(0, .ref 49)] [] h) := by
  rfl
theorem T88_1_37_660 (xs : Nat → Int32) (L d : Nat) (I : Nat → Nat → Int32) (J : Nat → Nat → Int64) (X : XH) : zseg (zP xs L (d + 5) 88) (zC 88) 660 (zB88_1.drop 37) [(0, .ref 49)] [] (zmk I J X) = zqv (zev xs L (d + 5) 99 [.ref 51, .int (4 : Int32), .int (((I 49 14) / (1440 : Int32)) - ((I 49 14) / (1440 : Int32)) / (7 : Int32) * (7 : Int32))] (zmk I J X)) (fun h => zseg (zP xs L (d + 5) 88) (zC 88) 650 (zB88_1.drop 47) [(0, .ref 49)] [] h) := by
  rfl
theorem T88_1_47_650 (xs : Nat → Int32) (L d : Nat) (I : Nat → Nat → Int32) (J : Nat → Nat → Int64) (X : XH) : zseg (zP xs L (d + 5) 88) (zC 88) 650 (zB88_1.drop 47) [(0, .ref 49)] [] (zmk I J X) = zci (zP xs L (d + 5) 88) (zev xs L (d + 5) 38 [.ref 1, .int (I 49 13)] (zmk I J X)) (fun r h => zseg (zP xs L (d + 5) 88) (zC 88) 642 (zB88_1.drop 55) [(0, .ref 49)] [.int r, .int (5 : Int32), .ref 51] h) := by
  rfl
theorem T88_1_55_642 (xs : Nat → Int32) (L d : Nat) (I : Nat → Nat → Int32) (J : Nat → Nat → Int64) (X : XH) (b1 : Int32) (b2 : Int32) : zseg (zP xs L (d + 5) 88) (zC 88) 642 (zB88_1.drop 55) [(0, .ref 49)] [.int b2, .int b1, .ref 51] (zmk I J X) = zqv (zev xs L (d + 5) 99 [.ref 51, .int b1, .int b2] (zmk I J X)) (fun h => zseg (zP xs L (d + 5) 88) (zC 88) 641 (zB88_1.drop 56) [(0, .ref 49)] [] h) := by
  rfl
theorem T88_1_56_641 (xs : Nat → Int32) (L d : Nat) (I : Nat → Nat → Int32) (J : Nat → Nat → Int64) (X : XH) : zseg (zP xs L (d + 5) 88) (zC 88) 641 (zB88_1.drop 56) [(0, .ref 49)] [] (zmk I J X) = zqv (zev xs L (d + 5) 99 [.ref 51, .int (6 : Int32), .int (I 49 16)] (zmk I J X)) (fun h => zseg (zP xs L (d + 5) 88) (zC 88) 635 (zB88_1.drop 62) [(0, .ref 49)] [] h) := by
  rfl
theorem T88_1_62_635 (xs : Nat → Int32) (L d : Nat) (I : Nat → Nat → Int32) (J : Nat → Nat → Int64) (X : XH) : zseg (zP xs L (d + 5) 88) (zC 88) 635 (zB88_1.drop 62) [(0, .ref 49)] [] (zmk I J X) = if decide (¬ (I 49 15) = (-1 : Int32)) = true then
  zqv (zev xs L (d + 5) 99 [.ref 51, .int (7 : Int32), .int (0 : Int32)] (zmk I J X)) (fun h => zseg (zP xs L (d + 5) 88) (zC 88) 625 (zB88_3.drop 1) [(0, .ref 49)] [] h)
  else zqv (zev xs L (d + 5) 99 [.ref 51, .int (7 : Int32), .int (1 : Int32)] (zmk I J X)) (fun h => zseg (zP xs L (d + 5) 88) (zC 88) 625 (zB88_3.drop 1) [(0, .ref 49)] [] h) := by
  refine zite_congr ?_ ?_
  · rfl
  · rfl
theorem T88_3_1_625 (xs : Nat → Int32) (L d : Nat) (I : Nat → Nat → Int32) (J : Nat → Nat → Int64) (X : XH) : zseg (zP xs L (d + 5) 88) (zC 88) 625 (zB88_3.drop 1) [(0, .ref 49)] [] (zmk I J X) = zci (zP xs L (d + 5) 88) (zev xs L (d + 5) 33 [.ref 1, .int (I 49 13)] (zmk I J X)) (fun r h => zseg (zP xs L (d + 5) 88) (zC 88) 618 (zB88_3.drop 8) [(0, .ref 49)] [.int r, .ref 15] h) := by
  rfl
theorem T88_3_8_618 (xs : Nat → Int32) (L d : Nat) (I : Nat → Nat → Int32) (J : Nat → Nat → Int64) (X : XH) (b1 : Int32) : zseg (zP xs L (d + 5) 88) (zC 88) 618 (zB88_3.drop 8) [(0, .ref 49)] [.int b1, .ref 15] (zmk I J X) = zcr (zP xs L (d + 5) 88) (zev xs L (d + 5) 4 [.ref 15, .int b1, .int (I 49 14), .int (I 49 9)] (zmk I J X)) (fun r h => zseg (zP xs L (d + 5) 88) (zC 88) 613 (zB88_3.drop 13) [(0, .ref 49)] [.ref r] h) (fun h => zseg (zP xs L (d + 5) 88) (zC 88) 613 (zB88_3.drop 13) [(0, .ref 49)] [.null] h) := by
  rfl
theorem T88_3_13_613 (xs : Nat → Int32) (L d : Nat) (I : Nat → Nat → Int32) (J : Nat → Nat → Int64) (X : XH) (b0 : Nat) : zseg (zP xs L (d + 5) 88) (zC 88) 613 (zB88_3.drop 13) [(0, .ref 49)] [.ref b0] (zmk I J X) = zci (zP xs L (d + 5) 88) (zev xs L (d + 5) 37 [.ref 1, .int (I 49 13)] (zmk I J X)) (fun r h => zseg (zP xs L (d + 5) 88) (zC 88) 601 (zB88_3.drop 25) [(1, .ref b0), (0, .ref 49)] [.int r, .int (10 : Int32), .ref 52, .ref 51, .ref b0] h) := by
  rfl
theorem T88_3_13_613_14 (xs : Nat → Int32) (L d : Nat) (I : Nat → Nat → Int32) (J : Nat → Nat → Int64) (X : XH) : zseg (zP xs L (d + 5) 88) (zC 88) 613 (zB88_3.drop 13) [(0, .ref 49)] [.null] (zmk I J X) = none := by
  rfl
theorem T88_3_25_601 (xs : Nat → Int32) (L d : Nat) (I : Nat → Nat → Int32) (J : Nat → Nat → Int64) (X : XH) (a1 : Nat) (b0 : Nat) (b3 : Int32) (b4 : Int32) : zseg (zP xs L (d + 5) 88) (zC 88) 601 (zB88_3.drop 25) [(1, .ref a1), (0, .ref 49)] [.int b4, .int b3, .ref 52, .ref 51, .ref b0] (zmk I J X) = if 4 ≤ 4 ∧ 4 ≤ 4 + 4 ∧ zrcv (zmk I J X) (15808 % 100) [.ref b0, .ref 51, .ref 52, .int (b3 * b4)] = true then
  zci (zP xs L (d + 5) 88) (zev xs L (d + 5) 79 [.ref b0, .ref 51, .ref 52, .int (b3 * b4)] (zmk I J X)) (fun r h => zseg (zP xs L (d + 5) 88) (zC 88) 599 (zB88_3.drop 27) [(1, .ref a1), (0, .ref 49)] [.int r] h)
  else none := by
  refine zite_congr ?_ ?_
  · rfl
  · rfl
theorem T88_3_27_599 (xs : Nat → Int32) (L d : Nat) (I : Nat → Nat → Int32) (J : Nat → Nat → Int64) (X : XH) (a1 : Nat) (b0 : Int32) : zseg (zP xs L (d + 5) 88) (zC 88) 599 (zB88_3.drop 27) [(1, .ref a1), (0, .ref 49)] [.int b0] (zmk I J X) = some (.inr (.inr (some (.int b0)), zmk I J X)) := by
  rfl
/-! What the stretches answer: each by rfl. Written by program (wip/whole/lift.py). -/
/-! What the stretches answer: each by rfl. Written by program (wip/whole/lift.py). -/
/-! What the stretches answer: each by rfl. Written by program (wip/whole/lift.py). -/
/-! What the stretches answer: each by rfl. Written by program (wip/whole/lift.py). -/
