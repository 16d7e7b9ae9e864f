/-! What the stretches answer: each by rfl. Written by program (wip/whole/lift.py). -/
/-! 214 TollTagsLaw.road (LTollTags;IIIIIZ[J)I -/
theorem S214_0 (xs : Nat → Int32) (L d : Nat) (I : Nat → Nat → Int32) (J : Nat → Nat → Int64) (X : XH) (a1 : Int32) (a2 : Int32) (a3 : Int32) (a4 : Int32) (a5 : Int32) (a6 : Int32) : zseg (zE xs L (d + 5) 214) (zC 214) 700 (zC 214 0) [(0, .ref 0), (1, .int a1), (2, .int a2), (3, .int a3), (4, .int a4), (5, .int a5), (6, .int a6), (7, .ref 122)] [] (zmk I J X) = zci (zE xs L (d + 5) 214) (zev xs L (d + 5) 109 [.ref 0, .int a1, .int a2, .int a3, .int a4, .int a5, .int a6] (zmk I J X)) (fun r h => zseg (zE xs L (d + 5) 214) (zC 214) 690 (zB214_0.drop 10) [(0, .ref 0), (1, .int a1), (2, .int a2), (3, .int a3), (4, .int a4), (5, .int a5), (6, .int a6), (7, .ref 122)] [.int r, .int (0 : Int32), .ref 122] h) := by
  rfl
theorem T214_0_10_690 (xs : Nat → Int32) (L d : Nat) (I : Nat → Nat → Int32) (J : Nat → Nat → Int64) (X : XH) (a1 : Int32) (a2 : Int32) (a3 : Int32) (a4 : Int32) (a5 : Int32) (a6 : Int32) (b1 : Int32) (b2 : Int32) : zseg (zE xs L (d + 5) 214) (zC 214) 690 (zB214_0.drop 10) [(0, .ref 0), (1, .int a1), (2, .int a2), (3, .int a3), (4, .int a4), (5, .int a5), (6, .int a6), (7, .ref 122)] [.int b2, .int b1, .ref 122] (zmk I J X) = if zix 2 1 2 b1 then
  some (.inr (.inr (some (.int (0 : Int32))), zmk I (zup J 122 b1.toNatClampNeg b2.toInt64) X))
  else none := by
  refine zite_congr ?_ ?_
  · rfl
  · rfl
/-! 215 TollTagsLaw.box (LTollTags;II[J)I -/
theorem S215_0 (xs : Nat → Int32) (L d : Nat) (I : Nat → Nat → Int32) (J : Nat → Nat → Int64) (X : XH) (a1 : Int32) (a2 : Int32) : zseg (zE xs L (d + 5) 215) (zC 215) 700 (zC 215 0) [(0, .ref 0), (1, .int a1), (2, .int a2), (3, .ref 122)] [] (zmk I J X) = zci (zE xs L (d + 5) 215) (zev xs L (d + 5) 112 [.ref 0, .int a1, .int a2] (zmk I J X)) (fun r h => zseg (zE xs L (d + 5) 215) (zC 215) 694 (zB215_0.drop 6) [(0, .ref 0), (1, .int a1), (2, .int a2), (3, .ref 122)] [.int r, .int (0 : Int32), .ref 122] h) := by
  rfl
theorem T215_0_6_694 (xs : Nat → Int32) (L d : Nat) (I : Nat → Nat → Int32) (J : Nat → Nat → Int64) (X : XH) (a1 : Int32) (a2 : Int32) (b1 : Int32) (b2 : Int32) : zseg (zE xs L (d + 5) 215) (zC 215) 694 (zB215_0.drop 6) [(0, .ref 0), (1, .int a1), (2, .int a2), (3, .ref 122)] [.int b2, .int b1, .ref 122] (zmk I J X) = if zix 2 1 2 b1 then
  some (.inr (.inr (some (.int (0 : Int32))), zmk I (zup J 122 b1.toNatClampNeg b2.toInt64) X))
  else none := by
  refine zite_congr ?_ ?_
  · rfl
  · rfl
/-! 216 TollTagsLaw.go (LTollTags;I[J)I -/
theorem S216_0 (xs : Nat → Int32) (L d : Nat) (I : Nat → Nat → Int32) (J : Nat → Nat → Int64) (X : XH) (a1 : Int32) : zseg (zE xs L (d + 5) 216) (zC 216) 700 (zC 216 0) [(0, .ref 0), (1, .int a1), (2, .ref 122)] [] (zmk I J X) = zci (zE xs L (d + 5) 216) (zev xs L (d + 5) 113 [.ref 0, .int a1] (zmk I J X)) (fun r h => zseg (zE xs L (d + 5) 216) (zC 216) 695 (zB216_0.drop 5) [(0, .ref 0), (1, .int a1), (2, .ref 122)] [.int r, .int (0 : Int32), .ref 122] h) := by
  rfl
theorem T216_0_5_695 (xs : Nat → Int32) (L d : Nat) (I : Nat → Nat → Int32) (J : Nat → Nat → Int64) (X : XH) (a1 : Int32) (b1 : Int32) (b2 : Int32) : zseg (zE xs L (d + 5) 216) (zC 216) 695 (zB216_0.drop 5) [(0, .ref 0), (1, .int a1), (2, .ref 122)] [.int b2, .int b1, .ref 122] (zmk I J X) = if zix 2 1 2 b1 then
  some (.inr (.inr (some (.int (0 : Int32))), zmk I (zup J 122 b1.toNatClampNeg b2.toInt64) X))
  else none := by
  refine zite_congr ?_ ?_
  · rfl
  · rfl
/-! 217 TollTagsLaw.signal (LTollTags;III[J)I -/
theorem S217_0 (xs : Nat → Int32) (L d : Nat) (I : Nat → Nat → Int32) (J : Nat → Nat → Int64) (X : XH) (a1 : Int32) (a2 : Int32) (a3 : Int32) : zseg (zE xs L (d + 5) 217) (zC 217) 700 (zC 217 0) [(0, .ref 0), (1, .int a1), (2, .int a2), (3, .int a3), (4, .ref 122)] [] (zmk I J X) = zci (zE xs L (d + 5) 217) (zev xs L (d + 5) 114 [.ref 0, .int a1, .int a2, .int a3] (zmk I J X)) (fun r h => zseg (zE xs L (d + 5) 217) (zC 217) 693 (zB217_0.drop 7) [(0, .ref 0), (1, .int a1), (2, .int a2), (3, .int a3), (4, .ref 122)] [.int r, .int (0 : Int32), .ref 122] h) := by
  rfl
theorem T217_0_7_693 (xs : Nat → Int32) (L d : Nat) (I : Nat → Nat → Int32) (J : Nat → Nat → Int64) (X : XH) (a1 : Int32) (a2 : Int32) (a3 : Int32) (b1 : Int32) (b2 : Int32) : zseg (zE xs L (d + 5) 217) (zC 217) 693 (zB217_0.drop 7) [(0, .ref 0), (1, .int a1), (2, .int a2), (3, .int a3), (4, .ref 122)] [.int b2, .int b1, .ref 122] (zmk I J X) = if zix 2 1 2 b1 then
  some (.inr (.inr (some (.int (0 : Int32))), zmk I (zup J 122 b1.toNatClampNeg b2.toInt64) X))
  else none := by
  refine zite_congr ?_ ?_
  · rfl
  · rfl
/-! 218 TollTagsLaw.back (LTollTags;I[J)I -/
theorem S218_0 (xs : Nat → Int32) (L d : Nat) (I : Nat → Nat → Int32) (J : Nat → Nat → Int64) (X : XH) (a1 : Int32) : zseg (zE xs L (d + 5) 218) (zC 218) 700 (zC 218 0) [(0, .ref 0), (1, .int a1), (2, .ref 122)] [] (zmk I J X) = zci (zE xs L (d + 5) 218) (zev xs L (d + 5) 115 [.ref 0, .int a1] (zmk I J X)) (fun r h => zseg (zE xs L (d + 5) 218) (zC 218) 695 (zB218_0.drop 5) [(0, .ref 0), (1, .int a1), (2, .ref 122)] [.int r, .int (0 : Int32), .ref 122] h) := by
  rfl
theorem T218_0_5_695 (xs : Nat → Int32) (L d : Nat) (I : Nat → Nat → Int32) (J : Nat → Nat → Int64) (X : XH) (a1 : Int32) (b1 : Int32) (b2 : Int32) : zseg (zE xs L (d + 5) 218) (zC 218) 695 (zB218_0.drop 5) [(0, .ref 0), (1, .int a1), (2, .ref 122)] [.int b2, .int b1, .ref 122] (zmk I J X) = if decide (b2 = 0) = true then
  if zix 2 1 2 b1 then
    some (.inr (.inr (some (.int (0 : Int32))), zmk I (zup J 122 b1.toNatClampNeg (Int64.ofNat 0)) X))
    else none
  else if zix 2 1 2 b1 then
    some (.inr (.inr (some (.int (0 : Int32))), zmk I (zup J 122 b1.toNatClampNeg (Int64.ofNat 1)) X))
    else none := by
  refine zite_congr ?_ ?_
  · refine zite_congr ?_ ?_
    · rfl
    · rfl
  · refine zite_congr ?_ ?_
    · rfl
    · rfl
/-! 219 TollTagsLaw.dispute (LTollTags;I[J)I -/
theorem S219_0 (xs : Nat → Int32) (L d : Nat) (I : Nat → Nat → Int32) (J : Nat → Nat → Int64) (X : XH) (a1 : Int32) : zseg (zE xs L (d + 5) 219) (zC 219) 700 (zC 219 0) [(0, .ref 0), (1, .int a1), (2, .ref 122)] [] (zmk I J X) = zci (zE xs L (d + 5) 219) (zev xs L (d + 5) 116 [.ref 0, .int a1] (zmk I J X)) (fun r h => zseg (zE xs L (d + 5) 219) (zC 219) 695 (zB219_0.drop 5) [(0, .ref 0), (1, .int a1), (2, .ref 122)] [.int r, .int (0 : Int32), .ref 122] h) := by
  rfl
theorem T219_0_5_695 (xs : Nat → Int32) (L d : Nat) (I : Nat → Nat → Int32) (J : Nat → Nat → Int64) (X : XH) (a1 : Int32) (b1 : Int32) (b2 : Int32) : zseg (zE xs L (d + 5) 219) (zC 219) 695 (zB219_0.drop 5) [(0, .ref 0), (1, .int a1), (2, .ref 122)] [.int b2, .int b1, .ref 122] (zmk I J X) = if zix 2 1 2 b1 then
  some (.inr (.inr (some (.int (0 : Int32))), zmk I (zup J 122 b1.toNatClampNeg b2.toInt64) X))
  else none := by
  refine zite_congr ?_ ?_
  · rfl
  · rfl
/-! 220 TollTagsLaw.decide (LTollTags;III[J)I -/
theorem S220_0 (xs : Nat → Int32) (L d : Nat) (I : Nat → Nat → Int32) (J : Nat → Nat → Int64) (X : XH) (a1 : Int32) (a2 : Int32) (a3 : Int32) : zseg (zE xs L (d + 5) 220) (zC 220) 700 (zC 220 0) [(0, .ref 0), (1, .int a1), (2, .int a2), (3, .int a3), (4, .ref 122)] [] (zmk I J X) = zci (zE xs L (d + 5) 220) (zev xs L (d + 5) 117 [.ref 0, .int a1, .int a2, .int a3] (zmk I J X)) (fun r h => zseg (zE xs L (d + 5) 220) (zC 220) 693 (zB220_0.drop 7) [(0, .ref 0), (1, .int a1), (2, .int a2), (3, .int a3), (4, .ref 122)] [.int r, .int (0 : Int32), .ref 122] h) := by
  rfl
theorem T220_0_7_693 (xs : Nat → Int32) (L d : Nat) (I : Nat → Nat → Int32) (J : Nat → Nat → Int64) (X : XH) (a1 : Int32) (a2 : Int32) (a3 : Int32) (b1 : Int32) (b2 : Int32) : zseg (zE xs L (d + 5) 220) (zC 220) 693 (zB220_0.drop 7) [(0, .ref 0), (1, .int a1), (2, .int a2), (3, .int a3), (4, .ref 122)] [.int b2, .int b1, .ref 122] (zmk I J X) = if decide (b2 = 0) = true then
  if zix 2 1 2 b1 then
    some (.inr (.inr (some (.int (0 : Int32))), zmk I (zup J 122 b1.toNatClampNeg (Int64.ofNat 0)) X))
    else none
  else if zix 2 1 2 b1 then
    some (.inr (.inr (some (.int (0 : Int32))), zmk I (zup J 122 b1.toNatClampNeg (Int64.ofNat 1)) X))
    else none := by
  refine zite_congr ?_ ?_
  · refine zite_congr ?_ ?_
    · rfl
    · rfl
  · refine zite_congr ?_ ?_
    · rfl
    · rfl
/-! 221 TollTagsLaw.terms (LTollTags;III[J)I -/
theorem S221_0 (xs : Nat → Int32) (L d : Nat) (I : Nat → Nat → Int32) (J : Nat → Nat → Int64) (X : XH) (a1 : Int32) (a2 : Int32) (a3 : Int32) : zseg (zE xs L (d + 5) 221) (zC 221) 700 (zC 221 0) [(0, .ref 0), (1, .int a1), (2, .int a2), (3, .int a3), (4, .ref 122)] [] (zmk I J X) = zci (zE xs L (d + 5) 221) (zev xs L (d + 5) 118 [.ref 0, .int a1, .int a2, .int a3] (zmk I J X)) (fun r h => zseg (zE xs L (d + 5) 221) (zC 221) 693 (zB221_0.drop 7) [(0, .ref 0), (1, .int a1), (2, .int a2), (3, .int a3), (4, .ref 122)] [.int r, .int (0 : Int32), .ref 122] h) := by
  rfl
theorem T221_0_7_693 (xs : Nat → Int32) (L d : Nat) (I : Nat → Nat → Int32) (J : Nat → Nat → Int64) (X : XH) (a1 : Int32) (a2 : Int32) (a3 : Int32) (b1 : Int32) (b2 : Int32) : zseg (zE xs L (d + 5) 221) (zC 221) 693 (zB221_0.drop 7) [(0, .ref 0), (1, .int a1), (2, .int a2), (3, .int a3), (4, .ref 122)] [.int b2, .int b1, .ref 122] (zmk I J X) = if zix 2 1 2 b1 then
  some (.inr (.inr (some (.int (0 : Int32))), zmk I (zup J 122 b1.toNatClampNeg b2.toInt64) X))
  else none := by
  refine zite_congr ?_ ?_
  · rfl
  · rfl
/-! 222 TollTagsLaw.black (LTollTags;IZI[J)I -/
theorem S222_0 (xs : Nat → Int32) (L d : Nat) (I : Nat → Nat → Int32) (J : Nat → Nat → Int64) (X : XH) (a1 : Int32) (a2 : Int32) (a3 : Int32) : zseg (zE xs L (d + 5) 222) (zC 222) 700 (zC 222 0) [(0, .ref 0), (1, .int a1), (2, .int a2), (3, .int a3), (4, .ref 122)] [] (zmk I J X) = zci (zE xs L (d + 5) 222) (zev xs L (d + 5) 122 [.ref 0, .int a1, .int a2, .int a3] (zmk I J X)) (fun r h => zseg (zE xs L (d + 5) 222) (zC 222) 693 (zB222_0.drop 7) [(0, .ref 0), (1, .int a1), (2, .int a2), (3, .int a3), (4, .ref 122)] [.int r, .int (0 : Int32), .ref 122] h) := by
  rfl
theorem T222_0_7_693 (xs : Nat → Int32) (L d : Nat) (I : Nat → Nat → Int32) (J : Nat → Nat → Int64) (X : XH) (a1 : Int32) (a2 : Int32) (a3 : Int32) (b1 : Int32) (b2 : Int32) : zseg (zE xs L (d + 5) 222) (zC 222) 693 (zB222_0.drop 7) [(0, .ref 0), (1, .int a1), (2, .int a2), (3, .int a3), (4, .ref 122)] [.int b2, .int b1, .ref 122] (zmk I J X) = if zix 2 1 2 b1 then
  some (.inr (.inr (some (.int (0 : Int32))), zmk I (zup J 122 b1.toNatClampNeg b2.toInt64) X))
  else none := by
  refine zite_congr ?_ ?_
  · rfl
  · rfl
/-! 223 TollTagsLaw.rate (LTollTags;III[J)I -/
theorem S223_0 (xs : Nat → Int32) (L d : Nat) (I : Nat → Nat → Int32) (J : Nat → Nat → Int64) (X : XH) (a1 : Int32) (a2 : Int32) (a3 : Int32) : zseg (zE xs L (d + 5) 223) (zC 223) 700 (zC 223 0) [(0, .ref 0), (1, .int a1), (2, .int a2), (3, .int a3), (4, .ref 122)] [] (zmk I J X) = zci (zE xs L (d + 5) 223) (zev xs L (d + 5) 123 [.ref 0, .int a1, .int a2, .int a3] (zmk I J X)) (fun r h => zseg (zE xs L (d + 5) 223) (zC 223) 693 (zB223_0.drop 7) [(0, .ref 0), (1, .int a1), (2, .int a2), (3, .int a3), (4, .ref 122)] [.int r, .int (0 : Int32), .ref 122] h) := by
  rfl
theorem T223_0_7_693 (xs : Nat → Int32) (L d : Nat) (I : Nat → Nat → Int32) (J : Nat → Nat → Int64) (X : XH) (a1 : Int32) (a2 : Int32) (a3 : Int32) (b1 : Int32) (b2 : Int32) : zseg (zE xs L (d + 5) 223) (zC 223) 693 (zB223_0.drop 7) [(0, .ref 0), (1, .int a1), (2, .int a2), (3, .int a3), (4, .ref 122)] [.int b2, .int b1, .ref 122] (zmk I J X) = if decide (b2 = 0) = true then
  if zix 2 1 2 b1 then
    some (.inr (.inr (some (.int (0 : Int32))), zmk I (zup J 122 b1.toNatClampNeg (Int64.ofNat 0)) X))
    else none
  else if zix 2 1 2 b1 then
    some (.inr (.inr (some (.int (0 : Int32))), zmk I (zup J 122 b1.toNatClampNeg (Int64.ofNat 1)) X))
    else none := by
  refine zite_congr ?_ ?_
  · refine zite_congr ?_ ?_
    · rfl
    · rfl
  · refine zite_congr ?_ ?_
    · rfl
    · rfl
/-! 224 TollTagsLaw.track (LTollTags;III[J)I -/
theorem S224_0 (xs : Nat → Int32) (L d : Nat) (I : Nat → Nat → Int32) (J : Nat → Nat → Int64) (X : XH) (a1 : Int32) (a2 : Int32) (a3 : Int32) : zseg (zE xs L (d + 5) 224) (zC 224) 700 (zC 224 0) [(0, .ref 0), (1, .int a1), (2, .int a2), (3, .int a3), (4, .ref 122)] [] (zmk I J X) = zci (zE xs L (d + 5) 224) (zev xs L (d + 5) 124 [.ref 0, .int a1, .int a2, .int a3] (zmk I J X)) (fun r h => zseg (zE xs L (d + 5) 224) (zC 224) 693 (zB224_0.drop 7) [(0, .ref 0), (1, .int a1), (2, .int a2), (3, .int a3), (4, .ref 122)] [.int r, .int (0 : Int32), .ref 122] h) := by
  rfl
theorem T224_0_7_693 (xs : Nat → Int32) (L d : Nat) (I : Nat → Nat → Int32) (J : Nat → Nat → Int64) (X : XH) (a1 : Int32) (a2 : Int32) (a3 : Int32) (b1 : Int32) (b2 : Int32) : zseg (zE xs L (d + 5) 224) (zC 224) 693 (zB224_0.drop 7) [(0, .ref 0), (1, .int a1), (2, .int a2), (3, .int a3), (4, .ref 122)] [.int b2, .int b1, .ref 122] (zmk I J X) = if zix 2 1 2 b1 then
  some (.inr (.inr (some (.int (0 : Int32))), zmk I (zup J 122 b1.toNatClampNeg b2.toInt64) X))
  else none := by
  refine zite_congr ?_ ?_
  · rfl
  · rfl
/-! 225 TollTagsLaw.passage (LTollTags;IIII[J)I -/
theorem S225_0 (xs : Nat → Int32) (L d : Nat) (I : Nat → Nat → Int32) (J : Nat → Nat → Int64) (X : XH) (a1 : Int32) (a2 : Int32) (a3 : Int32) (a4 : Int32) : zseg (zE xs L (d + 5) 225) (zC 225) 700 (zC 225 0) [(0, .ref 0), (1, .int a1), (2, .int a2), (3, .int a3), (4, .int a4), (5, .ref 122)] [] (zmk I J X) = zci (zE xs L (d + 5) 225) (zev xs L (d + 5) 127 [.ref 0, .int a1, .int a2, .int a3, .int a4] (zmk I J X)) (fun r h => zseg (zE xs L (d + 5) 225) (zC 225) 692 (zB225_0.drop 8) [(0, .ref 0), (1, .int a1), (2, .int a2), (3, .int a3), (4, .int a4), (5, .ref 122)] [.int r, .int (0 : Int32), .ref 122] h) := by
  rfl
theorem T225_0_8_692 (xs : Nat → Int32) (L d : Nat) (I : Nat → Nat → Int32) (J : Nat → Nat → Int64) (X : XH) (a1 : Int32) (a2 : Int32) (a3 : Int32) (a4 : Int32) (b1 : Int32) (b2 : Int32) : zseg (zE xs L (d + 5) 225) (zC 225) 692 (zB225_0.drop 8) [(0, .ref 0), (1, .int a1), (2, .int a2), (3, .int a3), (4, .int a4), (5, .ref 122)] [.int b2, .int b1, .ref 122] (zmk I J X) = if zix 2 1 2 b1 then
  some (.inr (.inr (some (.int (0 : Int32))), zmk I (zup J 122 b1.toNatClampNeg b2.toInt64) X))
  else none := by
  refine zite_congr ?_ ?_
  · rfl
  · rfl
/-! 226 TollTagsLaw.due (LTollTags;IIII[J)I -/
theorem S226_0 (xs : Nat → Int32) (L d : Nat) (I : Nat → Nat → Int32) (J : Nat → Nat → Int64) (X : XH) (a1 : Int32) (a2 : Int32) (a3 : Int32) (a4 : Int32) : zseg (zE xs L (d + 5) 226) (zC 226) 700 (zC 226 0) [(0, .ref 0), (1, .int a1), (2, .int a2), (3, .int a3), (4, .int a4), (5, .ref 122)] [] (zmk I J X) = zcl (zE xs L (d + 5) 226) (zev xs L (d + 5) 129 [.ref 0, .int a1, .int a2, .int a3, .int a4] (zmk I J X)) (fun r h => zseg (zE xs L (d + 5) 226) (zC 226) 692 (zB226_0.drop 8) [(0, .ref 0), (1, .int a1), (2, .int a2), (3, .int a3), (4, .int a4), (5, .ref 122)] [.long r, .int (0 : Int32), .ref 122] h) := by
  rfl
theorem T226_0_8_692 (xs : Nat → Int32) (L d : Nat) (I : Nat → Nat → Int32) (J : Nat → Nat → Int64) (X : XH) (a1 : Int32) (a2 : Int32) (a3 : Int32) (a4 : Int32) (b1 : Int32) (b2 : Int64) : zseg (zE xs L (d + 5) 226) (zC 226) 692 (zB226_0.drop 8) [(0, .ref 0), (1, .int a1), (2, .int a2), (3, .int a3), (4, .int a4), (5, .ref 122)] [.long b2, .int b1, .ref 122] (zmk I J X) = if zix 2 1 2 b1 then
  some (.inr (.inr (some (.int (0 : Int32))), zmk I (zup J 122 b1.toNatClampNeg b2) X))
  else none := by
  refine zite_congr ?_ ?_
  · rfl
  · rfl
/-! 227 TollTagsLaw.unpaid (LTollTags;III[J)I -/
theorem S227_0 (xs : Nat → Int32) (L d : Nat) (I : Nat → Nat → Int32) (J : Nat → Nat → Int64) (X : XH) (a1 : Int32) (a2 : Int32) (a3 : Int32) : zseg (zE xs L (d + 5) 227) (zC 227) 700 (zC 227 0) [(0, .ref 0), (1, .int a1), (2, .int a2), (3, .int a3), (4, .ref 122)] [] (zmk I J X) = zci (zE xs L (d + 5) 227) (zev xs L (d + 5) 133 [.ref 0, .int a1, .int a2, .int a3] (zmk I J X)) (fun r h => zseg (zE xs L (d + 5) 227) (zC 227) 693 (zB227_0.drop 7) [(0, .ref 0), (1, .int a1), (2, .int a2), (3, .int a3), (4, .ref 122)] [.int r, .int (0 : Int32), .ref 122] h) := by
  rfl
theorem T227_0_7_693 (xs : Nat → Int32) (L d : Nat) (I : Nat → Nat → Int32) (J : Nat → Nat → Int64) (X : XH) (a1 : Int32) (a2 : Int32) (a3 : Int32) (b1 : Int32) (b2 : Int32) : zseg (zE xs L (d + 5) 227) (zC 227) 693 (zB227_0.drop 7) [(0, .ref 0), (1, .int a1), (2, .int a2), (3, .int a3), (4, .ref 122)] [.int b2, .int b1, .ref 122] (zmk I J X) = if zix 2 1 2 b1 then
  some (.inr (.inr (some (.int (0 : Int32))), zmk I (zup J 122 b1.toNatClampNeg b2.toInt64) X))
  else none := by
  refine zite_congr ?_ ?_
  · rfl
  · rfl
/-! 228 TollTagsLaw.falls (LTollTags;III[J)I -/
theorem S228_0 (xs : Nat → Int32) (L d : Nat) (I : Nat → Nat → Int32) (J : Nat → Nat → Int64) (X : XH) (a1 : Int32) (a2 : Int32) (a3 : Int32) : zseg (zE xs L (d + 5) 228) (zC 228) 700 (zC 228 0) [(0, .ref 0), (1, .int a1), (2, .int a2), (3, .int a3), (4, .ref 122)] [] (zmk I J X) = zcl (zE xs L (d + 5) 228) (zev xs L (d + 5) 134 [.ref 0, .int a1, .int a2, .int a3] (zmk I J X)) (fun r h => zseg (zE xs L (d + 5) 228) (zC 228) 693 (zB228_0.drop 7) [(0, .ref 0), (1, .int a1), (2, .int a2), (3, .int a3), (4, .ref 122)] [.long r, .int (0 : Int32), .ref 122] h) := by
  rfl
theorem T228_0_7_693 (xs : Nat → Int32) (L d : Nat) (I : Nat → Nat → Int32) (J : Nat → Nat → Int64) (X : XH) (a1 : Int32) (a2 : Int32) (a3 : Int32) (b1 : Int32) (b2 : Int64) : zseg (zE xs L (d + 5) 228) (zC 228) 693 (zB228_0.drop 7) [(0, .ref 0), (1, .int a1), (2, .int a2), (3, .int a3), (4, .ref 122)] [.long b2, .int b1, .ref 122] (zmk I J X) = if zix 2 1 2 b1 then
  some (.inr (.inr (some (.int (0 : Int32))), zmk I (zup J 122 b1.toNatClampNeg b2) X))
  else none := by
  refine zite_congr ?_ ?_
  · rfl
  · rfl
/-! 229 TollTagsLaw.way (LTollTags;IJI[J)I -/
theorem S229_0 (xs : Nat → Int32) (L d : Nat) (I : Nat → Nat → Int32) (J : Nat → Nat → Int64) (X : XH) (a1 : Int32) (a2 : Int64) (a4 : Int32) : zseg (zE xs L (d + 5) 229) (zC 229) 700 (zC 229 0) [(0, .ref 0), (1, .int a1), (2, .long a2), (4, .int a4), (5, .ref 122)] [] (zmk I J X) = zci (zE xs L (d + 5) 229) (zev xs L (d + 5) 135 [.ref 0, .int a1, .long a2, .int a4] (zmk I J X)) (fun r h => zseg (zE xs L (d + 5) 229) (zC 229) 693 (zB229_0.drop 7) [(0, .ref 0), (1, .int a1), (2, .long a2), (4, .int a4), (5, .ref 122)] [.int r, .int (0 : Int32), .ref 122] h) := by
  rfl
theorem T229_0_7_693 (xs : Nat → Int32) (L d : Nat) (I : Nat → Nat → Int32) (J : Nat → Nat → Int64) (X : XH) (a1 : Int32) (a2 : Int64) (a4 : Int32) (b1 : Int32) (b2 : Int32) : zseg (zE xs L (d + 5) 229) (zC 229) 693 (zB229_0.drop 7) [(0, .ref 0), (1, .int a1), (2, .long a2), (4, .int a4), (5, .ref 122)] [.int b2, .int b1, .ref 122] (zmk I J X) = if zix 2 1 2 b1 then
  some (.inr (.inr (some (.int (0 : Int32))), zmk I (zup J 122 b1.toNatClampNeg b2.toInt64) X))
  else none := by
  refine zite_congr ?_ ?_
  · rfl
  · rfl
/-! 230 TollTagsLaw.cameras (LTollTags;I[J)I -/
theorem S230_0 (xs : Nat → Int32) (L d : Nat) (I : Nat → Nat → Int32) (J : Nat → Nat → Int64) (X : XH) (a1 : Int32) : zseg (zE xs L (d + 5) 230) (zC 230) 700 (zC 230 0) [(0, .ref 0), (1, .int a1), (2, .ref 122)] [] (zmk I J X) = zci (zE xs L (d + 5) 230) (zev xs L (d + 5) 136 [.ref 0, .int a1] (zmk I J X)) (fun r h => zseg (zE xs L (d + 5) 230) (zC 230) 695 (zB230_0.drop 5) [(0, .ref 0), (1, .int a1), (2, .ref 122)] [.int r, .int (0 : Int32), .ref 122] h) := by
  rfl
theorem T230_0_5_695 (xs : Nat → Int32) (L d : Nat) (I : Nat → Nat → Int32) (J : Nat → Nat → Int64) (X : XH) (a1 : Int32) (b1 : Int32) (b2 : Int32) : zseg (zE xs L (d + 5) 230) (zC 230) 695 (zB230_0.drop 5) [(0, .ref 0), (1, .int a1), (2, .ref 122)] [.int b2, .int b1, .ref 122] (zmk I J X) = if zix 2 1 2 b1 then
  some (.inr (.inr (some (.int (0 : Int32))), zmk I (zup J 122 b1.toNatClampNeg b2.toInt64) X))
  else none := by
  refine zite_congr ?_ ?_
  · rfl
  · rfl
/-! 231 TollTagsLaw.attempt (LTollTags;III[J)I -/
theorem S231_0 (xs : Nat → Int32) (L d : Nat) (I : Nat → Nat → Int32) (J : Nat → Nat → Int64) (X : XH) (a1 : Int32) (a2 : Int32) (a3 : Int32) : zseg (zE xs L (d + 5) 231) (zC 231) 700 (zC 231 0) [(0, .ref 0), (1, .int a1), (2, .int a2), (3, .int a3), (4, .ref 122)] [] (zmk I J X) = zci (zE xs L (d + 5) 231) (zev xs L (d + 5) 137 [.ref 0, .int a1, .int a2, .int a3] (zmk I J X)) (fun r h => zseg (zE xs L (d + 5) 231) (zC 231) 693 (zB231_0.drop 7) [(0, .ref 0), (1, .int a1), (2, .int a2), (3, .int a3), (4, .ref 122)] [.int r, .int (0 : Int32), .ref 122] h) := by
  rfl
theorem T231_0_7_693 (xs : Nat → Int32) (L d : Nat) (I : Nat → Nat → Int32) (J : Nat → Nat → Int64) (X : XH) (a1 : Int32) (a2 : Int32) (a3 : Int32) (b1 : Int32) (b2 : Int32) : zseg (zE xs L (d + 5) 231) (zC 231) 693 (zB231_0.drop 7) [(0, .ref 0), (1, .int a1), (2, .int a2), (3, .int a3), (4, .ref 122)] [.int b2, .int b1, .ref 122] (zmk I J X) = if zix 2 1 2 b1 then
  some (.inr (.inr (some (.int (0 : Int32))), zmk I (zup J 122 b1.toNatClampNeg b2.toInt64) X))
  else none := by
  refine zite_congr ?_ ?_
  · rfl
  · rfl
/-! 232 TollTagsLaw.count (LTollTags;I[J)I -/
theorem S232_0 (xs : Nat → Int32) (L d : Nat) (I : Nat → Nat → Int32) (J : Nat → Nat → Int64) (X : XH) (a1 : Int32) : zseg (zE xs L (d + 5) 232) (zC 232) 700 (zC 232 0) [(0, .ref 0), (1, .int a1), (2, .ref 122)] [] (zmk I J X) = zci (zE xs L (d + 5) 232) (zev xs L (d + 5) 139 [.ref 0, .int a1] (zmk I J X)) (fun r h => zseg (zE xs L (d + 5) 232) (zC 232) 695 (zB232_0.drop 5) [(0, .ref 0), (1, .int a1), (2, .ref 122)] [.int r, .int (0 : Int32), .ref 122] h) := by
  rfl
theorem T232_0_5_695 (xs : Nat → Int32) (L d : Nat) (I : Nat → Nat → Int32) (J : Nat → Nat → Int64) (X : XH) (a1 : Int32) (b1 : Int32) (b2 : Int32) : zseg (zE xs L (d + 5) 232) (zC 232) 695 (zB232_0.drop 5) [(0, .ref 0), (1, .int a1), (2, .ref 122)] [.int b2, .int b1, .ref 122] (zmk I J X) = if zix 2 1 2 b1 then
  some (.inr (.inr (some (.int (0 : Int32))), zmk I (zup J 122 b1.toNatClampNeg b2.toInt64) X))
  else none := by
  refine zite_congr ?_ ?_
  · rfl
  · rfl
