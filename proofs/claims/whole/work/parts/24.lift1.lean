/-! What the stretches answer: each by rfl. Written by program (wip/whole/lift.py). -/
/-! 2 Book.tell (ILTollTags$Tariff;)V -/
theorem S2_0 (xs : Nat → Int32) (L d : Nat) (I : Nat → Nat → Int32) (J : Nat → Nat → Int64) (X : XH) (a1 : Int32) (a2 : Nat) : zseg (zE xs L (d + 5) 2) (zC 2) 700 (zC 2 0) [(0, .ref 15), (1, .int a1), (2, .ref a2)] [] (zmk I J X) = zcw (zE xs L (d + 5) 2) (zev xs L (d + 5) 3 [.ref 15, .int ((a1 * (5 : Int32)) + (zat I 19 9 a1)), .ref a2] (zmk I J X)) (fun h => zseg (zE xs L (d + 5) 2) (zC 2) 689 (zB2_0.drop 11) [(0, .ref 15), (1, .int a1), (2, .ref a2)] [] h) := by
  rfl
theorem T2_0_11_689 (xs : Nat → Int32) (L d : Nat) (I : Nat → Nat → Int32) (J : Nat → Nat → Int64) (X : XH) (a1 : Int32) (a2 : Nat) : zseg (zE xs L (d + 5) 2) (zC 2) 689 (zB2_0.drop 11) [(0, .ref 15), (1, .int a1), (2, .ref a2)] [] (zmk I J X) = some (.inr (.inr none, zmk (zput I 19 9 a1 ((zat I 19 9 a1) + (1 : Int32))) J X)) := by
  rfl
/-! 3 Book.set (ILTollTags$Tariff;)V -/
/-! 4 Book.find (III)LTollTags$Tariff; -/
theorem S4_0 (xs : Nat → Int32) (L d : Nat) (I : Nat → Nat → Int32) (J : Nat → Nat → Int64) (X : XH) (a1 : Int32) (a2 : Int32) (a3 : Int32) : zseg (zE xs L (d + 5) 4) (zC 4) 700 (zC 4 0) [(0, .ref 15), (1, .int a1), (2, .int a2), (3, .int a3)] [] (zmk I J X) = some (.inl (2, [(0, .ref 15), (1, .int a1), (2, .int a2), (3, .int a3), (4, .ref 16), (5, .int (zat I 19 9 a1)), (6, .int (0 : Int32))], zmk I J X)) := by
  rfl
theorem S4_2 (xs : Nat → Int32) (L d : Nat) (I : Nat → Nat → Int32) (J : Nat → Nat → Int64) (X : XH) (a1 : Int32) (a2 : Int32) (a3 : Int32) (a4 : Nat) (a5 : Int32) (a6 : Int32) : zseg (zE xs L (d + 5) 4) (zC 4) 700 (zC 4 2) [(0, .ref 15), (1, .int a1), (2, .int a2), (3, .int a3), (4, .ref a4), (5, .int a5), (6, .int a6)] [] (zmk I J X) = if decide (a5 ≤ a6) = true then
  some (.inr (.inr (some (.ref a4)), zmk I J X))
  else zcr (zE xs L (d + 5) 4) (zev xs L (d + 5) 5 [.ref 15, .int ((a1 * (5 : Int32)) + a6)] (zmk I J X)) (fun r h => zseg (zE xs L (d + 5) 4) (zC 4) 690 (zB4_2.drop 10) [(0, .ref 15), (1, .int a1), (2, .int a2), (3, .int a3), (4, .ref a4), (5, .int a5), (6, .int a6)] [.ref r] h) (fun h => zseg (zE xs L (d + 5) 4) (zC 4) 690 (zB4_2.drop 10) [(0, .ref 15), (1, .int a1), (2, .int a2), (3, .int a3), (4, .ref a4), (5, .int a5), (6, .int a6)] [.null] h) := by
  refine zite_congr ?_ ?_
  · rfl
  · rfl
theorem T4_2_10_690 (xs : Nat → Int32) (L d : Nat) (I : Nat → Nat → Int32) (J : Nat → Nat → Int64) (X : XH) (a1 : Int32) (a2 : Int32) (a3 : Int32) (a4 : Nat) (a5 : Int32) (a6 : Int32) (b0 : Nat) : zseg (zE xs L (d + 5) 4) (zC 4) 690 (zB4_2.drop 10) [(0, .ref 15), (1, .int a1), (2, .int a2), (3, .int a3), (4, .ref a4), (5, .int a5), (6, .int a6)] [.ref b0] (zmk I J X) = if hK (zmk I J X) b0 = (18, 0) then
  if decide (a3 < (I b0 1)) = true then
    some (.inl (2, [(0, .ref 15), (1, .int a1), (2, .int a2), (3, .int a3), (4, .ref a4), (5, .int a5), (6, .int (a6 + (1 : Int32)))], zmk I J X))
    else if hK (zmk I J X) b0 = (18, 0) then
      if decide (a2 < (I b0 0)) = true then
        some (.inl (2, [(0, .ref 15), (1, .int a1), (2, .int a2), (3, .int a3), (4, .ref a4), (5, .int a5), (6, .int (a6 + (1 : Int32)))], zmk I J X))
        else if hK (zmk I J X) b0 = (18, 0) then
          if hK (zmk I J X) a4 = (18, 0) then
            if decide ((I b0 0) < (I a4 0)) = true then
              some (.inl (2, [(0, .ref 15), (1, .int a1), (2, .int a2), (3, .int a3), (4, .ref a4), (5, .int a5), (6, .int (a6 + (1 : Int32)))], zmk I J X))
              else some (.inl (2, [(0, .ref 15), (1, .int a1), (2, .int a2), (3, .int a3), (4, .ref b0), (5, .int a5), (6, .int (a6 + (1 : Int32)))], zmk I J X))
            else none
          else none
      else none
  else none := by
  refine zite_congr ?_ ?_
  · refine zite_congr ?_ ?_
    · rfl
    · refine zite_congr ?_ ?_
      · refine zite_congr ?_ ?_
        · rfl
        · refine zite_congr ?_ ?_
          · refine zite_congr ?_ ?_
            · refine zite_congr ?_ ?_
              · rfl
              · rfl
            · rfl
          · rfl
      · rfl
  · rfl
theorem T4_2_10_690_1 (xs : Nat → Int32) (L d : Nat) (I : Nat → Nat → Int32) (J : Nat → Nat → Int64) (X : XH) (a1 : Int32) (a2 : Int32) (a3 : Int32) (a4 : Nat) (a5 : Int32) (a6 : Int32) : zseg (zE xs L (d + 5) 4) (zC 4) 690 (zB4_2.drop 10) [(0, .ref 15), (1, .int a1), (2, .int a2), (3, .int a3), (4, .ref a4), (5, .int a5), (6, .int a6)] [.null] (zmk I J X) = none := by
  rfl
/-! 5 Book.get (I)LTollTags$Tariff; -/
/-! 6 Book.takeBackLast (I)V -/
theorem S6_0 (xs : Nat → Int32) (L d : Nat) (I : Nat → Nat → Int32) (J : Nat → Nat → Int64) (X : XH) (a1 : Int32) : zseg (zE xs L (d + 5) 6) (zC 6) 700 (zC 6 0) [(0, .ref 15), (1, .int a1)] [] (zmk I J X) = zcw (zE xs L (d + 5) 6) (zev xs L (d + 5) 3 [.ref 15, .int ((a1 * (5 : Int32)) + (zat (zput I 19 9 a1 ((zat I 19 9 a1) - (1 : Int32))) 19 9 a1)), .null] (zmk (zput I 19 9 a1 ((zat I 19 9 a1) - (1 : Int32))) J X)) (fun h => zseg (zE xs L (d + 5) 6) (zC 6) 679 (zB6_0.drop 21) [(0, .ref 15), (1, .int a1)] [] h) := by
  rfl
theorem T6_0_21_679 (xs : Nat → Int32) (L d : Nat) (I : Nat → Nat → Int32) (J : Nat → Nat → Int64) (X : XH) (a1 : Int32) : zseg (zE xs L (d + 5) 6) (zC 6) 679 (zB6_0.drop 21) [(0, .ref 15), (1, .int a1)] [] (zmk I J X) = some (.inr (.inr none, zmk I J X)) := by
  rfl
/-! 8 Disputes.add (I)I -/
theorem S8_0 (xs : Nat → Int32) (L d : Nat) (I : Nat → Nat → Int32) (J : Nat → Nat → Int64) (X : XH) (a1 : Int32) : zseg (zE xs L (d + 5) 8) (zC 8) 700 (zC 8 0) [(0, .ref 20), (1, .int a1)] [] (zmk I J X) = if decide ((I 20 0) < (40 : Int32)) = true then
  some (.inr (.inr (some (.int (I 20 0))), zmk (zup (zput (zput I 21 40 (I 20 0) a1) 22 40 (I 20 0) (-1 : Int32)) 20 0 ((I 20 0) + (1 : Int32))) J X))
  else some (.inr (.inr (some (.int (-1 : Int32))), zmk I J X)) := by
  refine zite_congr ?_ ?_
  · rfl
  · rfl
/-! 9 Disputes.settle (IIII)Z -/
theorem S9_0 (xs : Nat → Int32) (L d : Nat) (I : Nat → Nat → Int32) (J : Nat → Nat → Int64) (X : XH) (a1 : Int32) (a2 : Int32) (a3 : Int32) (a4 : Int32) : zseg (zE xs L (d + 5) 9) (zC 9) 700 (zC 9 0) [(0, .ref 20), (1, .int a1), (2, .int a2), (3, .int a3), (4, .int a4)] [] (zmk I J X) = if decide ((zat I 22 40 a1) = (-1 : Int32)) = true then
  some (.inr (.inr (some (.int (1 : Int32))), zmk (zup (zput (zput (zput (zput I 22 40 a1 a4) 23 40 a1 a2) 24 40 a1 a3) 25 40 (I 20 1) a1) 20 1 ((I 20 1) + (1 : Int32))) J X))
  else some (.inr (.inr (some (.int (0 : Int32))), zmk I J X)) := by
  refine zite_congr ?_ ?_
  · rfl
  · rfl
/-! 10 Disputes.overrule ([II)V -/
theorem S10_0 (xs : Nat → Int32) (L d : Nat) (I : Nat → Nat → Int32) (J : Nat → Nat → Int64) (X : XH) (a2 : Int32) : zseg (zE xs L (d + 5) 10) (zC 10) 700 (zC 10 0) [(0, .ref 20), (1, .ref 33), (2, .int a2)] [] (zmk I J X) = some (.inl (2, [(0, .ref 20), (1, .ref 33), (2, .int a2), (3, .int (0 : Int32))], zmk I J X)) := by
  rfl
theorem S10_2 (xs : Nat → Int32) (L d : Nat) (I : Nat → Nat → Int32) (J : Nat → Nat → Int64) (X : XH) (a2 : Int32) (a3 : Int32) : zseg (zE xs L (d + 5) 10) (zC 10) 700 (zC 10 2) [(0, .ref 20), (1, .ref 33), (2, .int a2), (3, .int a3)] [] (zmk I J X) = if decide ((I 20 1) ≤ a3) = true then
  some (.inr (.inr none, zmk I J X))
  else if decide (a2 < (zat I 22 40 (zat I 25 40 a3))) = true then
    some (.inl (2, [(0, .ref 20), (1, .ref 33), (2, .int a2), (3, .int (a3 + (1 : Int32)))], zmk I J X))
    else if decide ((zat I 23 40 (zat I 25 40 a3)) = 0) = true then
      some (.inl (2, [(0, .ref 20), (1, .ref 33), (2, .int a2), (3, .int (a3 + (1 : Int32)))], zmk I J X))
      else if decide (¬ (zat I 23 40 (zat I 25 40 a3)) = (2 : Int32)) = true then
        some (.inl (2, [(0, .ref 20), (1, .ref 33), (2, .int a2), (3, .int (a3 + (1 : Int32)))], zmk (zput I 33 300 (zat I 21 40 (zat I 25 40 a3)) (-1 : Int32)) J X))
        else some (.inl (2, [(0, .ref 20), (1, .ref 33), (2, .int a2), (3, .int (a3 + (1 : Int32)))], zmk (zput I 33 300 (zat I 21 40 (zat I 25 40 a3)) (zat I 24 40 (zat I 25 40 a3))) J X)) := by
  refine zite_congr ?_ ?_
  · rfl
  · refine zite_congr ?_ ?_
    · rfl
    · refine zite_congr ?_ ?_
      · rfl
      · refine zite_congr ?_ ?_
        · rfl
        · rfl
/-! 12 Fleet.addProvider (I)I -/
theorem S12_0 (xs : Nat → Int32) (L d : Nat) (I : Nat → Nat → Int32) (J : Nat → Nat → Int64) (X : XH) (a1 : Int32) : zseg (zE xs L (d + 5) 12) (zC 12) 700 (zC 12 0) [(0, .ref 9), (1, .int a1)] [] (zmk I J X) = if decide ((6 : Int32) ≤ (I 9 0)) = true then
  some (.inr (.inr (some (.int (-1 : Int32))), zmk I J X))
  else if decide (¬ (zbi (¬ a1 < (0 : Int32) ∧ ¬ (1000000 : Int32) < a1)) = 0) = true then
    some (.inr (.inr (some (.int (I 9 0))), zmk (zup (zput I 10 6 (I 9 0) a1) 9 0 ((I 9 0) + (1 : Int32))) J X))
    else some (.inr (.inr (some (.int (-1 : Int32))), zmk I J X)) := by
  refine zite_congr ?_ ?_
  · rfl
  · refine zite_congr ?_ ?_
    · rfl
    · rfl
/-! 13 Fleet.addLorry (II)I -/
theorem S13_0 (xs : Nat → Int32) (L d : Nat) (I : Nat → Nat → Int32) (J : Nat → Nat → Int64) (X : XH) (a1 : Int32) (a2 : Int32) : zseg (zE xs L (d + 5) 13) (zC 13) 700 (zC 13 0) [(0, .ref 9), (1, .int a1), (2, .int a2)] [] (zmk I J X) = if decide ((16 : Int32) ≤ (I 9 1)) = true then
  some (.inr (.inr (some (.int (-1 : Int32))), zmk I J X))
  else if decide ((zbi (¬ a1 < (2 : Int32) ∧ ¬ (9 : Int32) < a1)) = 0) = true then
    some (.inr (.inr (some (.int (-1 : Int32))), zmk I J X))
    else if decide (¬ (zbi (¬ a2 < (0 : Int32) ∧ ¬ (6 : Int32) < a2)) = 0) = true then
      some (.inr (.inr (some (.int (I 9 1))), zmk (zup (zput (zput I 11 16 (I 9 1) a1) 12 16 (I 9 1) a2) 9 1 ((I 9 1) + (1 : Int32))) J X))
      else some (.inr (.inr (some (.int (-1 : Int32))), zmk I J X)) := by
  refine zite_congr ?_ ?_
  · rfl
  · refine zite_congr ?_ ?_
    · rfl
    · refine zite_congr ?_ ?_
      · rfl
      · rfl
/-! 14 Fleet.addBox (II)I -/
theorem S14_0 (xs : Nat → Int32) (L d : Nat) (I : Nat → Nat → Int32) (J : Nat → Nat → Int64) (X : XH) (a1 : Int32) (a2 : Int32) : zseg (zE xs L (d + 5) 14) (zC 14) 700 (zC 14 0) [(0, .ref 9), (1, .int a1), (2, .int a2)] [] (zmk I J X) = if decide ((I 9 2) < (24 : Int32)) = true then
  some (.inr (.inr (some (.int (I 9 2))), zmk (zup (zput (zput I 13 24 (I 9 2) a1) 14 24 (I 9 2) a2) 9 2 ((I 9 2) + (1 : Int32))) J X))
  else some (.inr (.inr (some (.int (-1 : Int32))), zmk I J X)) := by
  refine zite_congr ?_ ?_
  · rfl
  · rfl
/-! 21 Ledger.addUp (II)V -/
theorem S21_0 (xs : Nat → Int32) (L d : Nat) (I : Nat → Nat → Int32) (J : Nat → Nat → Int64) (X : XH) (a1 : Int32) (a2 : Int32) : zseg (zE xs L (d + 5) 21) (zC 21) 700 (zC 21 0) [(0, .ref 53), (1, .int a1), (2, .int a2)] [] (zmk I J X) = zqv (zev xs L (d + 5) 235 [.ref 54, .long (Int64.ofNat 0)] (zmk I J X)) (fun h => zseg (zE xs L (d + 5) 21) (zC 21) 696 (zB21_0.drop 4) [(0, .ref 53), (1, .int a1), (2, .int a2)] [] h) := by
  rfl
theorem T21_0_4_696 (xs : Nat → Int32) (L d : Nat) (I : Nat → Nat → Int32) (J : Nat → Nat → Int64) (X : XH) (a1 : Int32) (a2 : Int32) : zseg (zE xs L (d + 5) 21) (zC 21) 696 (zB21_0.drop 4) [(0, .ref 53), (1, .int a1), (2, .int a2)] [] (zmk I J X) = zqv (zev xs L (d + 5) 235 [.ref 55, .long (Int64.ofNat 0)] (zmk I J X)) (fun h => zseg (zE xs L (d + 5) 21) (zC 21) 692 (zB21_0.drop 8) [(0, .ref 53), (1, .int a1), (2, .int a2)] [] h) := by
  rfl
theorem T21_0_8_692 (xs : Nat → Int32) (L d : Nat) (I : Nat → Nat → Int32) (J : Nat → Nat → Int64) (X : XH) (a1 : Int32) (a2 : Int32) : zseg (zE xs L (d + 5) 21) (zC 21) 692 (zB21_0.drop 8) [(0, .ref 53), (1, .int a1), (2, .int a2)] [] (zmk I J X) = some (.inl (2, [(0, .ref 53), (1, .int a1), (2, .int a2), (3, .int (0 : Int32))], zmk I J X)) := by
  rfl
theorem S21_2 (xs : Nat → Int32) (L d : Nat) (I : Nat → Nat → Int32) (J : Nat → Nat → Int64) (X : XH) (a1 : Int32) (a2 : Int32) (a3 : Int32) : zseg (zE xs L (d + 5) 21) (zC 21) 700 (zC 21 2) [(0, .ref 53), (1, .int a1), (2, .int a2), (3, .int a3)] [] (zmk I J X) = if decide ((I 9 2) ≤ a3) = true then
  some (.inr (.inr none, zmk I J X))
  else zcw (zE xs L (d + 5) 21) (zev xs L (d + 5) 82 [.ref 49, .int a3, .int a2] (zmk I J X)) (fun h => zseg (zE xs L (d + 5) 21) (zC 21) 690 (zB21_2.drop 10) [(0, .ref 53), (1, .int a1), (2, .int a2), (3, .int a3)] [] h) := by
  refine zite_congr ?_ ?_
  · rfl
  · rfl
theorem T21_2_10_690 (xs : Nat → Int32) (L d : Nat) (I : Nat → Nat → Int32) (J : Nat → Nat → Int64) (X : XH) (a1 : Int32) (a2 : Int32) (a3 : Int32) : zseg (zE xs L (d + 5) 21) (zC 21) 690 (zB21_2.drop 10) [(0, .ref 53), (1, .int a1), (2, .int a2), (3, .int a3)] [] (zmk I J X) = if decide (a1 = (-1 : Int32)) = true then
  some (.inl (8, [(0, .ref 53), (1, .int a1), (2, .int a2), (3, .int a3), (4, .int (1 : Int32)), (5, .int (0 : Int32))], zmk I J X))
  else if decide (¬ (zat I 14 24 a3) = a1) = true then
    some (.inl (8, [(0, .ref 53), (1, .int a1), (2, .int a2), (3, .int a3), (4, .int (0 : Int32)), (5, .int (0 : Int32))], zmk I J X))
    else some (.inl (8, [(0, .ref 53), (1, .int a1), (2, .int a2), (3, .int a3), (4, .int (1 : Int32)), (5, .int (0 : Int32))], zmk I J X)) := by
  refine zite_congr ?_ ?_
  · rfl
  · refine zite_congr ?_ ?_
    · rfl
    · rfl
theorem S21_8 (xs : Nat → Int32) (L d : Nat) (I : Nat → Nat → Int32) (J : Nat → Nat → Int64) (X : XH) (a1 : Int32) (a2 : Int32) (a3 : Int32) (a4 : Int32) (a5 : Int32) : zseg (zE xs L (d + 5) 21) (zC 21) 700 (zC 21 8) [(0, .ref 53), (1, .int a1), (2, .int a2), (3, .int a3), (4, .int a4), (5, .int a5)] [] (zmk I J X) = if decide ((7200 : Int32) ≤ a5) = true then
  some (.inl (2, [(0, .ref 53), (1, .int a1), (2, .int a2), (3, .int (a3 + (1 : Int32)))], zmk I J X))
  else if decide (a4 = 0) = true then
    some (.inl (2, [(0, .ref 53), (1, .int a1), (2, .int a2), (3, .int (a3 + (1 : Int32)))], zmk I J X))
    else zci (zE xs L (d + 5) 21) (zev xs L (d + 5) 83 [.ref 49] (zmk I J X)) (fun r h => zseg (zE xs L (d + 5) 21) (zC 21) 692 (zB21_8.drop 8) [(0, .ref 53), (1, .int a1), (2, .int a2), (3, .int a3), (4, .int a4), (5, .int a5)] [.int r] h) := by
  refine zite_congr ?_ ?_
  · rfl
  · refine zite_congr ?_ ?_
    · rfl
    · rfl
theorem T21_8_8_692 (xs : Nat → Int32) (L d : Nat) (I : Nat → Nat → Int32) (J : Nat → Nat → Int64) (X : XH) (a1 : Int32) (a2 : Int32) (a3 : Int32) (a4 : Int32) (a5 : Int32) (b0 : Int32) : zseg (zE xs L (d + 5) 21) (zC 21) 692 (zB21_8.drop 8) [(0, .ref 53), (1, .int a1), (2, .int a2), (3, .int a3), (4, .int a4), (5, .int a5)] [.int b0] (zmk I J X) = if decide (b0 = 0) = true then
  some (.inl (2, [(0, .ref 53), (1, .int a1), (2, .int a2), (3, .int (a3 + (1 : Int32)))], zmk I J X))
  else zci (zE xs L (d + 5) 21) (zev xs L (d + 5) 89 [.ref 49] (zmk I J X)) (fun r h => zseg (zE xs L (d + 5) 21) (zC 21) 688 (zB21_8.drop 12) [(0, .ref 53), (1, .int a1), (2, .int a2), (3, .int a3), (4, .int a4), (5, .int a5)] [.int r] h) := by
  refine zite_congr ?_ ?_
  · rfl
  · rfl
theorem T21_8_12_688 (xs : Nat → Int32) (L d : Nat) (I : Nat → Nat → Int32) (J : Nat → Nat → Int64) (X : XH) (a1 : Int32) (a2 : Int32) (a3 : Int32) (a4 : Int32) (a5 : Int32) (b0 : Int32) : zseg (zE xs L (d + 5) 21) (zC 21) 688 (zB21_8.drop 12) [(0, .ref 53), (1, .int a1), (2, .int a2), (3, .int a3), (4, .int a4), (5, .int a5)] [.int b0] (zmk I J X) = if decide (b0 = 0) = true then
  zci (zE xs L (d + 5) 21) (zev xs L (d + 5) 88 [.ref 49] (zmk I J X)) (fun r h => zseg (zE xs L (d + 5) 21) (zC 21) 678 (zB21_11.drop 6) [(0, .ref 53), (1, .int a1), (2, .int a2), (3, .int a3), (4, .int a4), (5, .int a5)] [.int r, .int (((zat I 4 40 (I 49 13)) * (3 : Int32)) + ((I 49 14) / (43200 : Int32))), .ref 54] h)
  else zci (zE xs L (d + 5) 21) (zev xs L (d + 5) 88 [.ref 49] (zmk I J X)) (fun r h => zseg (zE xs L (d + 5) 21) (zC 21) 678 (zB21_11.drop 6) [(0, .ref 53), (1, .int a1), (2, .int a2), (3, .int a3), (4, .int a4), (5, .int a5)] [.int r, .int (((zat I 4 40 (I 49 13)) * (3 : Int32)) + ((I 49 14) / (43200 : Int32))), .ref 55] h) := by
  refine zite_congr ?_ ?_
  · rfl
  · rfl
theorem T21_11_6_678 (xs : Nat → Int32) (L d : Nat) (I : Nat → Nat → Int32) (J : Nat → Nat → Int64) (X : XH) (a1 : Int32) (a2 : Int32) (a3 : Int32) (a4 : Int32) (a5 : Int32) (b1 : Int32) (b2 : Int32) : zseg (zE xs L (d + 5) 21) (zC 21) 678 (zB21_11.drop 6) [(0, .ref 53), (1, .int a1), (2, .int a2), (3, .int a3), (4, .int a4), (5, .int a5)] [.int b2, .int b1, .ref 54] (zmk I J X) = some (.inl (8, [(0, .ref 53), (1, .int a1), (2, .int a2), (3, .int a3), (4, .int a4), (5, .int (a5 + (1 : Int32)))], zmk I (zlput J 54 27 b1 ((zlat J 54 27 b1) + b2.toInt64)) X)) := by
  rfl
theorem T21_11_6_678_6 (xs : Nat → Int32) (L d : Nat) (I : Nat → Nat → Int32) (J : Nat → Nat → Int64) (X : XH) (a1 : Int32) (a2 : Int32) (a3 : Int32) (a4 : Int32) (a5 : Int32) (b1 : Int32) (b2 : Int32) : zseg (zE xs L (d + 5) 21) (zC 21) 678 (zB21_11.drop 6) [(0, .ref 53), (1, .int a1), (2, .int a2), (3, .int a3), (4, .int a4), (5, .int a5)] [.int b2, .int b1, .ref 55] (zmk I J X) = some (.inl (8, [(0, .ref 53), (1, .int a1), (2, .int a2), (3, .int a3), (4, .int a4), (5, .int (a5 + (1 : Int32)))], zmk I (zlput J 55 27 b1 ((zlat J 55 27 b1) + b2.toInt64)) X)) := by
  rfl
/-! 23 Ledger.dueFor (III)J -/
theorem S23_0 (xs : Nat → Int32) (L d : Nat) (I : Nat → Nat → Int32) (J : Nat → Nat → Int64) (X : XH) (a1 : Int32) (a2 : Int32) (a3 : Int32) : zseg (zE xs L (d + 5) 23) (zC 23) 700 (zC 23 0) [(0, .ref 53), (1, .int a1), (2, .int a2), (3, .int a3)] [] (zmk I J X) = zci (zE xs L (d + 5) 23) (zev xs L (d + 5) 41 [.ref 44, .int ((a1 * (3 : Int32)) + a2), .int (0 : Int32), .int a3, .int (1000 : Int32)] (zmk I J X)) (fun r h => zseg (zE xs L (d + 5) 23) (zC 23) 683 (zB23_0.drop 17) [(4, .int ((a1 * (3 : Int32)) + a2)), (0, .ref 53), (1, .int a1), (2, .int a2), (3, .int a3)] [.int r, .long (zlat J 54 27 ((a1 * (3 : Int32)) + a2))] h) := by
  rfl
theorem T23_0_17_683 (xs : Nat → Int32) (L d : Nat) (I : Nat → Nat → Int32) (J : Nat → Nat → Int64) (X : XH) (a4 : Int32) (a1 : Int32) (a2 : Int32) (a3 : Int32) (b0 : Int64) (b1 : Int32) : zseg (zE xs L (d + 5) 23) (zC 23) 683 (zB23_0.drop 17) [(4, .int a4), (0, .ref 53), (1, .int a1), (2, .int a2), (3, .int a3)] [.int b1, .long b0] (zmk I J X) = some (.inr (.inr (some (.long ((b0 * b1.toInt64) / (Int64.ofNat 1000)))), zmk I J X)) := by
  rfl
/-! 24 Ledger.unpaidFor (II)I -/
theorem S24_0 (xs : Nat → Int32) (L d : Nat) (I : Nat → Nat → Int32) (J : Nat → Nat → Int64) (X : XH) (a1 : Int32) (a2 : Int32) : zseg (zE xs L (d + 5) 24) (zC 24) 700 (zC 24 0) [(0, .ref 53), (1, .int a1), (2, .int a2)] [] (zmk I J X) = some (.inr (.inr (some (.int ((zlat J 55 27 ((a1 * (3 : Int32)) + a2)).toInt32))), zmk I J X)) := by
  rfl
/-! 25 Ledger.shareOf (IJI)J -/
theorem S25_0 (xs : Nat → Int32) (L d : Nat) (I : Nat → Nat → Int32) (J : Nat → Nat → Int64) (X : XH) (a1 : Int32) (a2 : Int64) (a4 : Int32) : zseg (zE xs L (d + 5) 25) (zC 25) 700 (zC 25 0) [(0, .ref 53), (1, .int a1), (2, .long a2), (4, .int a4)] [] (zmk I J X) = zcl (zE xs L (d + 5) 25) (zev xs L (d + 5) 26 [.ref 53, .int a4] (zmk I J X)) (fun r h => zseg (zE xs L (d + 5) 25) (zC 25) 697 (zB25_0.drop 3) [(0, .ref 53), (1, .int a1), (2, .long a2), (4, .int a4)] [.long r] h) := by
  rfl
theorem T25_0_3_697 (xs : Nat → Int32) (L d : Nat) (I : Nat → Nat → Int32) (J : Nat → Nat → Int64) (X : XH) (a1 : Int32) (a2 : Int64) (a4 : Int32) (b0 : Int64) : zseg (zE xs L (d + 5) 25) (zC 25) 697 (zB25_0.drop 3) [(0, .ref 53), (1, .int a1), (2, .long a2), (4, .int a4)] [.long b0] (zmk I J X) = if decide ((lg_cmp b0 (Int64.ofNat 0)) ≤ 0) = true then
  some (.inr (.inr (some (.long (zlat J 56 9 a1))), zmk I J X))
  else if decide (0 < (lg_cmp b0 a2)) = true then
    if b0 = 0 then
      none
      else some (.inl (4, [(0, .ref 53), (1, .int a1), (2, .long a2), (4, .int a4), (5, .long b0), (7, .long (zlat J 56 9 a1)), (9, .long a2), (11, .int (0 : Int32)), (12, .long ((a2 * (zlat J 56 9 a1)) - (a2 * (zlat J 56 9 a1)) / b0 * b0)), (14, .int (0 : Int32))], zmk I J X))
    else some (.inr (.inr (some (.long (zlat J 56 9 a1))), zmk I J X)) := by
  refine zite_congr ?_ ?_
  · rfl
  · refine zite_congr ?_ ?_
    · refine zite_congr ?_ ?_
      · rfl
      · rfl
    · rfl
theorem S25_4 (xs : Nat → Int32) (L d : Nat) (I : Nat → Nat → Int32) (J : Nat → Nat → Int64) (X : XH) (a1 : Int32) (a2 : Int64) (a4 : Int32) (a5 : Int64) (a7 : Int64) (a9 : Int64) (a11 : Int32) (a12 : Int64) (a14 : Int32) : zseg (zE xs L (d + 5) 25) (zC 25) 700 (zC 25 4) [(0, .ref 53), (1, .int a1), (2, .long a2), (4, .int a4), (5, .long a5), (7, .long a7), (9, .long a9), (11, .int a11), (12, .long a12), (14, .int a14)] [] (zmk I J X) = if decide ((9 : Int32) ≤ a14) = true then
  if a5 = 0 then
    none
    else if decide (0 ≤ (lg_cmp a11.toInt64 a9)) = true then
      some (.inr (.inr (some (.long (((a2 * a7) / a5) + ((0 : Int32).toInt64)))), zmk I J X))
      else some (.inr (.inr (some (.long (((a2 * a7) / a5) + ((1 : Int32).toInt64)))), zmk I J X))
  else if a5 = 0 then
    none
    else if a5 = 0 then
      none
      else if decide (0 < (lg_cmp ((a2 * (zlat J 56 9 a14)) - (a2 * (zlat J 56 9 a14)) / a5 * a5) a12)) = true then
        some (.inl (4, [(0, .ref 53), (1, .int a1), (2, .long a2), (4, .int a4), (5, .long a5), (7, .long a7), (9, .long (a9 - ((a2 * (zlat J 56 9 a14)) / a5))), (11, .int (a11 + (1 : Int32))), (12, .long a12), (14, .int (a14 + (1 : Int32)))], zmk I J X))
        else if a5 = 0 then
          none
          else if decide (¬ (lg_cmp ((a2 * (zlat J 56 9 a14)) - (a2 * (zlat J 56 9 a14)) / a5 * a5) a12) = 0) = true then
            some (.inl (4, [(0, .ref 53), (1, .int a1), (2, .long a2), (4, .int a4), (5, .long a5), (7, .long a7), (9, .long (a9 - ((a2 * (zlat J 56 9 a14)) / a5))), (11, .int a11), (12, .long a12), (14, .int (a14 + (1 : Int32)))], zmk I J X))
            else if decide (a1 ≤ a14) = true then
              some (.inl (4, [(0, .ref 53), (1, .int a1), (2, .long a2), (4, .int a4), (5, .long a5), (7, .long a7), (9, .long (a9 - ((a2 * (zlat J 56 9 a14)) / a5))), (11, .int a11), (12, .long a12), (14, .int (a14 + (1 : Int32)))], zmk I J X))
              else some (.inl (4, [(0, .ref 53), (1, .int a1), (2, .long a2), (4, .int a4), (5, .long a5), (7, .long a7), (9, .long (a9 - ((a2 * (zlat J 56 9 a14)) / a5))), (11, .int (a11 + (1 : Int32))), (12, .long a12), (14, .int (a14 + (1 : Int32)))], zmk I J X)) := by
  refine zite_congr ?_ ?_
  · refine zite_congr ?_ ?_
    · rfl
    · refine zite_congr ?_ ?_
      · rfl
      · rfl
  · refine zite_congr ?_ ?_
    · rfl
    · refine zite_congr ?_ ?_
      · rfl
      · refine zite_congr ?_ ?_
        · rfl
        · refine zite_congr ?_ ?_
          · rfl
          · refine zite_congr ?_ ?_
            · rfl
            · refine zite_congr ?_ ?_
              · rfl
              · rfl
/-! 26 Ledger.addDebts (I)J -/
theorem S26_0 (xs : Nat → Int32) (L d : Nat) (I : Nat → Nat → Int32) (J : Nat → Nat → Int64) (X : XH) (a1 : Int32) : zseg (zE xs L (d + 5) 26) (zC 26) 700 (zC 26 0) [(0, .ref 53), (1, .int a1)] [] (zmk I J X) = some (.inl (2, [(0, .ref 53), (1, .int a1), (2, .long (Int64.ofNat 0)), (4, .int (0 : Int32))], zmk I J X)) := by
  rfl
theorem S26_2 (xs : Nat → Int32) (L d : Nat) (I : Nat → Nat → Int32) (J : Nat → Nat → Int64) (X : XH) (a1 : Int32) (a2 : Int64) (a4 : Int32) : zseg (zE xs L (d + 5) 26) (zC 26) 700 (zC 26 2) [(0, .ref 53), (1, .int a1), (2, .long a2), (4, .int a4)] [] (zmk I J X) = if decide ((9 : Int32) ≤ a4) = true then
  some (.inr (.inr (some (.long a2)), zmk I J X))
  else some (.inl (5, [(0, .ref 53), (1, .int a1), (2, .long a2), (4, .int a4), (5, .long (Int64.ofNat 0)), (7, .int (0 : Int32))], zmk I J X)) := by
  refine zite_congr ?_ ?_
  · rfl
  · rfl
theorem S26_5 (xs : Nat → Int32) (L d : Nat) (I : Nat → Nat → Int32) (J : Nat → Nat → Int64) (X : XH) (a1 : Int32) (a2 : Int64) (a4 : Int32) (a5 : Int64) (a7 : Int32) : zseg (zE xs L (d + 5) 26) (zC 26) 700 (zC 26 5) [(0, .ref 53), (1, .int a1), (2, .long a2), (4, .int a4), (5, .long a5), (7, .int a7)] [] (zmk I J X) = if decide ((3 : Int32) ≤ a7) = true then
  some (.inl (2, [(0, .ref 53), (1, .int a1), (2, .long (a2 + a5)), (4, .int (a4 + (1 : Int32)))], zmk I (zlput J 56 9 a4 a5) X))
  else zcl (zE xs L (d + 5) 26) (zev xs L (d + 5) 23 [.ref 53, .int a4, .int a7, .int a1] (zmk I J X)) (fun r h => zseg (zE xs L (d + 5) 26) (zC 26) 691 (zB26_5.drop 9) [(0, .ref 53), (1, .int a1), (2, .long a2), (4, .int a4), (5, .long a5), (7, .int a7)] [.long r, .long a5] h) := by
  refine zite_congr ?_ ?_
  · rfl
  · rfl
theorem T26_5_9_691 (xs : Nat → Int32) (L d : Nat) (I : Nat → Nat → Int32) (J : Nat → Nat → Int64) (X : XH) (a1 : Int32) (a2 : Int64) (a4 : Int32) (a5 : Int64) (a7 : Int32) (b0 : Int64) (b1 : Int64) : zseg (zE xs L (d + 5) 26) (zC 26) 691 (zB26_5.drop 9) [(0, .ref 53), (1, .int a1), (2, .long a2), (4, .int a4), (5, .long a5), (7, .int a7)] [.long b1, .long b0] (zmk I J X) = some (.inl (5, [(0, .ref 53), (1, .int a1), (2, .long a2), (4, .int a4), (5, .long (b0 + b1)), (7, .int (a7 + (1 : Int32)))], zmk I J X)) := by
  rfl
/-! 27 Ledger.chargesIn (I)I -/
theorem S27_0 (xs : Nat → Int32) (L d : Nat) (I : Nat → Nat → Int32) (J : Nat → Nat → Int64) (X : XH) (a1 : Int32) : zseg (zE xs L (d + 5) 27) (zC 27) 700 (zC 27 0) [(0, .ref 53), (1, .int a1)] [] (zmk I J X) = some (.inl (2, [(0, .ref 53), (1, .int a1), (2, .long (Int64.ofNat 0)), (4, .int (a1 * (3 : Int32)))], zmk I J X)) := by
  rfl
theorem S27_2 (xs : Nat → Int32) (L d : Nat) (I : Nat → Nat → Int32) (J : Nat → Nat → Int64) (X : XH) (a1 : Int32) (a2 : Int64) (a4 : Int32) : zseg (zE xs L (d + 5) 27) (zC 27) 700 (zC 27 2) [(0, .ref 53), (1, .int a1), (2, .long a2), (4, .int a4)] [] (zmk I J X) = if decide (((a1 + (1 : Int32)) * (3 : Int32)) ≤ a4) = true then
  some (.inr (.inr (some (.int a2.toInt32)), zmk I J X))
  else some (.inl (2, [(0, .ref 53), (1, .int a1), (2, .long (a2 + ((zlat J 54 27 a4) + (zlat J 55 27 a4)))), (4, .int (a4 + (1 : Int32)))], zmk I J X)) := by
  refine zite_congr ?_ ?_
  · rfl
  · rfl
/-! 29 Net.addLand ()I -/
theorem S29_0 (xs : Nat → Int32) (L d : Nat) (I : Nat → Nat → Int32) (J : Nat → Nat → Int64) (X : XH) : zseg (zE xs L (d + 5) 29) (zC 29) 700 (zC 29 0) [(0, .ref 1)] [] (zmk I J X) = if decide ((9 : Int32) ≤ (I 1 0)) = true then
  some (.inr (.inr (some (.int (-1 : Int32))), zmk I J X))
  else some (.inr (.inr (some (.int (I 1 0))), zmk (zup I 1 0 ((I 1 0) + (1 : Int32))) J X)) := by
  refine zite_congr ?_ ?_
  · rfl
  · rfl
/-! 30 Net.addRoad (IIIIIZ)I -/
theorem S30_0 (xs : Nat → Int32) (L d : Nat) (I : Nat → Nat → Int32) (J : Nat → Nat → Int64) (X : XH) (a1 : Int32) (a2 : Int32) (a3 : Int32) (a4 : Int32) (a5 : Int32) (a6 : Int32) : zseg (zE xs L (d + 5) 30) (zC 30) 700 (zC 30 0) [(0, .ref 1), (1, .int a1), (2, .int a2), (3, .int a3), (4, .int a4), (5, .int a5), (6, .int a6)] [] (zmk I J X) = if decide ((zbi (¬ a1 < (0 : Int32) ∧ ¬ (23 : Int32) < a1)) = 0) = true then
  some (.inr (.inr (some (.int (-1 : Int32))), zmk I J X))
  else if decide ((zbi (¬ a2 < (0 : Int32) ∧ ¬ (23 : Int32) < a2)) = 0) = true then
    some (.inr (.inr (some (.int (-1 : Int32))), zmk I J X))
    else if decide (a1 = a2) = true then
      some (.inr (.inr (some (.int (-1 : Int32))), zmk I J X))
      else if decide ((zbi (¬ a4 < (1 : Int32) ∧ ¬ (999 : Int32) < a4)) = 0) = true then
        some (.inr (.inr (some (.int (-1 : Int32))), zmk I J X))
        else if decide ((zbi (¬ a5 < (0 : Int32) ∧ ¬ (3 : Int32) < a5)) = 0) = true then
          some (.inr (.inr (some (.int (-1 : Int32))), zmk I J X))
          else if decide ((I 1 1) < (40 : Int32)) = true then
            if decide (a6 = 0) = true then
              if decide (¬ a6 = 0) = true then
                some (.inr (.inr (some (.int (I 1 1))), zmk (zup (zput (zput (zput (zput (zput (zput I 2 40 (I 1 1) a1) 3 40 (I 1 1) a2) 4 40 (I 1 1) a3) 5 40 (I 1 1) a4) 6 40 (I 1 1) a5) 7 40 (I 1 1) ((a4 * (64 : Int32)) + (1 : Int32))) 1 1 ((I 1 1) + (1 : Int32))) J X))
                else zcw (zE xs L (d + 5) 30) (zev xs L (d + 5) 31 [.ref 1, .int a1, .int a2, .int ((a4 * (64 : Int32)) + (1 : Int32))] (zmk (zput (zput (zput (zput (zput (zput I 2 40 (I 1 1) a1) 3 40 (I 1 1) a2) 4 40 (I 1 1) a3) 5 40 (I 1 1) a4) 6 40 (I 1 1) a5) 7 40 (I 1 1) ((a4 * (64 : Int32)) + (1 : Int32))) J X)) (fun h => zseg (zE xs L (d + 5) 30) (zC 30) 614 (zB30_6.drop 12) [(7, .int (1 : Int32)), (0, .ref 1), (1, .int a1), (2, .int a2), (3, .int a3), (4, .int a4), (5, .int a5), (6, .int a6)] [] h)
              else if decide (¬ a6 = 0) = true then
                some (.inr (.inr (some (.int (I 1 1))), zmk (zup (zput (zput (zput (zput (zput (zput I 2 40 (I 1 1) a1) 3 40 (I 1 1) a2) 4 40 (I 1 1) a3) 5 40 (I 1 1) a4) 6 40 (I 1 1) a5) 7 40 (I 1 1) (1000000000 : Int32)) 1 1 ((I 1 1) + (1 : Int32))) J X))
                else zcw (zE xs L (d + 5) 30) (zev xs L (d + 5) 31 [.ref 1, .int a1, .int a2, .int ((a4 * (64 : Int32)) + (1 : Int32))] (zmk (zput (zput (zput (zput (zput (zput I 2 40 (I 1 1) a1) 3 40 (I 1 1) a2) 4 40 (I 1 1) a3) 5 40 (I 1 1) a4) 6 40 (I 1 1) a5) 7 40 (I 1 1) (1000000000 : Int32)) J X)) (fun h => zseg (zE xs L (d + 5) 30) (zC 30) 618 (zB30_6.drop 12) [(7, .int (1 : Int32)), (0, .ref 1), (1, .int a1), (2, .int a2), (3, .int a3), (4, .int a4), (5, .int a5), (6, .int a6)] [] h)
            else some (.inr (.inr (some (.int (-1 : Int32))), zmk I J X)) := by
  refine zite_congr ?_ ?_
  · rfl
  · refine zite_congr ?_ ?_
    · rfl
    · refine zite_congr ?_ ?_
      · rfl
      · refine zite_congr ?_ ?_
        · rfl
        · refine zite_congr ?_ ?_
          · rfl
          · refine zite_congr ?_ ?_
            · refine zite_congr ?_ ?_
              · refine zite_congr ?_ ?_
                · rfl
                · rfl
              · refine zite_congr ?_ ?_
                · rfl
                · rfl
            · rfl
theorem T30_6_12_614 (xs : Nat → Int32) (L d : Nat) (I : Nat → Nat → Int32) (J : Nat → Nat → Int64) (X : XH) (a7 : Int32) (a1 : Int32) (a2 : Int32) (a3 : Int32) (a4 : Int32) (a5 : Int32) (a6 : Int32) : zseg (zE xs L (d + 5) 30) (zC 30) 614 (zB30_6.drop 12) [(7, .int a7), (0, .ref 1), (1, .int a1), (2, .int a2), (3, .int a3), (4, .int a4), (5, .int a5), (6, .int a6)] [] (zmk I J X) = some (.inr (.inr (some (.int (I 1 1))), zmk (zup I 1 1 ((I 1 1) + (1 : Int32))) J X)) := by
  rfl
theorem T30_6_12_618 (xs : Nat → Int32) (L d : Nat) (I : Nat → Nat → Int32) (J : Nat → Nat → Int64) (X : XH) (a7 : Int32) (a1 : Int32) (a2 : Int32) (a3 : Int32) (a4 : Int32) (a5 : Int32) (a6 : Int32) : zseg (zE xs L (d + 5) 30) (zC 30) 618 (zB30_6.drop 12) [(7, .int a7), (0, .ref 1), (1, .int a1), (2, .int a2), (3, .int a3), (4, .int a4), (5, .int a5), (6, .int a6)] [] (zmk I J X) = some (.inr (.inr (some (.int (I 1 1))), zmk (zup I 1 1 ((I 1 1) + (1 : Int32))) J X)) := by
  rfl
/-! 31 Net.shorten (III)V -/
theorem S31_0 (xs : Nat → Int32) (L d : Nat) (I : Nat → Nat → Int32) (J : Nat → Nat → Int64) (X : XH) (a1 : Int32) (a2 : Int32) (a3 : Int32) : zseg (zE xs L (d + 5) 31) (zC 31) 700 (zC 31 0) [(0, .ref 1), (1, .int a1), (2, .int a2), (3, .int a3)] [] (zmk I J X) = some (.inl (2, [(0, .ref 1), (1, .int a1), (2, .int a2), (3, .int a3), (4, .int (0 : Int32))], zmk I J X)) := by
  rfl
theorem S31_2 (xs : Nat → Int32) (L d : Nat) (I : Nat → Nat → Int32) (J : Nat → Nat → Int64) (X : XH) (a1 : Int32) (a2 : Int32) (a3 : Int32) (a4 : Int32) : zseg (zE xs L (d + 5) 31) (zC 31) 700 (zC 31 2) [(0, .ref 1), (1, .int a1), (2, .int a2), (3, .int a3), (4, .int a4)] [] (zmk I J X) = if decide ((24 : Int32) ≤ a4) = true then
  some (.inr (.inr none, zmk I J X))
  else some (.inl (5, [(0, .ref 1), (1, .int a1), (2, .int a2), (3, .int a3), (4, .int a4), (5, .int ((zat I 8 576 ((a4 * (24 : Int32)) + a1)) + a3)), (6, .int (0 : Int32))], zmk I J X)) := by
  refine zite_congr ?_ ?_
  · rfl
  · rfl
theorem S31_5 (xs : Nat → Int32) (L d : Nat) (I : Nat → Nat → Int32) (J : Nat → Nat → Int64) (X : XH) (a1 : Int32) (a2 : Int32) (a3 : Int32) (a4 : Int32) (a5 : Int32) (a6 : Int32) : zseg (zE xs L (d + 5) 31) (zC 31) 700 (zC 31 5) [(0, .ref 1), (1, .int a1), (2, .int a2), (3, .int a3), (4, .int a4), (5, .int a5), (6, .int a6)] [] (zmk I J X) = if decide ((24 : Int32) ≤ a6) = true then
  some (.inl (2, [(0, .ref 1), (1, .int a1), (2, .int a2), (3, .int a3), (4, .int (a4 + (1 : Int32)))], zmk I J X))
  else some (.inl (5, [(0, .ref 1), (1, .int a1), (2, .int a2), (3, .int a3), (4, .int a4), (5, .int a5), (6, .int (a6 + (1 : Int32)))], zmk (zput I 8 576 ((a4 * (24 : Int32)) + a6) (zmn (a5 + (zat I 8 576 ((a2 * (24 : Int32)) + a6))) (zat I 8 576 ((a4 * (24 : Int32)) + a6)))) J X)) := by
  refine zite_congr ?_ ?_
  · rfl
  · rfl
/-! 34 Net.firstRoad (II)I -/
theorem S34_0 (xs : Nat → Int32) (L d : Nat) (I : Nat → Nat → Int32) (J : Nat → Nat → Int64) (X : XH) (a1 : Int32) (a2 : Int32) : zseg (zE xs L (d + 5) 34) (zC 34) 700 (zC 34 0) [(0, .ref 1), (1, .int a1), (2, .int a2)] [] (zmk I J X) = some (.inl (2, [(0, .ref 1), (1, .int a1), (2, .int a2), (3, .int (zat I 8 576 ((a1 * (24 : Int32)) + a2))), (4, .int (0 : Int32))], zmk I J X)) := by
  rfl
theorem S34_2 (xs : Nat → Int32) (L d : Nat) (I : Nat → Nat → Int32) (J : Nat → Nat → Int64) (X : XH) (a1 : Int32) (a2 : Int32) (a3 : Int32) (a4 : Int32) : zseg (zE xs L (d + 5) 34) (zC 34) 700 (zC 34 2) [(0, .ref 1), (1, .int a1), (2, .int a2), (3, .int a3), (4, .int a4)] [] (zmk I J X) = if decide ((I 1 1) ≤ a4) = true then
  some (.inr (.inr (some (.int (-1 : Int32))), zmk I J X))
  else if decide ((1000000000 : Int32) ≤ a3) = true then
    some (.inr (.inr (some (.int (-1 : Int32))), zmk I J X))
    else if decide (¬ (zat I 2 40 a4) = a1) = true then
      some (.inl (2, [(0, .ref 1), (1, .int a1), (2, .int a2), (3, .int a3), (4, .int (a4 + (1 : Int32)))], zmk I J X))
      else if decide (¬ ((zat I 7 40 a4) + (zat I 8 576 (((zat I 3 40 a4) * (24 : Int32)) + a2))) = a3) = true then
        some (.inl (2, [(0, .ref 1), (1, .int a1), (2, .int a2), (3, .int a3), (4, .int (a4 + (1 : Int32)))], zmk I J X))
        else some (.inr (.inr (some (.int a4)), zmk I J X)) := by
  refine zite_congr ?_ ?_
  · rfl
  · refine zite_congr ?_ ?_
    · rfl
    · refine zite_congr ?_ ?_
      · rfl
      · refine zite_congr ?_ ?_
        · rfl
        · rfl
/-! 40 Notes.tell (IIII)Z -/
theorem S40a_0 (xs : Nat → Int32) (L d : Nat) (I : Nat → Nat → Int32) (J : Nat → Nat → Int64) (X : XH) (a1 : Int32) (a2 : Int32) (a3 : Int32) (a4 : Int32) : zseg (zE xs L (d + 5) 40) (zC 40) 700 (zC 40 0) [(0, .ref 39), (1, .int a1), (2, .int a2), (3, .int a3), (4, .int a4)] [] (zmk I J X) = if decide ((I 39 0) < (60 : Int32)) = true then
  some (.inr (.inr (some (.int (1 : Int32))), zmk (zup (zput (zput (zput (zput I 40 60 (I 39 0) a1) 41 60 (I 39 0) a2) 42 60 (I 39 0) a3) 43 60 (I 39 0) a4) 39 0 ((I 39 0) + (1 : Int32))) J X))
  else some (.inr (.inr (some (.int (0 : Int32))), zmk I J X)) := by
  refine zite_congr ?_ ?_
  · rfl
  · rfl
/-! 40 Notes.tell (IIII)Z -/
theorem S40b_0 (xs : Nat → Int32) (L d : Nat) (I : Nat → Nat → Int32) (J : Nat → Nat → Int64) (X : XH) (a1 : Int32) (a2 : Int32) (a3 : Int32) (a4 : Int32) : zseg (zE xs L (d + 5) 40) (zC 40) 700 (zC 40 0) [(0, .ref 44), (1, .int a1), (2, .int a2), (3, .int a3), (4, .int a4)] [] (zmk I J X) = if decide ((I 44 0) < (60 : Int32)) = true then
  some (.inr (.inr (some (.int (1 : Int32))), zmk (zup (zput (zput (zput (zput I 45 60 (I 44 0) a1) 46 60 (I 44 0) a2) 47 60 (I 44 0) a3) 48 60 (I 44 0) a4) 44 0 ((I 44 0) + (1 : Int32))) J X))
  else some (.inr (.inr (some (.int (0 : Int32))), zmk I J X)) := by
  refine zite_congr ?_ ?_
  · rfl
  · rfl
/-! 41 Notes.latest (IIII)I -/
theorem S41a_0 (xs : Nat → Int32) (L d : Nat) (I : Nat → Nat → Int32) (J : Nat → Nat → Int64) (X : XH) (a1 : Int32) (a2 : Int32) (a3 : Int32) (a4 : Int32) : zseg (zE xs L (d + 5) 41) (zC 41) 700 (zC 41 0) [(0, .ref 39), (1, .int a1), (2, .int a2), (3, .int a3), (4, .int a4)] [] (zmk I J X) = some (.inl (2, [(0, .ref 39), (1, .int a1), (2, .int a2), (3, .int a3), (4, .int a4), (5, .int ((I 39 0) - (1 : Int32)))], zmk I J X)) := by
  rfl
theorem S41a_2 (xs : Nat → Int32) (L d : Nat) (I : Nat → Nat → Int32) (J : Nat → Nat → Int64) (X : XH) (a1 : Int32) (a2 : Int32) (a3 : Int32) (a4 : Int32) (a5 : Int32) : zseg (zE xs L (d + 5) 41) (zC 41) 700 (zC 41 2) [(0, .ref 39), (1, .int a1), (2, .int a2), (3, .int a3), (4, .int a4), (5, .int a5)] [] (zmk I J X) = if decide (a5 < 0) = true then
  some (.inr (.inr (some (.int a4)), zmk I J X))
  else if decide (¬ (zat I 40 60 a5) = a1) = true then
    some (.inl (2, [(0, .ref 39), (1, .int a1), (2, .int a2), (3, .int a3), (4, .int a4), (5, .int (a5 + (-1 : Int32)))], zmk I J X))
    else if decide (a2 < (zat I 41 60 a5)) = true then
      some (.inl (2, [(0, .ref 39), (1, .int a1), (2, .int a2), (3, .int a3), (4, .int a4), (5, .int (a5 + (-1 : Int32)))], zmk I J X))
      else if decide (a3 < (zat I 43 60 a5)) = true then
        some (.inl (2, [(0, .ref 39), (1, .int a1), (2, .int a2), (3, .int a3), (4, .int a4), (5, .int (a5 + (-1 : Int32)))], zmk I J X))
        else some (.inr (.inr (some (.int (zat I 42 60 a5))), zmk I J X)) := by
  refine zite_congr ?_ ?_
  · rfl
  · refine zite_congr ?_ ?_
    · rfl
    · refine zite_congr ?_ ?_
      · rfl
      · refine zite_congr ?_ ?_
        · rfl
        · rfl
/-! 41 Notes.latest (IIII)I -/
theorem S41b_0 (xs : Nat → Int32) (L d : Nat) (I : Nat → Nat → Int32) (J : Nat → Nat → Int64) (X : XH) (a1 : Int32) (a2 : Int32) (a3 : Int32) (a4 : Int32) : zseg (zE xs L (d + 5) 41) (zC 41) 700 (zC 41 0) [(0, .ref 44), (1, .int a1), (2, .int a2), (3, .int a3), (4, .int a4)] [] (zmk I J X) = some (.inl (2, [(0, .ref 44), (1, .int a1), (2, .int a2), (3, .int a3), (4, .int a4), (5, .int ((I 44 0) - (1 : Int32)))], zmk I J X)) := by
  rfl
theorem S41b_2 (xs : Nat → Int32) (L d : Nat) (I : Nat → Nat → Int32) (J : Nat → Nat → Int64) (X : XH) (a1 : Int32) (a2 : Int32) (a3 : Int32) (a4 : Int32) (a5 : Int32) : zseg (zE xs L (d + 5) 41) (zC 41) 700 (zC 41 2) [(0, .ref 44), (1, .int a1), (2, .int a2), (3, .int a3), (4, .int a4), (5, .int a5)] [] (zmk I J X) = if decide (a5 < 0) = true then
  some (.inr (.inr (some (.int a4)), zmk I J X))
  else if decide (¬ (zat I 45 60 a5) = a1) = true then
    some (.inl (2, [(0, .ref 44), (1, .int a1), (2, .int a2), (3, .int a3), (4, .int a4), (5, .int (a5 + (-1 : Int32)))], zmk I J X))
    else if decide (a2 < (zat I 46 60 a5)) = true then
      some (.inl (2, [(0, .ref 44), (1, .int a1), (2, .int a2), (3, .int a3), (4, .int a4), (5, .int (a5 + (-1 : Int32)))], zmk I J X))
      else if decide (a3 < (zat I 48 60 a5)) = true then
        some (.inl (2, [(0, .ref 44), (1, .int a1), (2, .int a2), (3, .int a3), (4, .int a4), (5, .int (a5 + (-1 : Int32)))], zmk I J X))
        else some (.inr (.inr (some (.int (zat I 47 60 a5))), zmk I J X)) := by
  refine zite_congr ?_ ?_
  · rfl
  · refine zite_congr ?_ ?_
    · rfl
    · refine zite_congr ?_ ?_
      · rfl
      · refine zite_congr ?_ ?_
        · rfl
        · rfl
/-! 43 Reader.append (I)V -/
theorem S43_0 (xs : Nat → Int32) (L d : Nat) (I : Nat → Nat → Int32) (J : Nat → Nat → Int64) (X : XH) (a1 : Int32) : zseg (zE xs L (d + 5) 43) (zC 43) 700 (zC 43 0) [(0, .ref 35), (1, .int a1)] [] (zmk I J X) = some (.inl (2, [(0, .ref 35), (1, .int a1), (2, .int (24 : Int32))], zmk I J X)) := by
  rfl
theorem S43_2 (xs : Nat → Int32) (L d : Nat) (I : Nat → Nat → Int32) (J : Nat → Nat → Int64) (X : XH) (a1 : Int32) (a2 : Int32) : zseg (zE xs L (d + 5) 43) (zC 43) 700 (zC 43 2) [(0, .ref 35), (1, .int a1), (2, .int a2)] [] (zmk I J X) = if decide (a2 < 0) = true then
  some (.inr (.inr none, zmk I J X))
  else some (.inl (2, [(0, .ref 35), (1, .int a1), (2, .int (a2 + (-8 : Int32)))], zmk (zup (zput I 36 400 (I 35 1) (((a1.toUInt32 >>> (a2.toUInt32 &&& Int32.toUInt32 31)).toInt32) &&& (255 : Int32))) 35 1 ((I 35 1) + (1 : Int32))) J X)) := by
  refine zite_congr ?_ ?_
  · rfl
  · rfl
/-! 44 Reader.read (I)I -/
theorem S44_0 (xs : Nat → Int32) (L d : Nat) (I : Nat → Nat → Int32) (J : Nat → Nat → Int64) (X : XH) (a1 : Int32) : zseg (zE xs L (d + 5) 44) (zC 44) 700 (zC 44 0) [(0, .ref 35), (1, .int a1)] [] (zmk I J X) = some (.inl (2, [(0, .ref 35), (1, .int a1), (2, .int (0 : Int32)), (3, .int (0 : Int32))], zmk (zup (zup (zup (zup (zup (zup (zup I 35 2 a1) 35 4 (0 : Int32)) 35 8 (0 : Int32)) 35 13 (0 : Int32)) 35 10 (10080 : Int32)) 35 11 (30 : Int32)) 35 7 (0 : Int32)) J X)) := by
  rfl
theorem S44_2 (xs : Nat → Int32) (L d : Nat) (I : Nat → Nat → Int32) (J : Nat → Nat → Int64) (X : XH) (a1 : Int32) (a2 : Int32) (a3 : Int32) : zseg (zE xs L (d + 5) 44) (zC 44) 700 (zC 44 2) [(0, .ref 35), (1, .int a1), (2, .int a2), (3, .int a3)] [] (zmk I J X) = if decide ((400 : Int32) < a3) = true then
  some (.inr (.inr (some (.int a2)), zmk I J X))
  else if decide (¬ a2 = 0) = true then
    some (.inr (.inr (some (.int a2)), zmk I J X))
    else zcw (zE xs L (d + 5) 44) (zev xs L (d + 5) 45 [.ref 35] (zmk I J X)) (fun h => zseg (zE xs L (d + 5) 44) (zC 44) 693 (zB44_2.drop 7) [(0, .ref 35), (1, .int a1), (2, .int a2), (3, .int a3)] [] h) := by
  refine zite_congr ?_ ?_
  · rfl
  · refine zite_congr ?_ ?_
    · rfl
    · rfl
theorem T44_2_7_693 (xs : Nat → Int32) (L d : Nat) (I : Nat → Nat → Int32) (J : Nat → Nat → Int64) (X : XH) (a1 : Int32) (a2 : Int32) (a3 : Int32) : zseg (zE xs L (d + 5) 44) (zC 44) 693 (zB44_2.drop 7) [(0, .ref 35), (1, .int a1), (2, .int a2), (3, .int a3)] [] (zmk I J X) = if decide (¬ (I 35 5) = (256 : Int32)) = true then
  if (I 35 7) = 0 then
    zci (zE xs L (d + 5) 44) (zev xs L (d + 5) 54 [.ref 35] (zmk I J X)) (fun r h => zseg (zE xs L (d + 5) 44) (zC 44) 684 (zB44_7.drop 2) [(0, .ref 35), (1, .int a1), (2, .int a2), (3, .int a3)] [.int r] h)
    else if (I 35 7) = 1 then
    zci (zE xs L (d + 5) 44) (zev xs L (d + 5) 56 [.ref 35] (zmk I J X)) (fun r h => zseg (zE xs L (d + 5) 44) (zC 44) 684 (zB44_8.drop 2) [(0, .ref 35), (1, .int a1), (2, .int a2), (3, .int a3)] [.int r] h)
    else if (I 35 7) = 2 then
    zci (zE xs L (d + 5) 44) (zev xs L (d + 5) 57 [.ref 35] (zmk I J X)) (fun r h => zseg (zE xs L (d + 5) 44) (zC 44) 684 (zB44_9.drop 2) [(0, .ref 35), (1, .int a1), (2, .int a2), (3, .int a3)] [.int r] h)
    else if (I 35 7) = 3 then
    zci (zE xs L (d + 5) 44) (zev xs L (d + 5) 58 [.ref 35] (zmk I J X)) (fun r h => zseg (zE xs L (d + 5) 44) (zC 44) 684 (zB44_10.drop 2) [(0, .ref 35), (1, .int a1), (2, .int a2), (3, .int a3)] [.int r] h)
    else zci (zE xs L (d + 5) 44) (zev xs L (d + 5) 61 [.ref 35] (zmk I J X)) (fun r h => zseg (zE xs L (d + 5) 44) (zC 44) 684 (zB44_11.drop 2) [(0, .ref 35), (1, .int a1), (2, .int a2), (3, .int a3)] [.int r] h)
  else if decide (¬ (I 35 7) = 0) = true then
    some (.inr (.inr (some (.int (1 : Int32))), zmk I J X))
    else some (.inr (.inr (some (.int (0 : Int32))), zmk I J X)) := by
  refine zite_congr ?_ ?_
  · refine zite_congr ?_ ?_
    · rfl
    · refine zite_congr ?_ ?_
      · rfl
      · refine zite_congr ?_ ?_
        · rfl
        · refine zite_congr ?_ ?_
          · rfl
          · rfl
  · refine zite_congr ?_ ?_
    · rfl
    · rfl
theorem T44_11_2_684 (xs : Nat → Int32) (L d : Nat) (I : Nat → Nat → Int32) (J : Nat → Nat → Int64) (X : XH) (a1 : Int32) (a2 : Int32) (a3 : Int32) (b0 : Int32) : zseg (zE xs L (d + 5) 44) (zC 44) 684 (zB44_11.drop 2) [(0, .ref 35), (1, .int a1), (2, .int a2), (3, .int a3)] [.int b0] (zmk I J X) = some (.inl (2, [(0, .ref 35), (1, .int a1), (2, .int b0), (3, .int (a3 + (1 : Int32)))], zmk I J X)) := by
  rfl
theorem T44_10_2_684 (xs : Nat → Int32) (L d : Nat) (I : Nat → Nat → Int32) (J : Nat → Nat → Int64) (X : XH) (a1 : Int32) (a2 : Int32) (a3 : Int32) (b0 : Int32) : zseg (zE xs L (d + 5) 44) (zC 44) 684 (zB44_10.drop 2) [(0, .ref 35), (1, .int a1), (2, .int a2), (3, .int a3)] [.int b0] (zmk I J X) = some (.inl (2, [(0, .ref 35), (1, .int a1), (2, .int b0), (3, .int (a3 + (1 : Int32)))], zmk I J X)) := by
  rfl
theorem T44_9_2_684 (xs : Nat → Int32) (L d : Nat) (I : Nat → Nat → Int32) (J : Nat → Nat → Int64) (X : XH) (a1 : Int32) (a2 : Int32) (a3 : Int32) (b0 : Int32) : zseg (zE xs L (d + 5) 44) (zC 44) 684 (zB44_9.drop 2) [(0, .ref 35), (1, .int a1), (2, .int a2), (3, .int a3)] [.int b0] (zmk I J X) = some (.inl (2, [(0, .ref 35), (1, .int a1), (2, .int b0), (3, .int (a3 + (1 : Int32)))], zmk I J X)) := by
  rfl
theorem T44_8_2_684 (xs : Nat → Int32) (L d : Nat) (I : Nat → Nat → Int32) (J : Nat → Nat → Int64) (X : XH) (a1 : Int32) (a2 : Int32) (a3 : Int32) (b0 : Int32) : zseg (zE xs L (d + 5) 44) (zC 44) 684 (zB44_8.drop 2) [(0, .ref 35), (1, .int a1), (2, .int a2), (3, .int a3)] [.int b0] (zmk I J X) = some (.inl (2, [(0, .ref 35), (1, .int a1), (2, .int b0), (3, .int (a3 + (1 : Int32)))], zmk I J X)) := by
  rfl
theorem T44_7_2_684 (xs : Nat → Int32) (L d : Nat) (I : Nat → Nat → Int32) (J : Nat → Nat → Int64) (X : XH) (a1 : Int32) (a2 : Int32) (a3 : Int32) (b0 : Int32) : zseg (zE xs L (d + 5) 44) (zC 44) 684 (zB44_7.drop 2) [(0, .ref 35), (1, .int a1), (2, .int a2), (3, .int a3)] [.int b0] (zmk I J X) = some (.inl (2, [(0, .ref 35), (1, .int a1), (2, .int b0), (3, .int (a3 + (1 : Int32)))], zmk I J X)) := by
  rfl
/-! 45 Reader.advance ()V -/
theorem S45_0 (xs : Nat → Int32) (L d : Nat) (I : Nat → Nat → Int32) (J : Nat → Nat → Int64) (X : XH) : zseg (zE xs L (d + 5) 45) (zC 45) 700 (zC 45 0) [(0, .ref 35)] [] (zmk I J X) = some (.inl (1, [(0, .ref 35)], zmk I J X)) := by
  rfl
theorem S45_1 (xs : Nat → Int32) (L d : Nat) (I : Nat → Nat → Int32) (J : Nat → Nat → Int64) (X : XH) : zseg (zE xs L (d + 5) 45) (zC 45) 700 (zC 45 1) [(0, .ref 35)] [] (zmk I J X) = if decide ((I 35 2) ≤ (I 35 4)) = true then
  if decide ((I 35 4) < (I 35 2)) = true then
    if decide ((zbi (¬ zat I 36 400 (I 35 4) < 97 ∧ ¬ 122 < zat I 36 400 (I 35 4))) = 0) = true then
      if decide ((zbi (¬ zat I 36 400 (I 35 4) < 48 ∧ ¬ 57 < zat I 36 400 (I 35 4))) = 0) = true then
        if decide ((zbi (zat I 36 400 (I 35 4) = 59 ∨ zat I 36 400 (I 35 4) = 40 ∨ zat I 36 400 (I 35 4) = 41 ∨ ¬ zrank (zat I 36 400 (I 35 4)) ≤ 0)) = 0) = true then
          some (.inr (.inr none, zmk (zup (zup (zup I 35 3 (I 35 4)) 35 4 ((I 35 4) + (1 : Int32))) 35 5 (257 : Int32)) J X))
          else some (.inr (.inr none, zmk (zup (zup (zup I 35 3 (I 35 4)) 35 4 ((I 35 4) + (1 : Int32))) 35 5 (zat I 36 400 (I 35 4))) J X))
        else zcw (zE xs L (d + 5) 45) (zev xs L (d + 5) 51 [.ref 35] (zmk (zup I 35 3 (I 35 4)) J X)) (fun h => zseg (zE xs L (d + 5) 45) (zC 45) 672 (zB45_5.drop 5) [(1, .int (zat I 36 400 (I 35 4))), (0, .ref 35)] [] h)
      else zcw (zE xs L (d + 5) 45) (zev xs L (d + 5) 48 [.ref 35] (zmk (zup I 35 3 (I 35 4)) J X)) (fun h => zseg (zE xs L (d + 5) 45) (zC 45) 675 (zB45_3.drop 5) [(1, .int (zat I 36 400 (I 35 4))), (0, .ref 35)] [] h)
    else some (.inr (.inr none, zmk (zup (zup I 35 3 (I 35 4)) 35 5 (256 : Int32)) J X))
  else if decide ((zbi (zat I 36 400 (I 35 4) = 32 ∨ zat I 36 400 (I 35 4) = 10)) = 0) = true then
    if decide ((I 35 4) < (I 35 2)) = true then
      if decide ((zbi (¬ zat I 36 400 (I 35 4) < 97 ∧ ¬ 122 < zat I 36 400 (I 35 4))) = 0) = true then
        if decide ((zbi (¬ zat I 36 400 (I 35 4) < 48 ∧ ¬ 57 < zat I 36 400 (I 35 4))) = 0) = true then
          if decide ((zbi (zat I 36 400 (I 35 4) = 59 ∨ zat I 36 400 (I 35 4) = 40 ∨ zat I 36 400 (I 35 4) = 41 ∨ ¬ zrank (zat I 36 400 (I 35 4)) ≤ 0)) = 0) = true then
            some (.inr (.inr none, zmk (zup (zup (zup I 35 3 (I 35 4)) 35 4 ((I 35 4) + (1 : Int32))) 35 5 (257 : Int32)) J X))
            else some (.inr (.inr none, zmk (zup (zup (zup I 35 3 (I 35 4)) 35 4 ((I 35 4) + (1 : Int32))) 35 5 (zat I 36 400 (I 35 4))) J X))
          else zcw (zE xs L (d + 5) 45) (zev xs L (d + 5) 51 [.ref 35] (zmk (zup I 35 3 (I 35 4)) J X)) (fun h => zseg (zE xs L (d + 5) 45) (zC 45) 665 (zB45_5.drop 5) [(1, .int (zat I 36 400 (I 35 4))), (0, .ref 35)] [] h)
        else zcw (zE xs L (d + 5) 45) (zev xs L (d + 5) 48 [.ref 35] (zmk (zup I 35 3 (I 35 4)) J X)) (fun h => zseg (zE xs L (d + 5) 45) (zC 45) 668 (zB45_3.drop 5) [(1, .int (zat I 36 400 (I 35 4))), (0, .ref 35)] [] h)
      else some (.inr (.inr none, zmk (zup (zup I 35 3 (I 35 4)) 35 5 (256 : Int32)) J X))
    else some (.inl (1, [(0, .ref 35)], zmk (zup I 35 4 ((I 35 4) + (1 : Int32))) J X)) := by
  refine zite_congr ?_ ?_
  · refine zite_congr ?_ ?_
    · refine zite_congr ?_ ?_
      · refine zite_congr ?_ ?_
        · refine zite_congr ?_ ?_
          · rfl
          · rfl
        · rfl
      · rfl
    · rfl
  · refine zite_congr ?_ ?_
    · refine zite_congr ?_ ?_
      · refine zite_congr ?_ ?_
        · refine zite_congr ?_ ?_
          · refine zite_congr ?_ ?_
            · rfl
            · rfl
          · rfl
        · rfl
      · rfl
    · rfl
theorem T45_5_5_672 (xs : Nat → Int32) (L d : Nat) (I : Nat → Nat → Int32) (J : Nat → Nat → Int64) (X : XH) (a1 : Int32) : zseg (zE xs L (d + 5) 45) (zC 45) 672 (zB45_5.drop 5) [(1, .int a1), (0, .ref 35)] [] (zmk I J X) = some (.inr (.inr none, zmk I J X)) := by
  rfl
theorem T45_3_5_675 (xs : Nat → Int32) (L d : Nat) (I : Nat → Nat → Int32) (J : Nat → Nat → Int64) (X : XH) (a1 : Int32) : zseg (zE xs L (d + 5) 45) (zC 45) 675 (zB45_3.drop 5) [(1, .int a1), (0, .ref 35)] [] (zmk I J X) = some (.inr (.inr none, zmk I J X)) := by
  rfl
theorem T45_5_5_665 (xs : Nat → Int32) (L d : Nat) (I : Nat → Nat → Int32) (J : Nat → Nat → Int64) (X : XH) (a1 : Int32) : zseg (zE xs L (d + 5) 45) (zC 45) 665 (zB45_5.drop 5) [(1, .int a1), (0, .ref 35)] [] (zmk I J X) = some (.inr (.inr none, zmk I J X)) := by
  rfl
theorem T45_3_5_668 (xs : Nat → Int32) (L d : Nat) (I : Nat → Nat → Int32) (J : Nat → Nat → Int64) (X : XH) (a1 : Int32) : zseg (zE xs L (d + 5) 45) (zC 45) 668 (zB45_3.drop 5) [(1, .int a1), (0, .ref 35)] [] (zmk I J X) = some (.inr (.inr none, zmk I J X)) := by
  rfl
/-! 48 Reader.readWord ()V -/
theorem S48_0 (xs : Nat → Int32) (L d : Nat) (I : Nat → Nat → Int32) (J : Nat → Nat → Int64) (X : XH) : zseg (zE xs L (d + 5) 48) (zC 48) 700 (zC 48 0) [(0, .ref 35)] [] (zmk I J X) = some (.inl (1, [(0, .ref 35)], zmk I J X)) := by
  rfl
theorem S48_1 (xs : Nat → Int32) (L d : Nat) (I : Nat → Nat → Int32) (J : Nat → Nat → Int64) (X : XH) : zseg (zE xs L (d + 5) 48) (zC 48) 700 (zC 48 1) [(0, .ref 35)] [] (zmk I J X) = if decide ((I 35 2) ≤ (I 35 4)) = true then
  some (.inl (4, [(0, .ref 35), (1, .int (0 : Int32)), (2, .int (0 : Int32)), (3, .int (0 : Int32))], zmk (zup I 35 5 (299 : Int32)) J X))
  else if decide ((zbi (¬ zat I 36 400 (I 35 4) < 97 ∧ ¬ 122 < zat I 36 400 (I 35 4))) = 0) = true then
    some (.inl (4, [(0, .ref 35), (1, .int (0 : Int32)), (2, .int (0 : Int32)), (3, .int (0 : Int32))], zmk (zup I 35 5 (299 : Int32)) J X))
    else some (.inl (1, [(0, .ref 35)], zmk (zup I 35 4 ((I 35 4) + (1 : Int32))) J X)) := by
  refine zite_congr ?_ ?_
  · rfl
  · refine zite_congr ?_ ?_
    · rfl
    · rfl
theorem S48_4 (xs : Nat → Int32) (L d : Nat) (I : Nat → Nat → Int32) (J : Nat → Nat → Int64) (X : XH) (a1 : Int32) (a2 : Int32) (a3 : Int32) : zseg (zE xs L (d + 5) 48) (zC 48) 700 (zC 48 4) [(0, .ref 35), (1, .int a1), (2, .int a2), (3, .int a3)] [] (zmk I J X) = if decide ((Int32.ofNat (zlen (UInt32.ofNat 0).toNat)) ≤ a3) = true then
    some (.inr (.inr none, zmk I J X))
    else if (UInt32.ofNat 0).toNat < 16 ∧ ¬ (a3 < 0 ∨ zlen (UInt32.ofNat 0).toNat ≤ a3.toNatClampNeg) ∧ 0 ≤ 4 then
      if decide (¬ (zch (UInt32.ofNat 0).toNat a3.toNatClampNeg) = (32 : Int32)) = true then
        some (.inl (4, [(0, .ref 35), (1, .int a1), (2, .int a2), (3, .int (a3 + (1 : Int32)))], zmk I J X))
        else zci (zE xs L (d + 5) 48) (zev xs L (d + 5) 49 [.ref 35, .int a1, .int a3] (zmk I J X)) (fun r h => zseg (zE xs L (d + 5) 48) (zC 48) 687 (zB48_4.drop 13) [(0, .ref 35), (1, .int a1), (2, .int a2), (3, .int a3)] [.int r] h)
      else none := by
  refine zite_congr ?_ ?_
  · rfl
  · refine zite_congr ?_ ?_
    · refine zite_congr ?_ ?_
      · rfl
      · rfl
    · rfl
theorem T48_4_13_687 (xs : Nat → Int32) (L d : Nat) (I : Nat → Nat → Int32) (J : Nat → Nat → Int64) (X : XH) (a1 : Int32) (a2 : Int32) (a3 : Int32) (b0 : Int32) : zseg (zE xs L (d + 5) 48) (zC 48) 687 (zB48_4.drop 13) [(0, .ref 35), (1, .int a1), (2, .int a2), (3, .int a3)] [.int b0] (zmk I J X) = if decide (b0 = 0) = true then
  some (.inl (4, [(0, .ref 35), (1, .int (a3 + (1 : Int32))), (2, .int (a2 + (1 : Int32))), (3, .int (a3 + (1 : Int32)))], zmk I J X))
  else some (.inl (4, [(0, .ref 35), (1, .int (a3 + (1 : Int32))), (2, .int (a2 + (1 : Int32))), (3, .int (a3 + (1 : Int32)))], zmk (zup I 35 5 ((300 : Int32) + a2)) J X)) := by
  refine zite_congr ?_ ?_
  · rfl
  · rfl
/-! 49 Reader.isRow (II)Z -/
theorem S49_0 (xs : Nat → Int32) (L d : Nat) (I : Nat → Nat → Int32) (J : Nat → Nat → Int64) (X : XH) (a1 : Int32) (a2 : Int32) : zseg (zE xs L (d + 5) 49) (zC 49) 700 (zC 49 0) [(0, .ref 35), (1, .int a1), (2, .int a2)] [] (zmk I J X) = if decide ((a2 - a1) = ((I 35 4) - (I 35 3))) = true then
  some (.inl (3, [(0, .ref 35), (1, .int a1), (2, .int a2), (3, .int a1)], zmk I J X))
  else some (.inr (.inr (some (.int (0 : Int32))), zmk I J X)) := by
  refine zite_congr ?_ ?_
  · rfl
  · rfl
theorem S49_3 (xs : Nat → Int32) (L d : Nat) (I : Nat → Nat → Int32) (J : Nat → Nat → Int64) (X : XH) (a1 : Int32) (a2 : Int32) (a3 : Int32) : zseg (zE xs L (d + 5) 49) (zC 49) 700 (zC 49 3) [(0, .ref 35), (1, .int a1), (2, .int a2), (3, .int a3)] [] (zmk I J X) = if decide (a2 ≤ a3) = true then
  some (.inr (.inr (some (.int (1 : Int32))), zmk I J X))
  else if decide ((Int32.ofNat (zlen (UInt32.ofNat 0).toNat)) ≤ a3) = true then
      some (.inr (.inr (some (.int (1 : Int32))), zmk I J X))
      else if (UInt32.ofNat 0).toNat < 16 ∧ ¬ (a3 < 0 ∨ zlen (UInt32.ofNat 0).toNat ≤ a3.toNatClampNeg) ∧ 0 ≤ 4 then
        if decide ((zch (UInt32.ofNat 0).toNat a3.toNatClampNeg) = (zat I 36 400 (((I 35 3) + a3) - a1))) = true then
          some (.inl (3, [(0, .ref 35), (1, .int a1), (2, .int a2), (3, .int (a3 + (1 : Int32)))], zmk I J X))
          else some (.inr (.inr (some (.int (0 : Int32))), zmk I J X))
        else none := by
  refine zite_congr ?_ ?_
  · rfl
  · refine zite_congr ?_ ?_
    · rfl
    · refine zite_congr ?_ ?_
      · refine zite_congr ?_ ?_
        · rfl
        · rfl
      · rfl
/-! 51 Reader.readNumber ()V -/
theorem S51_0 (xs : Nat → Int32) (L d : Nat) (I : Nat → Nat → Int32) (J : Nat → Nat → Int64) (X : XH) : zseg (zE xs L (d + 5) 51) (zC 51) 700 (zC 51 0) [(0, .ref 35)] [] (zmk I J X) = some (.inl (2, [(0, .ref 35)], zmk (zup I 35 6 (0 : Int32)) J X)) := by
  rfl
theorem S51_2 (xs : Nat → Int32) (L d : Nat) (I : Nat → Nat → Int32) (J : Nat → Nat → Int64) (X : XH) : zseg (zE xs L (d + 5) 51) (zC 51) 700 (zC 51 2) [(0, .ref 35)] [] (zmk I J X) = if decide ((I 35 2) ≤ (I 35 4)) = true then
  if decide (((I 35 4) - (I 35 3)) ≤ (5 : Int32)) = true then
    some (.inr (.inr none, zmk (zup I 35 5 (258 : Int32)) J X))
    else some (.inr (.inr none, zmk (zup I 35 5 (259 : Int32)) J X))
  else if decide ((zbi (¬ zat I 36 400 (I 35 4) < 48 ∧ ¬ 57 < zat I 36 400 (I 35 4))) = 0) = true then
    if decide (((I 35 4) - (I 35 3)) ≤ (5 : Int32)) = true then
      some (.inr (.inr none, zmk (zup I 35 5 (258 : Int32)) J X))
      else some (.inr (.inr none, zmk (zup I 35 5 (259 : Int32)) J X))
    else some (.inl (2, [(0, .ref 35)], zmk (zup (zup I 35 6 ((((I 35 6) * (10 : Int32)) + (zat I 36 400 (I 35 4))) - (48 : Int32))) 35 4 ((I 35 4) + (1 : Int32))) J X)) := by
  refine zite_congr ?_ ?_
  · refine zite_congr ?_ ?_
    · rfl
    · rfl
  · refine zite_congr ?_ ?_
    · refine zite_congr ?_ ?_
      · rfl
      · rfl
    · rfl
/-! 54 Reader.begin ()I -/
theorem S54_0 (xs : Nat → Int32) (L d : Nat) (I : Nat → Nat → Int32) (J : Nat → Nat → Int64) (X : XH) : zseg (zE xs L (d + 5) 54) (zC 54) 700 (zC 54 0) [(0, .ref 35)] [] (zmk I J X) = if decide (¬ (zbi (¬ I 35 5 < (300 : Int32) ∧ ¬ (303 : Int32) < I 35 5)) = 0) = true then
  if decide ((I 35 8) < (16 : Int32)) = true then
    if decide ((I 35 5) = (300 : Int32)) = true then
      some (.inr (.inr (some (.int (0 : Int32))), zmk (zup (zup (zup (zup (zup (zup (zup (zup (zup I 35 8 ((I 35 8) + (1 : Int32))) 35 9 (I 35 5)) 35 7 (1 : Int32)) 35 15 (0 : Int32)) 35 16 (0 : Int32)) 35 7 (3 : Int32)) 35 17 (1 : Int32)) 35 18 (0 : Int32)) 35 19 ((I 35 19) &&& (((1 : Int32) <<< ((0 : Int32) &&& 31)) ^^^ (-1 : Int32)))) J X))
      else if decide (¬ (I 35 5) = (301 : Int32)) = true then
        some (.inr (.inr (some (.int (0 : Int32))), zmk (zup (zup (zup I 35 8 ((I 35 8) + (1 : Int32))) 35 9 (I 35 5)) 35 7 (1 : Int32)) J X))
        else some (.inr (.inr (some (.int (0 : Int32))), zmk (zup (zup (zup (zup (zup (zup (zup (zup (zup I 35 8 ((I 35 8) + (1 : Int32))) 35 9 (I 35 5)) 35 7 (1 : Int32)) 35 15 (0 : Int32)) 35 16 (0 : Int32)) 35 7 (3 : Int32)) 35 17 (1 : Int32)) 35 18 (0 : Int32)) 35 19 ((I 35 19) &&& (((1 : Int32) <<< ((0 : Int32) &&& 31)) ^^^ (-1 : Int32)))) J X))
    else some (.inr (.inr (some (.int (2 : Int32))), zmk I J X))
  else some (.inr (.inr (some (.int (1 : Int32))), zmk I J X)) := by
  refine zite_congr ?_ ?_
  · refine zite_congr ?_ ?_
    · refine zite_congr ?_ ?_
      · rfl
      · refine zite_congr ?_ ?_
        · rfl
        · rfl
    · rfl
  · rfl
/-! 56 Reader.term ()I -/
theorem S56_0 (xs : Nat → Int32) (L d : Nat) (I : Nat → Nat → Int32) (J : Nat → Nat → Int64) (X : XH) : zseg (zE xs L (d + 5) 56) (zC 56) 700 (zC 56 0) [(0, .ref 35)] [] (zmk I J X) = if decide ((I 35 5) = (258 : Int32)) = true then
  if decide (¬ (I 35 9) = (302 : Int32)) = true then
    some (.inr (.inr (some (.int (0 : Int32))), zmk (zup (zup I 35 11 (I 35 6)) 35 7 (2 : Int32)) J X))
    else some (.inr (.inr (some (.int (0 : Int32))), zmk (zup (zup I 35 10 (I 35 6)) 35 7 (2 : Int32)) J X))
  else if decide (¬ (I 35 5) = (259 : Int32)) = true then
    some (.inr (.inr (some (.int (1 : Int32))), zmk I J X))
    else some (.inr (.inr (some (.int (2 : Int32))), zmk I J X)) := by
  refine zite_congr ?_ ?_
  · refine zite_congr ?_ ?_
    · rfl
    · rfl
  · refine zite_congr ?_ ?_
    · rfl
    · rfl
/-! 57 Reader.stop ()I -/
theorem S57_0 (xs : Nat → Int32) (L d : Nat) (I : Nat → Nat → Int32) (J : Nat → Nat → Int64) (X : XH) : zseg (zE xs L (d + 5) 57) (zC 57) 700 (zC 57 0) [(0, .ref 35)] [] (zmk I J X) = if decide (¬ (I 35 5) = (59 : Int32)) = true then
  some (.inr (.inr (some (.int (1 : Int32))), zmk (zup I 35 7 (0 : Int32)) J X))
  else some (.inr (.inr (some (.int (0 : Int32))), zmk (zup I 35 7 (0 : Int32)) J X)) := by
  refine zite_congr ?_ ?_
  · rfl
  · rfl
/-! 58 Reader.part ()I -/
theorem S58_0 (xs : Nat → Int32) (L d : Nat) (I : Nat → Nat → Int32) (J : Nat → Nat → Int64) (X : XH) : zseg (zE xs L (d + 5) 58) (zC 58) 700 (zC 58 0) [(0, .ref 35)] [] (zmk I J X) = if decide ((I 35 5) < (299 : Int32)) = true then
  if decide ((I 35 5) = (258 : Int32)) = true then
    if decide ((6 : Int32) ≤ (I 35 16)) = true then
      some (.inr (.inr (some (.int (2 : Int32))), zmk I J X))
      else if decide (¬ (I 35 5) = (259 : Int32)) = true then
        if decide (¬ (I 35 5) = (40 : Int32)) = true then
          if decide (¬ (I 35 5) = (306 : Int32)) = true then
            some (.inr (.inr (some (.int (0 : Int32))), zmk (zup (zup (zput I 37 400 (I 35 13) (I 35 6)) 35 13 ((I 35 13) + (1 : Int32))) 35 7 (4 : Int32)) J X))
            else if decide ((I 35 17) = 0) = true then
              some (.inr (.inr (some (.int (0 : Int32))), zmk (zup (zup (zput I 37 400 (I 35 13) (I 35 6)) 35 13 ((I 35 13) + (1 : Int32))) 35 7 (4 : Int32)) J X))
              else if decide (((I 35 18) + (1 : Int32)) ≤ (6 : Int32)) = true then
                some (.inr (.inr (some (.int (0 : Int32))), zmk (zup (zup (zput I 38 400 (I 35 15) (I 35 5)) 35 15 ((I 35 15) + (1 : Int32))) 35 18 ((I 35 18) + (1 : Int32))) J X))
                else some (.inr (.inr (some (.int (2 : Int32))), zmk (zup (zup (zput I 38 400 (I 35 15) (I 35 5)) 35 15 ((I 35 15) + (1 : Int32))) 35 18 ((I 35 18) + (1 : Int32))) J X))
          else some (.inr (.inr (some (.int (0 : Int32))), zmk (zup (zup (zup (zup (zup (zup (zput I 38 400 (I 35 15) (I 35 5)) 35 15 ((I 35 15) + (1 : Int32))) 35 16 ((I 35 16) + (1 : Int32))) 35 7 (3 : Int32)) 35 17 (1 : Int32)) 35 18 (0 : Int32)) 35 19 ((I 35 19) &&& (((1 : Int32) <<< (((I 35 16) + (1 : Int32)) &&& 31)) ^^^ (-1 : Int32)))) J X))
        else some (.inr (.inr (some (.int (2 : Int32))), zmk I J X))
    else if decide (¬ (I 35 5) = (259 : Int32)) = true then
      if decide ((I 35 5) = (40 : Int32)) = true then
        if decide ((6 : Int32) ≤ (I 35 16)) = true then
          some (.inr (.inr (some (.int (2 : Int32))), zmk I J X))
          else if decide (¬ (I 35 5) = (259 : Int32)) = true then
            if decide (¬ (I 35 5) = (40 : Int32)) = true then
              if decide (¬ (I 35 5) = (306 : Int32)) = true then
                some (.inr (.inr (some (.int (0 : Int32))), zmk (zup (zup (zput I 37 400 (I 35 13) (-(I 35 5))) 35 13 ((I 35 13) + (1 : Int32))) 35 7 (4 : Int32)) J X))
                else if decide ((I 35 17) = 0) = true then
                  some (.inr (.inr (some (.int (0 : Int32))), zmk (zup (zup (zput I 37 400 (I 35 13) (-(I 35 5))) 35 13 ((I 35 13) + (1 : Int32))) 35 7 (4 : Int32)) J X))
                  else if decide (((I 35 18) + (1 : Int32)) ≤ (6 : Int32)) = true then
                    some (.inr (.inr (some (.int (0 : Int32))), zmk (zup (zup (zput I 38 400 (I 35 15) (I 35 5)) 35 15 ((I 35 15) + (1 : Int32))) 35 18 ((I 35 18) + (1 : Int32))) J X))
                    else some (.inr (.inr (some (.int (2 : Int32))), zmk (zup (zup (zput I 38 400 (I 35 15) (I 35 5)) 35 15 ((I 35 15) + (1 : Int32))) 35 18 ((I 35 18) + (1 : Int32))) J X))
              else some (.inr (.inr (some (.int (0 : Int32))), zmk (zup (zup (zup (zup (zup (zup (zput I 38 400 (I 35 15) (I 35 5)) 35 15 ((I 35 15) + (1 : Int32))) 35 16 ((I 35 16) + (1 : Int32))) 35 7 (3 : Int32)) 35 17 (1 : Int32)) 35 18 (0 : Int32)) 35 19 ((I 35 19) &&& (((1 : Int32) <<< (((I 35 16) + (1 : Int32)) &&& 31)) ^^^ (-1 : Int32)))) J X))
            else some (.inr (.inr (some (.int (2 : Int32))), zmk I J X))
        else some (.inr (.inr (some (.int (1 : Int32))), zmk I J X))
      else if decide ((6 : Int32) ≤ (I 35 16)) = true then
        some (.inr (.inr (some (.int (2 : Int32))), zmk I J X))
        else if decide (¬ (I 35 5) = (259 : Int32)) = true then
          if decide (¬ (I 35 5) = (40 : Int32)) = true then
            if decide (¬ (I 35 5) = (306 : Int32)) = true then
              some (.inr (.inr (some (.int (0 : Int32))), zmk (zup (zup (zput I 37 400 (I 35 13) (I 35 6)) 35 13 ((I 35 13) + (1 : Int32))) 35 7 (4 : Int32)) J X))
              else if decide ((I 35 17) = 0) = true then
                some (.inr (.inr (some (.int (0 : Int32))), zmk (zup (zup (zput I 37 400 (I 35 13) (I 35 6)) 35 13 ((I 35 13) + (1 : Int32))) 35 7 (4 : Int32)) J X))
                else if decide (((I 35 18) + (1 : Int32)) ≤ (6 : Int32)) = true then
                  some (.inr (.inr (some (.int (0 : Int32))), zmk (zup (zup (zput I 38 400 (I 35 15) (I 35 5)) 35 15 ((I 35 15) + (1 : Int32))) 35 18 ((I 35 18) + (1 : Int32))) J X))
                  else some (.inr (.inr (some (.int (2 : Int32))), zmk (zup (zup (zput I 38 400 (I 35 15) (I 35 5)) 35 15 ((I 35 15) + (1 : Int32))) 35 18 ((I 35 18) + (1 : Int32))) J X))
            else some (.inr (.inr (some (.int (0 : Int32))), zmk (zup (zup (zup (zup (zup (zup (zput I 38 400 (I 35 15) (I 35 5)) 35 15 ((I 35 15) + (1 : Int32))) 35 16 ((I 35 16) + (1 : Int32))) 35 7 (3 : Int32)) 35 17 (1 : Int32)) 35 18 (0 : Int32)) 35 19 ((I 35 19) &&& (((1 : Int32) <<< (((I 35 16) + (1 : Int32)) &&& 31)) ^^^ (-1 : Int32)))) J X))
          else some (.inr (.inr (some (.int (2 : Int32))), zmk I J X))
  else if decide ((I 35 5) = (258 : Int32)) = true then
    if decide ((6 : Int32) ≤ (I 35 16)) = true then
      some (.inr (.inr (some (.int (2 : Int32))), zmk I J X))
      else if decide (¬ (I 35 5) = (259 : Int32)) = true then
        if decide (¬ (I 35 5) = (40 : Int32)) = true then
          if decide (¬ (I 35 5) = (306 : Int32)) = true then
            if decide ((307 : Int32) ≤ (I 35 5)) = true then
              some (.inr (.inr (some (.int (0 : Int32))), zmk (zup (zup (zput I 37 400 (I 35 13) (I 35 6)) 35 13 ((I 35 13) + (1 : Int32))) 35 7 (4 : Int32)) J X))
              else some (.inr (.inr (some (.int (3 : Int32))), zmk I J X))
            else if decide ((I 35 17) = 0) = true then
              if decide ((307 : Int32) ≤ (I 35 5)) = true then
                some (.inr (.inr (some (.int (0 : Int32))), zmk (zup (zup (zput I 37 400 (I 35 13) (I 35 6)) 35 13 ((I 35 13) + (1 : Int32))) 35 7 (4 : Int32)) J X))
                else some (.inr (.inr (some (.int (3 : Int32))), zmk I J X))
              else if decide (((I 35 18) + (1 : Int32)) ≤ (6 : Int32)) = true then
                some (.inr (.inr (some (.int (0 : Int32))), zmk (zup (zup (zput I 38 400 (I 35 15) (I 35 5)) 35 15 ((I 35 15) + (1 : Int32))) 35 18 ((I 35 18) + (1 : Int32))) J X))
                else some (.inr (.inr (some (.int (2 : Int32))), zmk (zup (zup (zput I 38 400 (I 35 15) (I 35 5)) 35 15 ((I 35 15) + (1 : Int32))) 35 18 ((I 35 18) + (1 : Int32))) J X))
          else some (.inr (.inr (some (.int (0 : Int32))), zmk (zup (zup (zup (zup (zup (zup (zput I 38 400 (I 35 15) (I 35 5)) 35 15 ((I 35 15) + (1 : Int32))) 35 16 ((I 35 16) + (1 : Int32))) 35 7 (3 : Int32)) 35 17 (1 : Int32)) 35 18 (0 : Int32)) 35 19 ((I 35 19) &&& (((1 : Int32) <<< (((I 35 16) + (1 : Int32)) &&& 31)) ^^^ (-1 : Int32)))) J X))
        else some (.inr (.inr (some (.int (2 : Int32))), zmk I J X))
    else if decide (¬ (I 35 5) = (259 : Int32)) = true then
      if decide ((6 : Int32) ≤ (I 35 16)) = true then
        some (.inr (.inr (some (.int (2 : Int32))), zmk I J X))
        else if decide (¬ (I 35 5) = (259 : Int32)) = true then
          if decide (¬ (I 35 5) = (40 : Int32)) = true then
            if decide (¬ (I 35 5) = (306 : Int32)) = true then
              if decide ((307 : Int32) ≤ (I 35 5)) = true then
                some (.inr (.inr (some (.int (0 : Int32))), zmk (zup (zup (zput I 37 400 (I 35 13) (-(I 35 5))) 35 13 ((I 35 13) + (1 : Int32))) 35 7 (4 : Int32)) J X))
                else some (.inr (.inr (some (.int (3 : Int32))), zmk I J X))
              else if decide ((I 35 17) = 0) = true then
                if decide ((307 : Int32) ≤ (I 35 5)) = true then
                  some (.inr (.inr (some (.int (0 : Int32))), zmk (zup (zup (zput I 37 400 (I 35 13) (-(I 35 5))) 35 13 ((I 35 13) + (1 : Int32))) 35 7 (4 : Int32)) J X))
                  else some (.inr (.inr (some (.int (3 : Int32))), zmk I J X))
                else if decide (((I 35 18) + (1 : Int32)) ≤ (6 : Int32)) = true then
                  some (.inr (.inr (some (.int (0 : Int32))), zmk (zup (zup (zput I 38 400 (I 35 15) (I 35 5)) 35 15 ((I 35 15) + (1 : Int32))) 35 18 ((I 35 18) + (1 : Int32))) J X))
                  else some (.inr (.inr (some (.int (2 : Int32))), zmk (zup (zup (zput I 38 400 (I 35 15) (I 35 5)) 35 15 ((I 35 15) + (1 : Int32))) 35 18 ((I 35 18) + (1 : Int32))) J X))
            else some (.inr (.inr (some (.int (0 : Int32))), zmk (zup (zup (zup (zup (zup (zup (zput I 38 400 (I 35 15) (I 35 5)) 35 15 ((I 35 15) + (1 : Int32))) 35 16 ((I 35 16) + (1 : Int32))) 35 7 (3 : Int32)) 35 17 (1 : Int32)) 35 18 (0 : Int32)) 35 19 ((I 35 19) &&& (((1 : Int32) <<< (((I 35 16) + (1 : Int32)) &&& 31)) ^^^ (-1 : Int32)))) J X))
          else some (.inr (.inr (some (.int (2 : Int32))), zmk I J X))
      else if decide ((6 : Int32) ≤ (I 35 16)) = true then
        some (.inr (.inr (some (.int (2 : Int32))), zmk I J X))
        else if decide (¬ (I 35 5) = (259 : Int32)) = true then
          if decide (¬ (I 35 5) = (40 : Int32)) = true then
            if decide (¬ (I 35 5) = (306 : Int32)) = true then
              if decide ((307 : Int32) ≤ (I 35 5)) = true then
                some (.inr (.inr (some (.int (0 : Int32))), zmk (zup (zup (zput I 37 400 (I 35 13) (I 35 6)) 35 13 ((I 35 13) + (1 : Int32))) 35 7 (4 : Int32)) J X))
                else some (.inr (.inr (some (.int (3 : Int32))), zmk I J X))
              else if decide ((I 35 17) = 0) = true then
                if decide ((307 : Int32) ≤ (I 35 5)) = true then
                  some (.inr (.inr (some (.int (0 : Int32))), zmk (zup (zup (zput I 37 400 (I 35 13) (I 35 6)) 35 13 ((I 35 13) + (1 : Int32))) 35 7 (4 : Int32)) J X))
                  else some (.inr (.inr (some (.int (3 : Int32))), zmk I J X))
                else if decide (((I 35 18) + (1 : Int32)) ≤ (6 : Int32)) = true then
                  some (.inr (.inr (some (.int (0 : Int32))), zmk (zup (zup (zput I 38 400 (I 35 15) (I 35 5)) 35 15 ((I 35 15) + (1 : Int32))) 35 18 ((I 35 18) + (1 : Int32))) J X))
                  else some (.inr (.inr (some (.int (2 : Int32))), zmk (zup (zup (zput I 38 400 (I 35 15) (I 35 5)) 35 15 ((I 35 15) + (1 : Int32))) 35 18 ((I 35 18) + (1 : Int32))) J X))
            else some (.inr (.inr (some (.int (0 : Int32))), zmk (zup (zup (zup (zup (zup (zup (zput I 38 400 (I 35 15) (I 35 5)) 35 15 ((I 35 15) + (1 : Int32))) 35 16 ((I 35 16) + (1 : Int32))) 35 7 (3 : Int32)) 35 17 (1 : Int32)) 35 18 (0 : Int32)) 35 19 ((I 35 19) &&& (((1 : Int32) <<< (((I 35 16) + (1 : Int32)) &&& 31)) ^^^ (-1 : Int32)))) J X))
          else some (.inr (.inr (some (.int (2 : Int32))), zmk I J X)) := by
  refine zite_congr ?_ ?_
  · refine zite_congr ?_ ?_
    · refine zite_congr ?_ ?_
      · rfl
      · refine zite_congr ?_ ?_
        · refine zite_congr ?_ ?_
          · refine zite_congr ?_ ?_
            · rfl
            · refine zite_congr ?_ ?_
              · rfl
              · refine zite_congr ?_ ?_
                · rfl
                · rfl
          · rfl
        · rfl
    · refine zite_congr ?_ ?_
      · refine zite_congr ?_ ?_
        · refine zite_congr ?_ ?_
          · rfl
          · refine zite_congr ?_ ?_
            · refine zite_congr ?_ ?_
              · refine zite_congr ?_ ?_
                · rfl
                · refine zite_congr ?_ ?_
                  · rfl
                  · refine zite_congr ?_ ?_
                    · rfl
                    · rfl
              · rfl
            · rfl
        · rfl
      · refine zite_congr ?_ ?_
        · rfl
        · refine zite_congr ?_ ?_
          · refine zite_congr ?_ ?_
            · refine zite_congr ?_ ?_
              · rfl
              · refine zite_congr ?_ ?_
                · rfl
                · refine zite_congr ?_ ?_
                  · rfl
                  · rfl
            · rfl
          · rfl
  · refine zite_congr ?_ ?_
    · refine zite_congr ?_ ?_
      · rfl
      · refine zite_congr ?_ ?_
        · refine zite_congr ?_ ?_
          · refine zite_congr ?_ ?_
            · refine zite_congr ?_ ?_
              · rfl
              · rfl
            · refine zite_congr ?_ ?_
              · refine zite_congr ?_ ?_
                · rfl
                · rfl
              · refine zite_congr ?_ ?_
                · rfl
                · rfl
          · rfl
        · rfl
    · refine zite_congr ?_ ?_
      · refine zite_congr ?_ ?_
        · rfl
        · refine zite_congr ?_ ?_
          · refine zite_congr ?_ ?_
            · refine zite_congr ?_ ?_
              · refine zite_congr ?_ ?_
                · rfl
                · rfl
              · refine zite_congr ?_ ?_
                · refine zite_congr ?_ ?_
                  · rfl
                  · rfl
                · refine zite_congr ?_ ?_
                  · rfl
                  · rfl
            · rfl
          · rfl
      · refine zite_congr ?_ ?_
        · rfl
        · refine zite_congr ?_ ?_
          · refine zite_congr ?_ ?_
            · refine zite_congr ?_ ?_
              · refine zite_congr ?_ ?_
                · rfl
                · rfl
              · refine zite_congr ?_ ?_
                · refine zite_congr ?_ ?_
                  · rfl
                  · rfl
                · refine zite_congr ?_ ?_
                  · rfl
                  · rfl
            · rfl
          · rfl
/-! 61 Reader.joint ()I -/
theorem S61_0 (xs : Nat → Int32) (L d : Nat) (I : Nat → Nat → Int32) (J : Nat → Nat → Int64) (X : XH) : zseg (zE xs L (d + 5) 61) (zC 61) 700 (zC 61 0) [(0, .ref 35)] [] (zmk I J X) = if decide (¬ (I 35 5) = (59 : Int32)) = true then
  if decide (¬ (I 35 5) = (41 : Int32)) = true then
    if decide (¬ (zrank (I 35 5)) = (4 : Int32)) = true then
      if decide ((zrank (I 35 5)) = 0) = true then
        some (.inr (.inr (some (.int (1 : Int32))), zmk I J X))
        else if decide ((I 35 5) = (306 : Int32)) = true then
          some (.inr (.inr (some (.int (1 : Int32))), zmk I J X))
          else zcw (zE xs L (d + 5) 61) (zev xs L (d + 5) 62 [.ref 35, .int (zrank (I 35 5))] (zmk I J X)) (fun h => zseg (zE xs L (d + 5) 61) (zC 61) 671 (zB61_6.drop 3) [(2, .int (0 : Int32)), (1, .int (zrank (I 35 5))), (0, .ref 35)] [] h)
      else if decide ((((I 35 19) >>> ((I 35 16) &&& 31)) &&& (1 : Int32)) = 0) = true then
        if decide ((zrank (I 35 5)) = 0) = true then
          some (.inr (.inr (some (.int (1 : Int32))), zmk I J X))
          else if decide ((I 35 5) = (306 : Int32)) = true then
            some (.inr (.inr (some (.int (1 : Int32))), zmk I J X))
            else zcw (zE xs L (d + 5) 61) (zev xs L (d + 5) 62 [.ref 35, .int (zrank (I 35 5))] (zmk I J X)) (fun h => zseg (zE xs L (d + 5) 61) (zC 61) 663 (zB61_6.drop 3) [(2, .int (0 : Int32)), (1, .int (zrank (I 35 5))), (0, .ref 35)] [] h)
        else if decide ((zrank (I 35 5)) = 0) = true then
          some (.inr (.inr (some (.int (1 : Int32))), zmk I J X))
          else if decide ((I 35 5) = (306 : Int32)) = true then
            some (.inr (.inr (some (.int (1 : Int32))), zmk I J X))
            else some (.inr (.inr (some (.int (1 : Int32))), zmk I J X))
    else if decide ((I 35 16) ≤ 0) = true then
      if decide (¬ (zrank (I 35 5)) = (4 : Int32)) = true then
        if decide ((zrank (I 35 5)) = 0) = true then
          some (.inr (.inr (some (.int (1 : Int32))), zmk I J X))
          else if decide ((I 35 5) = (306 : Int32)) = true then
            some (.inr (.inr (some (.int (1 : Int32))), zmk I J X))
            else zcw (zE xs L (d + 5) 61) (zev xs L (d + 5) 62 [.ref 35, .int (zrank (I 35 5))] (zmk I J X)) (fun h => zseg (zE xs L (d + 5) 61) (zC 61) 668 (zB61_6.drop 3) [(2, .int (0 : Int32)), (1, .int (zrank (I 35 5))), (0, .ref 35)] [] h)
        else if decide ((((I 35 19) >>> ((I 35 16) &&& 31)) &&& (1 : Int32)) = 0) = true then
          if decide ((zrank (I 35 5)) = 0) = true then
            some (.inr (.inr (some (.int (1 : Int32))), zmk I J X))
            else if decide ((I 35 5) = (306 : Int32)) = true then
              some (.inr (.inr (some (.int (1 : Int32))), zmk I J X))
              else zcw (zE xs L (d + 5) 61) (zev xs L (d + 5) 62 [.ref 35, .int (zrank (I 35 5))] (zmk I J X)) (fun h => zseg (zE xs L (d + 5) 61) (zC 61) 660 (zB61_6.drop 3) [(2, .int (0 : Int32)), (1, .int (zrank (I 35 5))), (0, .ref 35)] [] h)
          else if decide ((zrank (I 35 5)) = 0) = true then
            some (.inr (.inr (some (.int (1 : Int32))), zmk I J X))
            else if decide ((I 35 5) = (306 : Int32)) = true then
              some (.inr (.inr (some (.int (1 : Int32))), zmk I J X))
              else some (.inr (.inr (some (.int (1 : Int32))), zmk I J X))
      else zcw (zE xs L (d + 5) 61) (zev xs L (d + 5) 62 [.ref 35, .int (1 : Int32)] (zmk I J X)) (fun h => zseg (zE xs L (d + 5) 61) (zC 61) 686 (zB61_1.drop 10) [(0, .ref 35)] [] h)
  else if decide (¬ (I 35 16) = 0) = true then
    if decide (¬ (I 35 5) = (41 : Int32)) = true then
      if decide (¬ (zrank (I 35 5)) = (4 : Int32)) = true then
        if decide ((zrank (I 35 5)) = 0) = true then
          some (.inr (.inr (some (.int (1 : Int32))), zmk I J X))
          else if decide ((I 35 5) = (306 : Int32)) = true then
            some (.inr (.inr (some (.int (1 : Int32))), zmk I J X))
            else zcw (zE xs L (d + 5) 61) (zev xs L (d + 5) 62 [.ref 35, .int (zrank (I 35 5))] (zmk I J X)) (fun h => zseg (zE xs L (d + 5) 61) (zC 61) 668 (zB61_6.drop 3) [(2, .int (0 : Int32)), (1, .int (zrank (I 35 5))), (0, .ref 35)] [] h)
        else if decide ((((I 35 19) >>> ((I 35 16) &&& 31)) &&& (1 : Int32)) = 0) = true then
          if decide ((zrank (I 35 5)) = 0) = true then
            some (.inr (.inr (some (.int (1 : Int32))), zmk I J X))
            else if decide ((I 35 5) = (306 : Int32)) = true then
              some (.inr (.inr (some (.int (1 : Int32))), zmk I J X))
              else zcw (zE xs L (d + 5) 61) (zev xs L (d + 5) 62 [.ref 35, .int (zrank (I 35 5))] (zmk I J X)) (fun h => zseg (zE xs L (d + 5) 61) (zC 61) 660 (zB61_6.drop 3) [(2, .int (0 : Int32)), (1, .int (zrank (I 35 5))), (0, .ref 35)] [] h)
          else if decide ((zrank (I 35 5)) = 0) = true then
            some (.inr (.inr (some (.int (1 : Int32))), zmk I J X))
            else if decide ((I 35 5) = (306 : Int32)) = true then
              some (.inr (.inr (some (.int (1 : Int32))), zmk I J X))
              else some (.inr (.inr (some (.int (1 : Int32))), zmk I J X))
      else if decide ((I 35 16) ≤ 0) = true then
        if decide (¬ (zrank (I 35 5)) = (4 : Int32)) = true then
          if decide ((zrank (I 35 5)) = 0) = true then
            some (.inr (.inr (some (.int (1 : Int32))), zmk I J X))
            else if decide ((I 35 5) = (306 : Int32)) = true then
              some (.inr (.inr (some (.int (1 : Int32))), zmk I J X))
              else zcw (zE xs L (d + 5) 61) (zev xs L (d + 5) 62 [.ref 35, .int (zrank (I 35 5))] (zmk I J X)) (fun h => zseg (zE xs L (d + 5) 61) (zC 61) 665 (zB61_6.drop 3) [(2, .int (0 : Int32)), (1, .int (zrank (I 35 5))), (0, .ref 35)] [] h)
          else if decide ((((I 35 19) >>> ((I 35 16) &&& 31)) &&& (1 : Int32)) = 0) = true then
            if decide ((zrank (I 35 5)) = 0) = true then
              some (.inr (.inr (some (.int (1 : Int32))), zmk I J X))
              else if decide ((I 35 5) = (306 : Int32)) = true then
                some (.inr (.inr (some (.int (1 : Int32))), zmk I J X))
                else zcw (zE xs L (d + 5) 61) (zev xs L (d + 5) 62 [.ref 35, .int (zrank (I 35 5))] (zmk I J X)) (fun h => zseg (zE xs L (d + 5) 61) (zC 61) 657 (zB61_6.drop 3) [(2, .int (0 : Int32)), (1, .int (zrank (I 35 5))), (0, .ref 35)] [] h)
            else if decide ((zrank (I 35 5)) = 0) = true then
              some (.inr (.inr (some (.int (1 : Int32))), zmk I J X))
              else if decide ((I 35 5) = (306 : Int32)) = true then
                some (.inr (.inr (some (.int (1 : Int32))), zmk I J X))
                else some (.inr (.inr (some (.int (1 : Int32))), zmk I J X))
        else zcw (zE xs L (d + 5) 61) (zev xs L (d + 5) 62 [.ref 35, .int (1 : Int32)] (zmk I J X)) (fun h => zseg (zE xs L (d + 5) 61) (zC 61) 683 (zB61_1.drop 10) [(0, .ref 35)] [] h)
    else zcw (zE xs L (d + 5) 61) (zev xs L (d + 5) 62 [.ref 35, .int (1 : Int32)] (zmk I J X)) (fun h => zseg (zE xs L (d + 5) 61) (zC 61) 690 (zB61_0.drop 10) [(0, .ref 35)] [] h) := by
  refine zite_congr ?_ ?_
  · refine zite_congr ?_ ?_
    · refine zite_congr ?_ ?_
      · refine zite_congr ?_ ?_
        · rfl
        · refine zite_congr ?_ ?_
          · rfl
          · rfl
      · refine zite_congr ?_ ?_
        · refine zite_congr ?_ ?_
          · rfl
          · refine zite_congr ?_ ?_
            · rfl
            · rfl
        · refine zite_congr ?_ ?_
          · rfl
          · refine zite_congr ?_ ?_
            · rfl
            · rfl
    · refine zite_congr ?_ ?_
      · refine zite_congr ?_ ?_
        · refine zite_congr ?_ ?_
          · rfl
          · refine zite_congr ?_ ?_
            · rfl
            · rfl
        · refine zite_congr ?_ ?_
          · refine zite_congr ?_ ?_
            · rfl
            · refine zite_congr ?_ ?_
              · rfl
              · rfl
          · refine zite_congr ?_ ?_
            · rfl
            · refine zite_congr ?_ ?_
              · rfl
              · rfl
      · rfl
  · refine zite_congr ?_ ?_
    · refine zite_congr ?_ ?_
      · refine zite_congr ?_ ?_
        · refine zite_congr ?_ ?_
          · rfl
          · refine zite_congr ?_ ?_
            · rfl
            · rfl
        · refine zite_congr ?_ ?_
          · refine zite_congr ?_ ?_
            · rfl
            · refine zite_congr ?_ ?_
              · rfl
              · rfl
          · refine zite_congr ?_ ?_
            · rfl
            · refine zite_congr ?_ ?_
              · rfl
              · rfl
      · refine zite_congr ?_ ?_
        · refine zite_congr ?_ ?_
          · refine zite_congr ?_ ?_
            · rfl
            · refine zite_congr ?_ ?_
              · rfl
              · rfl
          · refine zite_congr ?_ ?_
            · refine zite_congr ?_ ?_
              · rfl
              · refine zite_congr ?_ ?_
                · rfl
                · rfl
            · refine zite_congr ?_ ?_
              · rfl
              · refine zite_congr ?_ ?_
                · rfl
                · rfl
        · rfl
    · rfl
theorem T61_6_3_671 (xs : Nat → Int32) (L d : Nat) (I : Nat → Nat → Int32) (J : Nat → Nat → Int64) (X : XH) (a2 : Int32) (a1 : Int32) : zseg (zE xs L (d + 5) 61) (zC 61) 671 (zB61_6.drop 3) [(2, .int a2), (1, .int a1), (0, .ref 35)] [] (zmk I J X) = zcw (zE xs L (d + 5) 61) (zev xs L (d + 5) 63 [.ref 35, .int a1] (zmk (zup (zput I 38 400 (I 35 15) (I 35 5)) 35 15 ((I 35 15) + (1 : Int32))) J X)) (fun h => zseg (zE xs L (d + 5) 61) (zC 61) 666 (zB61_6.drop 8) [(2, .int a2), (1, .int a1), (0, .ref 35)] [] h) := by
  rfl
theorem T61_6_3_663 (xs : Nat → Int32) (L d : Nat) (I : Nat → Nat → Int32) (J : Nat → Nat → Int64) (X : XH) (a2 : Int32) (a1 : Int32) : zseg (zE xs L (d + 5) 61) (zC 61) 663 (zB61_6.drop 3) [(2, .int a2), (1, .int a1), (0, .ref 35)] [] (zmk I J X) = zcw (zE xs L (d + 5) 61) (zev xs L (d + 5) 63 [.ref 35, .int a1] (zmk (zup (zput I 38 400 (I 35 15) (I 35 5)) 35 15 ((I 35 15) + (1 : Int32))) J X)) (fun h => zseg (zE xs L (d + 5) 61) (zC 61) 658 (zB61_6.drop 8) [(2, .int a2), (1, .int a1), (0, .ref 35)] [] h) := by
  rfl
theorem T61_6_3_668 (xs : Nat → Int32) (L d : Nat) (I : Nat → Nat → Int32) (J : Nat → Nat → Int64) (X : XH) (a2 : Int32) (a1 : Int32) : zseg (zE xs L (d + 5) 61) (zC 61) 668 (zB61_6.drop 3) [(2, .int a2), (1, .int a1), (0, .ref 35)] [] (zmk I J X) = zcw (zE xs L (d + 5) 61) (zev xs L (d + 5) 63 [.ref 35, .int a1] (zmk (zup (zput I 38 400 (I 35 15) (I 35 5)) 35 15 ((I 35 15) + (1 : Int32))) J X)) (fun h => zseg (zE xs L (d + 5) 61) (zC 61) 663 (zB61_6.drop 8) [(2, .int a2), (1, .int a1), (0, .ref 35)] [] h) := by
  rfl
theorem T61_6_3_660 (xs : Nat → Int32) (L d : Nat) (I : Nat → Nat → Int32) (J : Nat → Nat → Int64) (X : XH) (a2 : Int32) (a1 : Int32) : zseg (zE xs L (d + 5) 61) (zC 61) 660 (zB61_6.drop 3) [(2, .int a2), (1, .int a1), (0, .ref 35)] [] (zmk I J X) = zcw (zE xs L (d + 5) 61) (zev xs L (d + 5) 63 [.ref 35, .int a1] (zmk (zup (zput I 38 400 (I 35 15) (I 35 5)) 35 15 ((I 35 15) + (1 : Int32))) J X)) (fun h => zseg (zE xs L (d + 5) 61) (zC 61) 655 (zB61_6.drop 8) [(2, .int a2), (1, .int a1), (0, .ref 35)] [] h) := by
  rfl
theorem T61_1_10_686 (xs : Nat → Int32) (L d : Nat) (I : Nat → Nat → Int32) (J : Nat → Nat → Int64) (X : XH) : zseg (zE xs L (d + 5) 61) (zC 61) 686 (zB61_1.drop 10) [(0, .ref 35)] [] (zmk I J X) = some (.inr (.inr (some (.int (0 : Int32))), zmk (zup (zup I 35 15 ((I 35 15) - (1 : Int32))) 35 16 ((I 35 16) - (1 : Int32))) J X)) := by
  rfl
theorem T61_6_3_665 (xs : Nat → Int32) (L d : Nat) (I : Nat → Nat → Int32) (J : Nat → Nat → Int64) (X : XH) (a2 : Int32) (a1 : Int32) : zseg (zE xs L (d + 5) 61) (zC 61) 665 (zB61_6.drop 3) [(2, .int a2), (1, .int a1), (0, .ref 35)] [] (zmk I J X) = zcw (zE xs L (d + 5) 61) (zev xs L (d + 5) 63 [.ref 35, .int a1] (zmk (zup (zput I 38 400 (I 35 15) (I 35 5)) 35 15 ((I 35 15) + (1 : Int32))) J X)) (fun h => zseg (zE xs L (d + 5) 61) (zC 61) 660 (zB61_6.drop 8) [(2, .int a2), (1, .int a1), (0, .ref 35)] [] h) := by
  rfl
theorem T61_6_3_657 (xs : Nat → Int32) (L d : Nat) (I : Nat → Nat → Int32) (J : Nat → Nat → Int64) (X : XH) (a2 : Int32) (a1 : Int32) : zseg (zE xs L (d + 5) 61) (zC 61) 657 (zB61_6.drop 3) [(2, .int a2), (1, .int a1), (0, .ref 35)] [] (zmk I J X) = zcw (zE xs L (d + 5) 61) (zev xs L (d + 5) 63 [.ref 35, .int a1] (zmk (zup (zput I 38 400 (I 35 15) (I 35 5)) 35 15 ((I 35 15) + (1 : Int32))) J X)) (fun h => zseg (zE xs L (d + 5) 61) (zC 61) 652 (zB61_6.drop 8) [(2, .int a2), (1, .int a1), (0, .ref 35)] [] h) := by
  rfl
theorem T61_1_10_683 (xs : Nat → Int32) (L d : Nat) (I : Nat → Nat → Int32) (J : Nat → Nat → Int64) (X : XH) : zseg (zE xs L (d + 5) 61) (zC 61) 683 (zB61_1.drop 10) [(0, .ref 35)] [] (zmk I J X) = some (.inr (.inr (some (.int (0 : Int32))), zmk (zup (zup I 35 15 ((I 35 15) - (1 : Int32))) 35 16 ((I 35 16) - (1 : Int32))) J X)) := by
  rfl
theorem T61_0_10_690 (xs : Nat → Int32) (L d : Nat) (I : Nat → Nat → Int32) (J : Nat → Nat → Int64) (X : XH) : zseg (zE xs L (d + 5) 61) (zC 61) 690 (zB61_0.drop 10) [(0, .ref 35)] [] (zmk I J X) = some (.inr (.inr (some (.int (0 : Int32))), zmk (zup (zup (zput I 37 400 (I 35 13) (-(I 35 9))) 35 13 ((I 35 13) + (1 : Int32))) 35 7 (0 : Int32)) J X)) := by
  rfl
theorem T61_6_8_666 (xs : Nat → Int32) (L d : Nat) (I : Nat → Nat → Int32) (J : Nat → Nat → Int64) (X : XH) (a2 : Int32) (a1 : Int32) : zseg (zE xs L (d + 5) 61) (zC 61) 666 (zB61_6.drop 8) [(2, .int a2), (1, .int a1), (0, .ref 35)] [] (zmk I J X) = some (.inr (.inr (some (.int (0 : Int32))), zmk I J X)) := by
  rfl
theorem T61_6_8_658 (xs : Nat → Int32) (L d : Nat) (I : Nat → Nat → Int32) (J : Nat → Nat → Int64) (X : XH) (a2 : Int32) (a1 : Int32) : zseg (zE xs L (d + 5) 61) (zC 61) 658 (zB61_6.drop 8) [(2, .int a2), (1, .int a1), (0, .ref 35)] [] (zmk I J X) = some (.inr (.inr (some (.int (0 : Int32))), zmk I J X)) := by
  rfl
theorem T61_6_8_663 (xs : Nat → Int32) (L d : Nat) (I : Nat → Nat → Int32) (J : Nat → Nat → Int64) (X : XH) (a2 : Int32) (a1 : Int32) : zseg (zE xs L (d + 5) 61) (zC 61) 663 (zB61_6.drop 8) [(2, .int a2), (1, .int a1), (0, .ref 35)] [] (zmk I J X) = some (.inr (.inr (some (.int (0 : Int32))), zmk I J X)) := by
  rfl
theorem T61_6_8_655 (xs : Nat → Int32) (L d : Nat) (I : Nat → Nat → Int32) (J : Nat → Nat → Int64) (X : XH) (a2 : Int32) (a1 : Int32) : zseg (zE xs L (d + 5) 61) (zC 61) 655 (zB61_6.drop 8) [(2, .int a2), (1, .int a1), (0, .ref 35)] [] (zmk I J X) = some (.inr (.inr (some (.int (0 : Int32))), zmk I J X)) := by
  rfl
theorem T61_6_8_660 (xs : Nat → Int32) (L d : Nat) (I : Nat → Nat → Int32) (J : Nat → Nat → Int64) (X : XH) (a2 : Int32) (a1 : Int32) : zseg (zE xs L (d + 5) 61) (zC 61) 660 (zB61_6.drop 8) [(2, .int a2), (1, .int a1), (0, .ref 35)] [] (zmk I J X) = some (.inr (.inr (some (.int (0 : Int32))), zmk I J X)) := by
  rfl
theorem T61_6_8_652 (xs : Nat → Int32) (L d : Nat) (I : Nat → Nat → Int32) (J : Nat → Nat → Int64) (X : XH) (a2 : Int32) (a1 : Int32) : zseg (zE xs L (d + 5) 61) (zC 61) 652 (zB61_6.drop 8) [(2, .int a2), (1, .int a1), (0, .ref 35)] [] (zmk I J X) = some (.inr (.inr (some (.int (0 : Int32))), zmk I J X)) := by
  rfl
/-! 62 Reader.unwind (I)V -/
theorem S62_0 (xs : Nat → Int32) (L d : Nat) (I : Nat → Nat → Int32) (J : Nat → Nat → Int64) (X : XH) (a1 : Int32) : zseg (zE xs L (d + 5) 62) (zC 62) 700 (zC 62 0) [(0, .ref 35), (1, .int a1)] [] (zmk I J X) = some (.inl (1, [(0, .ref 35), (1, .int a1)], zmk I J X)) := by
  rfl
theorem S62_1 (xs : Nat → Int32) (L d : Nat) (I : Nat → Nat → Int32) (J : Nat → Nat → Int64) (X : XH) (a1 : Int32) : zseg (zE xs L (d + 5) 62) (zC 62) 700 (zC 62 1) [(0, .ref 35), (1, .int a1)] [] (zmk I J X) = if decide ((I 35 15) ≤ 0) = true then
  some (.inr (.inr none, zmk I J X))
  else if decide ((zrank (zat I 38 400 ((I 35 15) - (1 : Int32)))) < a1) = true then
    some (.inr (.inr none, zmk I J X))
    else some (.inl (1, [(0, .ref 35), (1, .int a1)], zmk (zup (zup (zput I 37 400 (I 35 13) (-(zat I 38 400 ((I 35 15) - (1 : Int32))))) 35 13 ((I 35 13) + (1 : Int32))) 35 15 ((I 35 15) - (1 : Int32))) J X)) := by
  refine zite_congr ?_ ?_
  · rfl
  · refine zite_congr ?_ ?_
    · rfl
    · rfl
/-! 63 Reader.join (I)V -/
theorem S63_0 (xs : Nat → Int32) (L d : Nat) (I : Nat → Nat → Int32) (J : Nat → Nat → Int64) (X : XH) (a1 : Int32) : zseg (zE xs L (d + 5) 63) (zC 63) 700 (zC 63 0) [(0, .ref 35), (1, .int a1)] [] (zmk I J X) = if decide ((4 : Int32) ≤ a1) = true then
  if decide (¬ a1 = (4 : Int32)) = true then
    some (.inr (.inr none, zmk (zup (zup (zup I 35 7 (3 : Int32)) 35 17 (0 : Int32)) 35 19 ((I 35 19) ||| (0 : Int32))) J X))
    else some (.inr (.inr none, zmk (zup (zup (zup I 35 7 (3 : Int32)) 35 17 (0 : Int32)) 35 19 ((I 35 19) ||| ((1 : Int32) <<< ((I 35 16) &&& 31)))) J X))
  else some (.inr (.inr none, zmk (zup (zup (zup (zup I 35 7 (3 : Int32)) 35 17 (1 : Int32)) 35 18 (0 : Int32)) 35 19 ((I 35 19) &&& (((1 : Int32) <<< ((I 35 16) &&& 31)) ^^^ (-1 : Int32)))) J X)) := by
  refine zite_congr ?_ ?_
  · refine zite_congr ?_ ?_
    · rfl
    · rfl
  · rfl
/-! 66 Signals.add (IIII)I -/
theorem S66_0 (xs : Nat → Int32) (L d : Nat) (I : Nat → Nat → Int32) (J : Nat → Nat → Int64) (X : XH) (a1 : Int32) (a2 : Int32) (a3 : Int32) (a4 : Int32) : zseg (zE xs L (d + 5) 66) (zC 66) 700 (zC 66 0) [(0, .ref 26), (1, .int a1), (2, .int a2), (3, .int a3), (4, .int a4)] [] (zmk I J X) = if decide ((I 26 4) < (300 : Int32)) = true then
  some (.inl (3, [(0, .ref 26), (1, .int a1), (2, .int a2), (3, .int a3), (4, .int a4), (5, .int (I 26 4))], zmk (zput (zput (zput (zput (zput I 27 300 (I 26 4) a1) 28 300 (I 26 4) a2) 29 300 (I 26 4) a3) 30 300 (I 26 4) a4) 31 300 (I 26 4) (-1 : Int32)) J X))
  else some (.inr (.inr (some (.int (-1 : Int32))), zmk I J X)) := by
  refine zite_congr ?_ ?_
  · rfl
  · rfl
theorem S66_3 (xs : Nat → Int32) (L d : Nat) (I : Nat → Nat → Int32) (J : Nat → Nat → Int64) (X : XH) (a1 : Int32) (a2 : Int32) (a3 : Int32) (a4 : Int32) (a5 : Int32) : zseg (zE xs L (d + 5) 66) (zC 66) 700 (zC 66 3) [(0, .ref 26), (1, .int a1), (2, .int a2), (3, .int a3), (4, .int a4), (5, .int a5)] [] (zmk I J X) = if decide (a5 ≤ 0) = true then
  some (.inr (.inr (some (.int (I 26 4))), zmk (zup (zput I 32 300 a5 (I 26 4)) 26 4 ((I 26 4) + (1 : Int32))) J X))
  else if decide ((zat I 29 300 (zat I 32 300 (a5 - (1 : Int32)))) ≤ a3) = true then
    some (.inr (.inr (some (.int (I 26 4))), zmk (zup (zput I 32 300 a5 (I 26 4)) 26 4 ((I 26 4) + (1 : Int32))) J X))
    else some (.inl (3, [(0, .ref 26), (1, .int a1), (2, .int a2), (3, .int a3), (4, .int a4), (5, .int (a5 + (-1 : Int32)))], zmk (zput I 32 300 a5 (zat I 32 300 (a5 - (1 : Int32)))) J X)) := by
  refine zite_congr ?_ ?_
  · rfl
  · refine zite_congr ?_ ?_
    · rfl
    · rfl
/-! 69 Signals.takeBack (II)Z -/
theorem S69_0 (xs : Nat → Int32) (L d : Nat) (I : Nat → Nat → Int32) (J : Nat → Nat → Int64) (X : XH) (a1 : Int32) (a2 : Int32) : zseg (zE xs L (d + 5) 69) (zC 69) 700 (zC 69 0) [(0, .ref 26), (1, .int a1), (2, .int a2)] [] (zmk I J X) = if decide ((zat I 31 300 a1) = (-1 : Int32)) = true then
  some (.inr (.inr (some (.int (1 : Int32))), zmk (zput I 31 300 a1 a2) J X))
  else some (.inr (.inr (some (.int (0 : Int32))), zmk I J X)) := by
  refine zite_congr ?_ ?_
  · rfl
  · rfl
/-! 70 Signals.know (I)V -/
theorem S70_0 (xs : Nat → Int32) (L d : Nat) (I : Nat → Nat → Int32) (J : Nat → Nat → Int64) (X : XH) (a1 : Int32) : zseg (zE xs L (d + 5) 70) (zC 70) 700 (zC 70 0) [(0, .ref 26), (1, .int a1)] [] (zmk I J X) = zcw (zE xs L (d + 5) 70) (zev xs L (d + 5) 10 [.ref 20, .ref 33, .int a1] (zmk (zcpI I 28 33 300) J X)) (fun h => zseg (zE xs L (d + 5) 70) (zC 70) 686 (zB70_0.drop 14) [(0, .ref 26), (1, .int a1)] [] h) := by
  rfl
theorem T70_0_14_686 (xs : Nat → Int32) (L d : Nat) (I : Nat → Nat → Int32) (J : Nat → Nat → Int64) (X : XH) (a1 : Int32) : zseg (zE xs L (d + 5) 70) (zC 70) 686 (zB70_0.drop 14) [(0, .ref 26), (1, .int a1)] [] (zmk I J X) = some (.inl (2, [(0, .ref 26), (1, .int a1), (2, .int (0 : Int32))], zmk I J X)) := by
  rfl
theorem S70_2 (xs : Nat → Int32) (L d : Nat) (I : Nat → Nat → Int32) (J : Nat → Nat → Int64) (X : XH) (a1 : Int32) (a2 : Int32) : zseg (zE xs L (d + 5) 70) (zC 70) 700 (zC 70 2) [(0, .ref 26), (1, .int a1), (2, .int a2)] [] (zmk I J X) = if decide ((I 26 4) ≤ a2) = true then
  some (.inl (7, [(0, .ref 26), (1, .int a1), (2, .int (0 : Int32))], zmk I J X))
  else zci (zE xs L (d + 5) 70) (zev xs L (d + 5) 71 [.ref 26, .int a2, .int a1] (zmk I J X)) (fun r h => zseg (zE xs L (d + 5) 70) (zC 70) 692 (zB70_2.drop 8) [(0, .ref 26), (1, .int a1), (2, .int a2)] [.int r] h) := by
  refine zite_congr ?_ ?_
  · rfl
  · rfl
theorem T70_2_8_692 (xs : Nat → Int32) (L d : Nat) (I : Nat → Nat → Int32) (J : Nat → Nat → Int64) (X : XH) (a1 : Int32) (a2 : Int32) (b0 : Int32) : zseg (zE xs L (d + 5) 70) (zC 70) 692 (zB70_2.drop 8) [(0, .ref 26), (1, .int a1), (2, .int a2)] [.int b0] (zmk I J X) = if decide (b0 = 0) = true then
  some (.inl (2, [(0, .ref 26), (1, .int a1), (2, .int (a2 + (1 : Int32)))], zmk (zput I 33 300 a2 (-1 : Int32)) J X))
  else zci (zE xs L (d + 5) 70) (zev xs L (d + 5) 72 [.ref 26, .int a2, .int a1] (zmk I J X)) (fun r h => zseg (zE xs L (d + 5) 70) (zC 70) 687 (zB70_2.drop 13) [(0, .ref 26), (1, .int a1), (2, .int a2)] [.int r] h) := by
  refine zite_congr ?_ ?_
  · rfl
  · rfl
theorem T70_2_13_687 (xs : Nat → Int32) (L d : Nat) (I : Nat → Nat → Int32) (J : Nat → Nat → Int64) (X : XH) (a1 : Int32) (a2 : Int32) (b0 : Int32) : zseg (zE xs L (d + 5) 70) (zC 70) 687 (zB70_2.drop 13) [(0, .ref 26), (1, .int a1), (2, .int a2)] [.int b0] (zmk I J X) = if decide (b0 = 0) = true then
  some (.inl (2, [(0, .ref 26), (1, .int a1), (2, .int (a2 + (1 : Int32)))], zmk I J X))
  else some (.inl (2, [(0, .ref 26), (1, .int a1), (2, .int (a2 + (1 : Int32)))], zmk (zput I 33 300 a2 (-1 : Int32)) J X)) := by
  refine zite_congr ?_ ?_
  · rfl
  · rfl
theorem S70_7 (xs : Nat → Int32) (L d : Nat) (I : Nat → Nat → Int32) (J : Nat → Nat → Int64) (X : XH) (a1 : Int32) (a2 : Int32) : zseg (zE xs L (d + 5) 70) (zC 70) 700 (zC 70 7) [(0, .ref 26), (1, .int a1), (2, .int a2)] [] (zmk I J X) = if decide ((I 26 4) ≤ a2) = true then
  some (.inr (.inr none, zmk I J X))
  else zci (zE xs L (d + 5) 70) (zev xs L (d + 5) 74 [.ref 26, .int a2, .int a1] (zmk I J X)) (fun r h => zseg (zE xs L (d + 5) 70) (zC 70) 687 (zB70_7.drop 13) [(0, .ref 26), (1, .int a1), (2, .int a2)] [.int r, .int (zat I 32 300 a2), .ref 34] h) := by
  refine zite_congr ?_ ?_
  · rfl
  · rfl
theorem T70_7_13_687 (xs : Nat → Int32) (L d : Nat) (I : Nat → Nat → Int32) (J : Nat → Nat → Int64) (X : XH) (a1 : Int32) (a2 : Int32) (b1 : Int32) (b2 : Int32) : zseg (zE xs L (d + 5) 70) (zC 70) 687 (zB70_7.drop 13) [(0, .ref 26), (1, .int a1), (2, .int a2)] [.int b2, .int b1, .ref 34] (zmk I J X) = if decide (b2 = 0) = true then
  some (.inl (7, [(0, .ref 26), (1, .int a1), (2, .int (a2 + (1 : Int32)))], zmk (zput I 34 300 b1 (0 : Int32)) J X))
  else some (.inl (7, [(0, .ref 26), (1, .int a1), (2, .int (a2 + (1 : Int32)))], zmk (zput I 34 300 b1 (1 : Int32)) J X)) := by
  refine zite_congr ?_ ?_
  · rfl
  · rfl
/-! 71 Signals.isKnown (II)Z -/
theorem S71_0 (xs : Nat → Int32) (L d : Nat) (I : Nat → Nat → Int32) (J : Nat → Nat → Int64) (X : XH) (a1 : Int32) (a2 : Int32) : zseg (zE xs L (d + 5) 71) (zC 71) 700 (zC 71 0) [(0, .ref 26), (1, .int a1), (2, .int a2)] [] (zmk I J X) = if decide (a2 < (zat I 30 300 a1)) = true then
  some (.inr (.inr (some (.int (0 : Int32))), zmk I J X))
  else if decide ((zat I 31 300 a1) = (-1 : Int32)) = true then
    some (.inr (.inr (some (.int (1 : Int32))), zmk I J X))
    else if decide ((zat I 31 300 a1) ≤ a2) = true then
      some (.inr (.inr (some (.int (0 : Int32))), zmk I J X))
      else some (.inr (.inr (some (.int (1 : Int32))), zmk I J X)) := by
  refine zite_congr ?_ ?_
  · rfl
  · refine zite_congr ?_ ?_
    · rfl
    · refine zite_congr ?_ ?_
      · rfl
      · rfl
/-! 72 Signals.isLate (II)Z -/
theorem S72_0 (xs : Nat → Int32) (L d : Nat) (I : Nat → Nat → Int32) (J : Nat → Nat → Int64) (X : XH) (a1 : Int32) (a2 : Int32) : zseg (zE xs L (d + 5) 72) (zC 72) 700 (zC 72 0) [(0, .ref 26), (1, .int a1), (2, .int a2)] [] (zmk I J X) = if decide ((zat I 33 300 a1) = (-1 : Int32)) = true then
  some (.inr (.inr (some (.int (0 : Int32))), zmk I J X))
  else zcr (zE xs L (d + 5) 72) (zev xs L (d + 5) 4 [.ref 15, .int (zat I 4 40 (zat I 33 300 a1)), .int (zat I 29 300 a1), .int a2] (zmk I J X)) (fun r h => zseg (zE xs L (d + 5) 72) (zC 72) 674 (zB72_0.drop 26) [(4, .int (zat I 29 300 a1)), (3, .int (zat I 33 300 a1)), (0, .ref 26), (1, .int a1), (2, .int a2)] [.ref r, .int ((zat I 30 300 a1) - (zat I 29 300 a1))] h) (fun h => zseg (zE xs L (d + 5) 72) (zC 72) 674 (zB72_0.drop 26) [(4, .int (zat I 29 300 a1)), (3, .int (zat I 33 300 a1)), (0, .ref 26), (1, .int a1), (2, .int a2)] [.null, .int ((zat I 30 300 a1) - (zat I 29 300 a1))] h) := by
  refine zite_congr ?_ ?_
  · rfl
  · rfl
theorem T72_0_26_674 (xs : Nat → Int32) (L d : Nat) (I : Nat → Nat → Int32) (J : Nat → Nat → Int64) (X : XH) (a4 : Int32) (a3 : Int32) (a1 : Int32) (a2 : Int32) (b0 : Int32) (b1 : Nat) : zseg (zE xs L (d + 5) 72) (zC 72) 674 (zB72_0.drop 26) [(4, .int a4), (3, .int a3), (0, .ref 26), (1, .int a1), (2, .int a2)] [.ref b1, .int b0] (zmk I J X) = if hK (zmk I J X) b1 = (18, 0) then
  if decide (b0 ≤ (I b1 2)) = true then
    some (.inr (.inr (some (.int (0 : Int32))), zmk I J X))
    else some (.inr (.inr (some (.int (1 : Int32))), zmk I J X))
  else none := by
  refine zite_congr ?_ ?_
  · refine zite_congr ?_ ?_
    · rfl
    · rfl
  · rfl
theorem T72_0_26_674_1 (xs : Nat → Int32) (L d : Nat) (I : Nat → Nat → Int32) (J : Nat → Nat → Int64) (X : XH) (a4 : Int32) (a3 : Int32) (a1 : Int32) (a2 : Int32) (b0 : Int32) : zseg (zE xs L (d + 5) 72) (zC 72) 674 (zB72_0.drop 26) [(4, .int a4), (3, .int a3), (0, .ref 26), (1, .int a1), (2, .int a2)] [.null, .int b0] (zmk I J X) = none := by
  rfl
/-! 74 Signals.hasTwin (II)Z -/
theorem S74_0 (xs : Nat → Int32) (L d : Nat) (I : Nat → Nat → Int32) (J : Nat → Nat → Int64) (X : XH) (a1 : Int32) (a2 : Int32) : zseg (zE xs L (d + 5) 74) (zC 74) 700 (zC 74 0) [(0, .ref 26), (1, .int a1), (2, .int a2)] [] (zmk I J X) = if decide (¬ (zat I 33 300 (zat I 32 300 a1)) = (-1 : Int32)) = true then
  zcr (zE xs L (d + 5) 74) (zev xs L (d + 5) 4 [.ref 15, .int (zat I 4 40 (zat I 33 300 (zat I 32 300 a1))), .int (zat I 29 300 (zat I 32 300 a1)), .int a2] (zmk I J X)) (fun r h => zseg (zE xs L (d + 5) 74) (zC 74) 676 (zB74_1.drop 15) [(4, .int (zat I 29 300 (zat I 32 300 a1))), (3, .int (zat I 32 300 a1)), (0, .ref 26), (1, .int a1), (2, .int a2)] [.ref r] h) (fun h => zseg (zE xs L (d + 5) 74) (zC 74) 676 (zB74_1.drop 15) [(4, .int (zat I 29 300 (zat I 32 300 a1))), (3, .int (zat I 32 300 a1)), (0, .ref 26), (1, .int a1), (2, .int a2)] [.null] h)
  else some (.inr (.inr (some (.int (0 : Int32))), zmk I J X)) := by
  refine zite_congr ?_ ?_
  · rfl
  · rfl
theorem T74_1_15_676 (xs : Nat → Int32) (L d : Nat) (I : Nat → Nat → Int32) (J : Nat → Nat → Int64) (X : XH) (a4 : Int32) (a3 : Int32) (a1 : Int32) (a2 : Int32) (b0 : Nat) : zseg (zE xs L (d + 5) 74) (zC 74) 676 (zB74_1.drop 15) [(4, .int a4), (3, .int a3), (0, .ref 26), (1, .int a1), (2, .int a2)] [.ref b0] (zmk I J X) = if hK (zmk I J X) b0 = (18, 0) then
  some (.inl (3, [(0, .ref 26), (1, .int a1), (2, .int a2), (3, .int a3), (4, .int a4), (5, .int (I b0 3)), (6, .int (a1 - (1 : Int32)))], zmk I J X))
  else none := by
  refine zite_congr ?_ ?_
  · rfl
  · rfl
theorem T74_1_15_676_1 (xs : Nat → Int32) (L d : Nat) (I : Nat → Nat → Int32) (J : Nat → Nat → Int64) (X : XH) (a4 : Int32) (a3 : Int32) (a1 : Int32) (a2 : Int32) : zseg (zE xs L (d + 5) 74) (zC 74) 676 (zB74_1.drop 15) [(4, .int a4), (3, .int a3), (0, .ref 26), (1, .int a1), (2, .int a2)] [.null] (zmk I J X) = none := by
  rfl
theorem S74_3 (xs : Nat → Int32) (L d : Nat) (I : Nat → Nat → Int32) (J : Nat → Nat → Int64) (X : XH) (a1 : Int32) (a2 : Int32) (a3 : Int32) (a4 : Int32) (a5 : Int32) (a6 : Int32) : zseg (zE xs L (d + 5) 74) (zC 74) 700 (zC 74 3) [(0, .ref 26), (1, .int a1), (2, .int a2), (3, .int a3), (4, .int a4), (5, .int a5), (6, .int a6)] [] (zmk I J X) = if decide (a6 < 0) = true then
  some (.inr (.inr (some (.int (0 : Int32))), zmk I J X))
  else if decide (a5 < (a4 - (zat I 29 300 (zat I 32 300 a6)))) = true then
    some (.inr (.inr (some (.int (0 : Int32))), zmk I J X))
    else zci (zE xs L (d + 5) 74) (zev xs L (d + 5) 75 [.ref 26, .int (zat I 32 300 a6), .int a3] (zmk I J X)) (fun r h => zseg (zE xs L (d + 5) 74) (zC 74) 683 (zB74_3.drop 17) [(0, .ref 26), (1, .int a1), (2, .int a2), (3, .int a3), (4, .int a4), (5, .int a5), (6, .int a6)] [.int r] h) := by
  refine zite_congr ?_ ?_
  · rfl
  · refine zite_congr ?_ ?_
    · rfl
    · rfl
theorem T74_3_17_683 (xs : Nat → Int32) (L d : Nat) (I : Nat → Nat → Int32) (J : Nat → Nat → Int64) (X : XH) (a1 : Int32) (a2 : Int32) (a3 : Int32) (a4 : Int32) (a5 : Int32) (a6 : Int32) (b0 : Int32) : zseg (zE xs L (d + 5) 74) (zC 74) 683 (zB74_3.drop 17) [(0, .ref 26), (1, .int a1), (2, .int a2), (3, .int a3), (4, .int a4), (5, .int a5), (6, .int a6)] [.int b0] (zmk I J X) = if decide (b0 = 0) = true then
  some (.inl (3, [(0, .ref 26), (1, .int a1), (2, .int a2), (3, .int a3), (4, .int a4), (5, .int a5), (6, .int (a6 + (-1 : Int32)))], zmk I J X))
  else some (.inr (.inr (some (.int (1 : Int32))), zmk I J X)) := by
  refine zite_congr ?_ ?_
  · rfl
  · rfl
/-! 75 Signals.isTwin (II)Z -/
theorem S75_0 (xs : Nat → Int32) (L d : Nat) (I : Nat → Nat → Int32) (J : Nat → Nat → Int64) (X : XH) (a1 : Int32) (a2 : Int32) : zseg (zE xs L (d + 5) 75) (zC 75) 700 (zC 75 0) [(0, .ref 26), (1, .int a1), (2, .int a2)] [] (zmk I J X) = if decide (¬ (zat I 33 300 a1) = (zat I 33 300 a2)) = true then
  some (.inr (.inr (some (.int (0 : Int32))), zmk I J X))
  else if decide ((zat I 27 300 a1) = (zat I 27 300 a2)) = true then
    some (.inr (.inr (some (.int (0 : Int32))), zmk I J X))
    else if decide (¬ (zat I 13 24 (zat I 27 300 a1)) = (zat I 13 24 (zat I 27 300 a2))) = true then
      some (.inr (.inr (some (.int (0 : Int32))), zmk I J X))
      else some (.inr (.inr (some (.int (1 : Int32))), zmk I J X)) := by
  refine zite_congr ?_ ?_
  · rfl
  · refine zite_congr ?_ ?_
    · rfl
    · refine zite_congr ?_ ?_
      · rfl
      · rfl
/-! 76 Signals.nextOf (II)I -/
theorem S76_0 (xs : Nat → Int32) (L d : Nat) (I : Nat → Nat → Int32) (J : Nat → Nat → Int64) (X : XH) (a1 : Int32) (a2 : Int32) : zseg (zE xs L (d + 5) 76) (zC 76) 700 (zC 76 0) [(0, .ref 26), (1, .int a1), (2, .int a2)] [] (zmk I J X) = some (.inl (2, [(0, .ref 26), (1, .int a1), (2, .int a2), (3, .int a2)], zmk I J X)) := by
  rfl
theorem S76_2 (xs : Nat → Int32) (L d : Nat) (I : Nat → Nat → Int32) (J : Nat → Nat → Int64) (X : XH) (a1 : Int32) (a2 : Int32) (a3 : Int32) : zseg (zE xs L (d + 5) 76) (zC 76) 700 (zC 76 2) [(0, .ref 26), (1, .int a1), (2, .int a2), (3, .int a3)] [] (zmk I J X) = if decide ((I 26 4) ≤ a3) = true then
  some (.inr (.inr (some (.int (-1 : Int32))), zmk I J X))
  else if decide (¬ (zat I 27 300 (zat I 32 300 a3)) = a1) = true then
    some (.inl (2, [(0, .ref 26), (1, .int a1), (2, .int a2), (3, .int (a3 + (1 : Int32)))], zmk I J X))
    else if decide ((zat I 33 300 (zat I 32 300 a3)) = (-1 : Int32)) = true then
      some (.inl (2, [(0, .ref 26), (1, .int a1), (2, .int a2), (3, .int (a3 + (1 : Int32)))], zmk I J X))
      else some (.inr (.inr (some (.int a3)), zmk I J X)) := by
  refine zite_congr ?_ ?_
  · rfl
  · refine zite_congr ?_ ?_
    · rfl
    · refine zite_congr ?_ ?_
      · rfl
      · rfl
/-! 79 Tariff.charge ([I[II)I -/
theorem S79_0 (xs : Nat → Int32) (L d : Nat) (I : Nat → Nat → Int32) (J : Nat → Nat → Int64) (X : XH) (t : Nat) (a3 : Int32) : zseg (zE xs L (d + 5) 79) (zC 79) 700 (zC 79 0) [(0, .ref t), (1, .ref 51), (2, .ref 52), (3, .int a3)] [] (zmk I J X) = some (.inl (2, [(0, .ref t), (1, .ref 51), (2, .ref 52), (3, .int a3), (4, .int (0 : Int32)), (5, .int a3), (6, .int (0 : Int32))], zmk I J X)) := by
  rfl
/-! 80 Tariff.join (III)I -/
theorem S80_0 (xs : Nat → Int32) (L d : Nat) (I : Nat → Nat → Int32) (J : Nat → Nat → Int64) (X : XH) (a0 : Int32) (a1 : Int32) (a2 : Int32) : zseg (zE xs L (d + 5) 80) (zC 80) 700 (zC 80 0) [(0, .int a0), (1, .int a1), (2, .int a2)] [] (zmk I J X) = if a0 = 42 then
  some (.inr (.inr (some (.int (a1 * a2))), zmk I J X))
  else if a0 = 43 then
  some (.inr (.inr (some (.int (a1 + a2))), zmk I J X))
  else if a0 = 45 then
  some (.inr (.inr (some (.int (a1 - a2))), zmk I J X))
  else if a0 = 47 then
  if decide (¬ a2 = 0) = true then
    if a2 = 0 then
      none
      else some (.inr (.inr (some (.int (a1 / a2))), zmk I J X))
    else some (.inr (.inr (some (.int (0 : Int32))), zmk I J X))
  else if a0 = 60 then
  if decide (a2 ≤ a1) = true then
    some (.inr (.inr (some (.int (0 : Int32))), zmk I J X))
    else some (.inr (.inr (some (.int (1 : Int32))), zmk I J X))
  else if a0 = 61 then
  if decide (¬ a1 = a2) = true then
    some (.inr (.inr (some (.int (0 : Int32))), zmk I J X))
    else some (.inr (.inr (some (.int (1 : Int32))), zmk I J X))
  else if a0 = 304 then
  if decide (a1 = 0) = true then
    some (.inr (.inr (some (.int (0 : Int32))), zmk I J X))
    else if decide (a2 = 0) = true then
      some (.inr (.inr (some (.int (0 : Int32))), zmk I J X))
      else some (.inr (.inr (some (.int (1 : Int32))), zmk I J X))
  else if decide (¬ a1 = 0) = true then
    some (.inr (.inr (some (.int (1 : Int32))), zmk I J X))
    else if decide (a2 = 0) = true then
      some (.inr (.inr (some (.int (0 : Int32))), zmk I J X))
      else some (.inr (.inr (some (.int (1 : Int32))), zmk I J X)) := by
  refine zite_congr ?_ ?_
  · rfl
  · refine zite_congr ?_ ?_
    · rfl
    · refine zite_congr ?_ ?_
      · rfl
      · refine zite_congr ?_ ?_
        · refine zite_congr ?_ ?_
          · refine zite_congr ?_ ?_
            · rfl
            · rfl
          · rfl
        · refine zite_congr ?_ ?_
          · refine zite_congr ?_ ?_
            · rfl
            · rfl
          · refine zite_congr ?_ ?_
            · refine zite_congr ?_ ?_
              · rfl
              · rfl
            · refine zite_congr ?_ ?_
              · refine zite_congr ?_ ?_
                · rfl
                · refine zite_congr ?_ ?_
                  · rfl
                  · rfl
              · refine zite_congr ?_ ?_
                · rfl
                · refine zite_congr ?_ ?_
                  · rfl
                  · rfl
/-! 82 Walk.start (II)V -/
theorem S82_0 (xs : Nat → Int32) (L d : Nat) (I : Nat → Nat → Int32) (J : Nat → Nat → Int64) (X : XH) (a1 : Int32) (a2 : Int32) : zseg (zE xs L (d + 5) 82) (zC 82) 700 (zC 82 0) [(0, .ref 49), (1, .int a1), (2, .int a2)] [] (zmk I J X) = zqv (zev xs L (d + 5) 233 [.ref 50, .int (0 : Int32)] (zmk (zup (zup (zup (zup I 49 8 a1) 49 9 a2) 49 11 (I 49 12)) 49 18 (0 : Int32)) J X)) (fun h => zseg (zE xs L (d + 5) 82) (zC 82) 683 (zB82_0.drop 17) [(0, .ref 49), (1, .int a1), (2, .int a2)] [] h) := by
  rfl
theorem T82_0_17_683 (xs : Nat → Int32) (L d : Nat) (I : Nat → Nat → Int32) (J : Nat → Nat → Int64) (X : XH) (a1 : Int32) (a2 : Int32) : zseg (zE xs L (d + 5) 82) (zC 82) 683 (zB82_0.drop 17) [(0, .ref 49), (1, .int a1), (2, .int a2)] [] (zmk I J X) = zci (zE xs L (d + 5) 82) (zev xs L (d + 5) 76 [.ref 26, .int (I 49 8), .int (0 : Int32)] (zmk I J X)) (fun r h => zseg (zE xs L (d + 5) 82) (zC 82) 676 (zB82_0.drop 24) [(0, .ref 49), (1, .int a1), (2, .int a2)] [.int r, .ref 49] h) := by
  rfl
theorem T82_0_24_676 (xs : Nat → Int32) (L d : Nat) (I : Nat → Nat → Int32) (J : Nat → Nat → Int64) (X : XH) (a1 : Int32) (a2 : Int32) (b1 : Int32) : zseg (zE xs L (d + 5) 82) (zC 82) 676 (zB82_0.drop 24) [(0, .ref 49), (1, .int a1), (2, .int a2)] [.int b1, .ref 49] (zmk I J X) = some (.inr (.inr none, zmk (zup I 49 10 b1) J X)) := by
  rfl
/-! 83 Walk.step ()Z -/
theorem S83_0 (xs : Nat → Int32) (L d : Nat) (I : Nat → Nat → Int32) (J : Nat → Nat → Int64) (X : XH) : zseg (zE xs L (d + 5) 83) (zC 83) 700 (zC 83 0) [(0, .ref 49)] [] (zmk I J X) = if decide ((I 49 11) = (I 49 12)) = true then
  if decide ((I 49 10) = (-1 : Int32)) = true then
    some (.inr (.inr (some (.int (0 : Int32))), zmk I J X))
    else zcw (zE xs L (d + 5) 83) (zev xs L (d + 5) 85 [.ref 49] (zmk I J X)) (fun h => zseg (zE xs L (d + 5) 83) (zC 83) 689 (zB83_1.drop 6) [(0, .ref 49)] [] h)
  else zcw (zE xs L (d + 5) 83) (zev xs L (d + 5) 84 [.ref 49] (zmk I J X)) (fun h => zseg (zE xs L (d + 5) 83) (zC 83) 693 (zB83_0.drop 7) [(0, .ref 49)] [] h) := by
  refine zite_congr ?_ ?_
  · refine zite_congr ?_ ?_
    · rfl
    · rfl
  · rfl
theorem T83_1_6_689 (xs : Nat → Int32) (L d : Nat) (I : Nat → Nat → Int32) (J : Nat → Nat → Int64) (X : XH) : zseg (zE xs L (d + 5) 83) (zC 83) 689 (zB83_1.drop 6) [(0, .ref 49)] [] (zmk I J X) = zcw (zE xs L (d + 5) 83) (zev xs L (d + 5) 86 [.ref 49] (zmk I J X)) (fun h => zseg (zE xs L (d + 5) 83) (zC 83) 687 (zB83_1.drop 8) [(0, .ref 49)] [] h) := by
  rfl
theorem T83_0_7_693 (xs : Nat → Int32) (L d : Nat) (I : Nat → Nat → Int32) (J : Nat → Nat → Int64) (X : XH) : zseg (zE xs L (d + 5) 83) (zC 83) 693 (zB83_0.drop 7) [(0, .ref 49)] [] (zmk I J X) = if decide (¬ (I 49 17) = 0) = true then
  some (.inr (.inr (some (.int (1 : Int32))), zmk (zup I 49 16 (zat I 50 27 (((zat I 4 40 (I 49 13)) * (3 : Int32)) + ((I 49 14) / (43200 : Int32))))) J X))
  else some (.inr (.inr (some (.int (1 : Int32))), zmk (zput (zup I 49 16 (zat I 50 27 (((zat I 4 40 (I 49 13)) * (3 : Int32)) + ((I 49 14) / (43200 : Int32))))) 50 27 (((zat I 4 40 (I 49 13)) * (3 : Int32)) + ((I 49 14) / (43200 : Int32))) ((zat I 50 27 (((zat I 4 40 (I 49 13)) * (3 : Int32)) + ((I 49 14) / (43200 : Int32)))) + (zat I 5 40 (I 49 13)))) J X)) := by
  refine zite_congr ?_ ?_
  · rfl
  · rfl
theorem T83_1_8_687 (xs : Nat → Int32) (L d : Nat) (I : Nat → Nat → Int32) (J : Nat → Nat → Int64) (X : XH) : zseg (zE xs L (d + 5) 83) (zC 83) 687 (zB83_1.drop 8) [(0, .ref 49)] [] (zmk I J X) = if decide (¬ (I 49 17) = 0) = true then
  some (.inr (.inr (some (.int (1 : Int32))), zmk (zup I 49 16 (zat I 50 27 (((zat I 4 40 (I 49 13)) * (3 : Int32)) + ((I 49 14) / (43200 : Int32))))) J X))
  else some (.inr (.inr (some (.int (1 : Int32))), zmk (zput (zup I 49 16 (zat I 50 27 (((zat I 4 40 (I 49 13)) * (3 : Int32)) + ((I 49 14) / (43200 : Int32))))) 50 27 (((zat I 4 40 (I 49 13)) * (3 : Int32)) + ((I 49 14) / (43200 : Int32))) ((zat I 50 27 (((zat I 4 40 (I 49 13)) * (3 : Int32)) + ((I 49 14) / (43200 : Int32)))) + (zat I 5 40 (I 49 13)))) J X)) := by
  refine zite_congr ?_ ?_
  · rfl
  · rfl
/-! 84 Walk.guess ()V -/
theorem S84_0 (xs : Nat → Int32) (L d : Nat) (I : Nat → Nat → Int32) (J : Nat → Nat → Int64) (X : XH) : zseg (zE xs L (d + 5) 84) (zC 84) 700 (zC 84 0) [(0, .ref 49)] [] (zmk I J X) = zci (zE xs L (d + 5) 84) (zev xs L (d + 5) 34 [.ref 1, .int (I 49 11), .int (I 49 12)] (zmk I J X)) (fun r h => zseg (zE xs L (d + 5) 84) (zC 84) 692 (zB84_0.drop 8) [(0, .ref 49)] [.int r, .ref 49] h) := by
  rfl
theorem T84_0_8_692 (xs : Nat → Int32) (L d : Nat) (I : Nat → Nat → Int32) (J : Nat → Nat → Int64) (X : XH) (b1 : Int32) : zseg (zE xs L (d + 5) 84) (zC 84) 692 (zB84_0.drop 8) [(0, .ref 49)] [.int b1, .ref 49] (zmk I J X) = some (.inr (.inr none, zmk (zup (zup (zup (zup I 49 13 b1) 49 11 (zat I 3 40 b1)) 49 15 (-1 : Int32)) 49 17 (0 : Int32)) J X)) := by
  rfl
/-! 85 Walk.meet ()V -/
theorem S85_0 (xs : Nat → Int32) (L d : Nat) (I : Nat → Nat → Int32) (J : Nat → Nat → Int64) (X : XH) : zseg (zP xs L (d + 5) 85) (zC 85) 700 (zC 85 0) [(0, .ref 49)] [] (zmk I J X) = zci (zP xs L (d + 5) 85) (zev xs L (d + 5) 67 [.ref 26, .int (I 49 10)] (zmk I J X)) (fun r h => zseg (zP xs L (d + 5) 85) (zC 85) 694 (zB85_0.drop 6) [(0, .ref 49)] [.int r, .ref 49] h) := by
  rfl
theorem T85_0_6_694 (xs : Nat → Int32) (L d : Nat) (I : Nat → Nat → Int32) (J : Nat → Nat → Int64) (X : XH) (b1 : Int32) : zseg (zP xs L (d + 5) 85) (zC 85) 694 (zB85_0.drop 6) [(0, .ref 49)] [.int b1, .ref 49] (zmk I J X) = zci (zP xs L (d + 5) 85) (zev xs L (d + 5) 73 [.ref 26, .int b1] (zmk (zup I 49 15 b1) J X)) (fun r h => zseg (zP xs L (d + 5) 85) (zC 85) 687 (zB85_0.drop 13) [(0, .ref 49)] [.int r, .ref 49] h) := by
  rfl
theorem T85_0_13_687 (xs : Nat → Int32) (L d : Nat) (I : Nat → Nat → Int32) (J : Nat → Nat → Int64) (X : XH) (b1 : Int32) : zseg (zP xs L (d + 5) 85) (zC 85) 687 (zB85_0.drop 13) [(0, .ref 49)] [.int b1, .ref 49] (zmk I J X) = zci (zP xs L (d + 5) 85) (zev xs L (d + 5) 68 [.ref 26, .int (I 49 15)] (zmk (zup I 49 13 b1) J X)) (fun r h => zseg (zP xs L (d + 5) 85) (zC 85) 680 (zB85_0.drop 20) [(0, .ref 49)] [.int r, .ref 49] h) := by
  rfl
theorem T85_0_20_680 (xs : Nat → Int32) (L d : Nat) (I : Nat → Nat → Int32) (J : Nat → Nat → Int64) (X : XH) (b1 : Int32) : zseg (zP xs L (d + 5) 85) (zC 85) 680 (zB85_0.drop 20) [(0, .ref 49)] [.int b1, .ref 49] (zmk I J X) = zci (zP xs L (d + 5) 85) (zev xs L (d + 5) 77 [.ref 26, .int (I 49 15)] (zmk (zup I 49 14 b1) J X)) (fun r h => zseg (zP xs L (d + 5) 85) (zC 85) 673 (zB85_0.drop 27) [(0, .ref 49)] [.int r, .ref 49] h) := by
  rfl
theorem T85_0_27_673 (xs : Nat → Int32) (L d : Nat) (I : Nat → Nat → Int32) (J : Nat → Nat → Int64) (X : XH) (b1 : Int32) : zseg (zP xs L (d + 5) 85) (zC 85) 673 (zB85_0.drop 27) [(0, .ref 49)] [.int b1, .ref 49] (zmk I J X) = if hK (zmk I J X) 49 = (19, 0) ∧ (b1 = 0 ∨ b1 = 1) then
  zci (zP xs L (d + 5) 85) (zev xs L (d + 5) 76 [.ref 26, .int (I 49 8), .int ((I 49 10) + (1 : Int32))] (zmk (zup I 49 17 b1) J X)) (fun r h => zseg (zP xs L (d + 5) 85) (zC 85) 662 (zB85_0.drop 38) [(0, .ref 49)] [.int r, .ref 49] h)
  else none := by
  refine zite_congr ?_ ?_
  · rfl
  · rfl
theorem T85_0_38_662 (xs : Nat → Int32) (L d : Nat) (I : Nat → Nat → Int32) (J : Nat → Nat → Int64) (X : XH) (b1 : Int32) : zseg (zP xs L (d + 5) 85) (zC 85) 662 (zB85_0.drop 38) [(0, .ref 49)] [.int b1, .ref 49] (zmk I J X) = some (.inr (.inr none, zmk (zup I 49 10 b1) J X)) := by
  rfl
/-! 86 Walk.aim ()V -/
theorem S86_0 (xs : Nat → Int32) (L d : Nat) (I : Nat → Nat → Int32) (J : Nat → Nat → Int64) (X : XH) : zseg (zE xs L (d + 5) 86) (zC 86) 700 (zC 86 0) [(0, .ref 49)] [] (zmk I J X) = if decide (¬ (I 49 10) = (-1 : Int32)) = true then
  if decide (((zat I 29 300 (zat I 32 300 (I 49 10))) - (I 49 14)) ≤ (180 : Int32)) = true then
    if decide ((zat I 3 40 (I 49 13)) = (zat I 2 40 (zat I 33 300 (zat I 32 300 (I 49 10))))) = true then
      some (.inr (.inr none, zmk (zup (zup I 49 11 (zat I 3 40 (I 49 13))) 49 12 (zat I 2 40 (zat I 33 300 (zat I 32 300 (I 49 10))))) J X))
      else zci (zE xs L (d + 5) 86) (zev xs L (d + 5) 34 [.ref 1, .int (zat I 3 40 (I 49 13)), .int (zat I 2 40 (zat I 33 300 (zat I 32 300 (I 49 10))))] (zmk I J X)) (fun r h => zseg (zE xs L (d + 5) 86) (zC 86) 659 (zB86_2.drop 22) [(3, .int (zat I 2 40 (zat I 33 300 (zat I 32 300 (I 49 10))))), (2, .int (zat I 3 40 (I 49 13))), (1, .int (zat I 32 300 (I 49 10))), (0, .ref 49)] [.int r] h)
    else some (.inr (.inr none, zmk I J X))
  else some (.inr (.inr none, zmk I J X)) := by
  refine zite_congr ?_ ?_
  · refine zite_congr ?_ ?_
    · refine zite_congr ?_ ?_
      · rfl
      · rfl
    · rfl
  · rfl
theorem T86_2_22_659 (xs : Nat → Int32) (L d : Nat) (I : Nat → Nat → Int32) (J : Nat → Nat → Int64) (X : XH) (a3 : Int32) (a2 : Int32) (a1 : Int32) (b0 : Int32) : zseg (zE xs L (d + 5) 86) (zC 86) 659 (zB86_2.drop 22) [(3, .int a3), (2, .int a2), (1, .int a1), (0, .ref 49)] [.int b0] (zmk I J X) = if decide (¬ b0 = (-1 : Int32)) = true then
  some (.inr (.inr none, zmk (zup (zup I 49 11 a2) 49 12 a3) J X))
  else some (.inr (.inr none, zmk (zup I 49 18 ((I 49 18) + (1 : Int32))) J X)) := by
  refine zite_congr ?_ ?_
  · rfl
  · rfl
/-! 88 Walk.charge ()I -/
theorem S88_0 (xs : Nat → Int32) (L d : Nat) (I : Nat → Nat → Int32) (J : Nat → Nat → Int64) (X : XH) : zseg (zP xs L (d + 5) 88) (zC 88) 700 (zC 88 0) [(0, .ref 49)] [] (zmk I J X) = if decide ((I 49 17) = 0) = true then
  zci (zP xs L (d + 5) 88) (zev xs L (d + 5) 16 [.ref 9, .int (I 49 8)] (zmk I J X)) (fun r h => zseg (zP xs L (d + 5) 88) (zC 88) 689 (zB88_1.drop 8) [(0, .ref 49)] [.int r, .int (0 : Int32), .ref 51] h)
  else some (.inr (.inr (some (.int (0 : Int32))), zmk I J X)) := by
  refine zite_congr ?_ ?_
  · rfl
  · rfl
theorem T88_1_8_689 (xs : Nat → Int32) (L d : Nat) (I : Nat → Nat → Int32) (J : Nat → Nat → Int64) (X : XH) (b1 : Int32) (b2 : Int32) : zseg (zP xs L (d + 5) 88) (zC 88) 689 (zB88_1.drop 8) [(0, .ref 49)] [.int b2, .int b1, .ref 51] (zmk I J X) = zqv (zev xs L (d + 5) 99 [.ref 51, .int b1, .int b2] (zmk I J X)) (fun h => zseg (zP xs L (d + 5) 88) (zC 88) 688 (zB88_1.drop 9) [(0, .ref 49)] [] h) := by
  rfl
theorem T88_1_9_688 (xs : Nat → Int32) (L d : Nat) (I : Nat → Nat → Int32) (J : Nat → Nat → Int64) (X : XH) : zseg (zP xs L (d + 5) 88) (zC 88) 688 (zB88_1.drop 9) [(0, .ref 49)] [] (zmk I J X) = zci (zP xs L (d + 5) 88) (zev xs L (d + 5) 17 [.ref 9, .int (I 49 8)] (zmk I J X)) (fun r h => zseg (zP xs L (d + 5) 88) (zC 88) 680 (zB88_1.drop 17) [(0, .ref 49)] [.int r, .int (1 : Int32), .ref 51] h) := by
  rfl
theorem T88_1_17_680 (xs : Nat → Int32) (L d : Nat) (I : Nat → Nat → Int32) (J : Nat → Nat → Int64) (X : XH) (b1 : Int32) (b2 : Int32) : zseg (zP xs L (d + 5) 88) (zC 88) 680 (zB88_1.drop 17) [(0, .ref 49)] [.int b2, .int b1, .ref 51] (zmk I J X) = zqv (zev xs L (d + 5) 99 [.ref 51, .int b1, .int b2] (zmk I J X)) (fun h => zseg (zP xs L (d + 5) 88) (zC 88) 679 (zB88_1.drop 18) [(0, .ref 49)] [] h) := by
  rfl
theorem T88_1_18_679 (xs : Nat → Int32) (L d : Nat) (I : Nat → Nat → Int32) (J : Nat → Nat → Int64) (X : XH) : zseg (zP xs L (d + 5) 88) (zC 88) 679 (zB88_1.drop 18) [(0, .ref 49)] [] (zmk I J X) = zci (zP xs L (d + 5) 88) (zev xs L (d + 5) 37 [.ref 1, .int (I 49 13)] (zmk I J X)) (fun r h => zseg (zP xs L (d + 5) 88) (zC 88) 671 (zB88_1.drop 26) [(0, .ref 49)] [.int r, .int (2 : Int32), .ref 51] h) := by
  rfl
theorem T88_1_26_671 (xs : Nat → Int32) (L d : Nat) (I : Nat → Nat → Int32) (J : Nat → Nat → Int64) (X : XH) (b1 : Int32) (b2 : Int32) : zseg (zP xs L (d + 5) 88) (zC 88) 671 (zB88_1.drop 26) [(0, .ref 49)] [.int b2, .int b1, .ref 51] (zmk I J X) = zqv (zev xs L (d + 5) 99 [.ref 51, .int b1, .int b2] (zmk I J X)) (fun h => zseg (zP xs L (d + 5) 88) (zC 88) 670 (zB88_1.drop 27) [(0, .ref 49)] [] h) := by
  rfl
theorem T88_1_27_670 (xs : Nat → Int32) (L d : Nat) (I : Nat → Nat → Int32) (J : Nat → Nat → Int64) (X : XH) : zseg (zP xs L (d + 5) 88) (zC 88) 670 (zB88_1.drop 27) [(0, .ref 49)] [] (zmk I J X) = zqv (zev xs L (d + 5) 99 [.ref 51, .int (3 : Int32), .int (((I 49 14) - (I 49 14) / (1440 : Int32) * (1440 : Int32)) / (60 : Int32))] (zmk I J X)) (fun h => zseg (zP xs L (d + 5) 88) (zC 88) 660 (zB88_1.drop 37) [(0, .ref 49)] [] h) := by
  rfl
theorem T88_1_37_660 (xs : Nat → Int32) (L d : Nat) (I : Nat → Nat → Int32) (J : Nat → Nat → Int64) (X : XH) : zseg (zP xs L (d + 5) 88) (zC 88) 660 (zB88_1.drop 37) [(0, .ref 49)] [] (zmk I J X) = zqv (zev xs L (d + 5) 99 [.ref 51, .int (4 : Int32), .int (((I 49 14) / (1440 : Int32)) - ((I 49 14) / (1440 : Int32)) / (7 : Int32) * (7 : Int32))] (zmk I J X)) (fun h => zseg (zP xs L (d + 5) 88) (zC 88) 650 (zB88_1.drop 47) [(0, .ref 49)] [] h) := by
  rfl
theorem T88_1_47_650 (xs : Nat → Int32) (L d : Nat) (I : Nat → Nat → Int32) (J : Nat → Nat → Int64) (X : XH) : zseg (zP xs L (d + 5) 88) (zC 88) 650 (zB88_1.drop 47) [(0, .ref 49)] [] (zmk I J X) = zci (zP xs L (d + 5) 88) (zev xs L (d + 5) 38 [.ref 1, .int (I 49 13)] (zmk I J X)) (fun r h => zseg (zP xs L (d + 5) 88) (zC 88) 642 (zB88_1.drop 55) [(0, .ref 49)] [.int r, .int (5 : Int32), .ref 51] h) := by
  rfl
theorem T88_1_55_642 (xs : Nat → Int32) (L d : Nat) (I : Nat → Nat → Int32) (J : Nat → Nat → Int64) (X : XH) (b1 : Int32) (b2 : Int32) : zseg (zP xs L (d + 5) 88) (zC 88) 642 (zB88_1.drop 55) [(0, .ref 49)] [.int b2, .int b1, .ref 51] (zmk I J X) = zqv (zev xs L (d + 5) 99 [.ref 51, .int b1, .int b2] (zmk I J X)) (fun h => zseg (zP xs L (d + 5) 88) (zC 88) 641 (zB88_1.drop 56) [(0, .ref 49)] [] h) := by
  rfl
theorem T88_1_56_641 (xs : Nat → Int32) (L d : Nat) (I : Nat → Nat → Int32) (J : Nat → Nat → Int64) (X : XH) : zseg (zP xs L (d + 5) 88) (zC 88) 641 (zB88_1.drop 56) [(0, .ref 49)] [] (zmk I J X) = zqv (zev xs L (d + 5) 99 [.ref 51, .int (6 : Int32), .int (I 49 16)] (zmk I J X)) (fun h => zseg (zP xs L (d + 5) 88) (zC 88) 635 (zB88_1.drop 62) [(0, .ref 49)] [] h) := by
  rfl
theorem T88_1_62_635 (xs : Nat → Int32) (L d : Nat) (I : Nat → Nat → Int32) (J : Nat → Nat → Int64) (X : XH) : zseg (zP xs L (d + 5) 88) (zC 88) 635 (zB88_1.drop 62) [(0, .ref 49)] [] (zmk I J X) = if decide (¬ (I 49 15) = (-1 : Int32)) = true then
  zqv (zev xs L (d + 5) 99 [.ref 51, .int (7 : Int32), .int (0 : Int32)] (zmk I J X)) (fun h => zseg (zP xs L (d + 5) 88) (zC 88) 625 (zB88_3.drop 1) [(0, .ref 49)] [] h)
  else zqv (zev xs L (d + 5) 99 [.ref 51, .int (7 : Int32), .int (1 : Int32)] (zmk I J X)) (fun h => zseg (zP xs L (d + 5) 88) (zC 88) 625 (zB88_3.drop 1) [(0, .ref 49)] [] h) := by
  refine zite_congr ?_ ?_
  · rfl
  · rfl
theorem T88_3_1_625 (xs : Nat → Int32) (L d : Nat) (I : Nat → Nat → Int32) (J : Nat → Nat → Int64) (X : XH) : zseg (zP xs L (d + 5) 88) (zC 88) 625 (zB88_3.drop 1) [(0, .ref 49)] [] (zmk I J X) = zci (zP xs L (d + 5) 88) (zev xs L (d + 5) 33 [.ref 1, .int (I 49 13)] (zmk I J X)) (fun r h => zseg (zP xs L (d + 5) 88) (zC 88) 618 (zB88_3.drop 8) [(0, .ref 49)] [.int r, .ref 15] h) := by
  rfl
theorem T88_3_8_618 (xs : Nat → Int32) (L d : Nat) (I : Nat → Nat → Int32) (J : Nat → Nat → Int64) (X : XH) (b1 : Int32) : zseg (zP xs L (d + 5) 88) (zC 88) 618 (zB88_3.drop 8) [(0, .ref 49)] [.int b1, .ref 15] (zmk I J X) = zcr (zP xs L (d + 5) 88) (zev xs L (d + 5) 4 [.ref 15, .int b1, .int (I 49 14), .int (I 49 9)] (zmk I J X)) (fun r h => zseg (zP xs L (d + 5) 88) (zC 88) 613 (zB88_3.drop 13) [(0, .ref 49)] [.ref r] h) (fun h => zseg (zP xs L (d + 5) 88) (zC 88) 613 (zB88_3.drop 13) [(0, .ref 49)] [.null] h) := by
  rfl
theorem T88_3_13_613 (xs : Nat → Int32) (L d : Nat) (I : Nat → Nat → Int32) (J : Nat → Nat → Int64) (X : XH) (b0 : Nat) : zseg (zP xs L (d + 5) 88) (zC 88) 613 (zB88_3.drop 13) [(0, .ref 49)] [.ref b0] (zmk I J X) = zci (zP xs L (d + 5) 88) (zev xs L (d + 5) 37 [.ref 1, .int (I 49 13)] (zmk I J X)) (fun r h => zseg (zP xs L (d + 5) 88) (zC 88) 601 (zB88_3.drop 25) [(1, .ref b0), (0, .ref 49)] [.int r, .int (10 : Int32), .ref 52, .ref 51, .ref b0] h) := by
  rfl
theorem T88_3_13_613_14 (xs : Nat → Int32) (L d : Nat) (I : Nat → Nat → Int32) (J : Nat → Nat → Int64) (X : XH) : zseg (zP xs L (d + 5) 88) (zC 88) 613 (zB88_3.drop 13) [(0, .ref 49)] [.null] (zmk I J X) = none := by
  rfl
theorem T88_3_25_601 (xs : Nat → Int32) (L d : Nat) (I : Nat → Nat → Int32) (J : Nat → Nat → Int64) (X : XH) (a1 : Nat) (b0 : Nat) (b3 : Int32) (b4 : Int32) : zseg (zP xs L (d + 5) 88) (zC 88) 601 (zB88_3.drop 25) [(1, .ref a1), (0, .ref 49)] [.int b4, .int b3, .ref 52, .ref 51, .ref b0] (zmk I J X) = if 4 ≤ 4 ∧ 4 ≤ 4 + 4 ∧ zrcv (zmk I J X) (15808 % 100) [.ref b0, .ref 51, .ref 52, .int (b3 * b4)] = true then
  zci (zP xs L (d + 5) 88) (zev xs L (d + 5) 79 [.ref b0, .ref 51, .ref 52, .int (b3 * b4)] (zmk I J X)) (fun r h => zseg (zP xs L (d + 5) 88) (zC 88) 599 (zB88_3.drop 27) [(1, .ref a1), (0, .ref 49)] [.int r] h)
  else none := by
  refine zite_congr ?_ ?_
  · rfl
  · rfl
theorem T88_3_27_599 (xs : Nat → Int32) (L d : Nat) (I : Nat → Nat → Int32) (J : Nat → Nat → Int64) (X : XH) (a1 : Nat) (b0 : Int32) : zseg (zP xs L (d + 5) 88) (zC 88) 599 (zB88_3.drop 27) [(1, .ref a1), (0, .ref 49)] [.int b0] (zmk I J X) = some (.inr (.inr (some (.int b0)), zmk I J X)) := by
  rfl
/-! 89 Walk.isUnpaid ()Z -/
theorem S89_0 (xs : Nat → Int32) (L d : Nat) (I : Nat → Nat → Int32) (J : Nat → Nat → Int64) (X : XH) : zseg (zE xs L (d + 5) 89) (zC 89) 700 (zC 89 0) [(0, .ref 49)] [] (zmk I J X) = zci (zE xs L (d + 5) 89) (zev xs L (d + 5) 41 [.ref 39, .int (I 49 8), .int (I 49 14), .int (I 49 9), .int (0 : Int32)] (zmk I J X)) (fun r h => zseg (zE xs L (d + 5) 89) (zC 89) 690 (zB89_0.drop 10) [(0, .ref 49)] [.int r] h) := by
  rfl
theorem T89_0_10_690 (xs : Nat → Int32) (L d : Nat) (I : Nat → Nat → Int32) (J : Nat → Nat → Int64) (X : XH) (b0 : Int32) : zseg (zE xs L (d + 5) 89) (zC 89) 690 (zB89_0.drop 10) [(0, .ref 49)] [.int b0] (zmk I J X) = if decide (b0 = 0) = true then
  some (.inr (.inr (some (.int (0 : Int32))), zmk I J X))
  else some (.inr (.inr (some (.int (1 : Int32))), zmk I J X)) := by
  refine zite_congr ?_ ?_
  · rfl
  · rfl
/-! 91 Watch.seenBy (I)I -/
theorem S91_0 (xs : Nat → Int32) (L d : Nat) (I : Nat → Nat → Int32) (J : Nat → Nat → Int64) (X : XH) (a1 : Int32) : zseg (zE xs L (d + 5) 91) (zC 91) 700 (zC 91 0) [(0, .ref 57), (1, .int a1)] [] (zmk I J X) = some (.inl (2, [(0, .ref 57), (1, .int a1), (2, .int (0 : Int32)), (3, .int (0 : Int32))], zmk I J X)) := by
  rfl
theorem S91_2 (xs : Nat → Int32) (L d : Nat) (I : Nat → Nat → Int32) (J : Nat → Nat → Int64) (X : XH) (a1 : Int32) (a2 : Int32) (a3 : Int32) : zseg (zE xs L (d + 5) 91) (zC 91) 700 (zC 91 2) [(0, .ref 57), (1, .int a1), (2, .int a2), (3, .int a3)] [] (zmk I J X) = if decide ((I 57 0) ≤ a3) = true then
  some (.inr (.inr (some (.int a2)), zmk I J X))
  else if decide (((zat I 58 20 a3) &&& a1) = 0) = true then
    some (.inl (2, [(0, .ref 57), (1, .int a1), (2, .int a2), (3, .int (a3 + (1 : Int32)))], zmk I J X))
    else some (.inl (2, [(0, .ref 57), (1, .int a1), (2, .int (a2 + (zat I 59 20 a3))), (3, .int (a3 + (1 : Int32)))], zmk I J X)) := by
  refine zite_congr ?_ ?_
  · rfl
  · refine zite_congr ?_ ?_
    · rfl
    · rfl
/-! 92 Watch.takes (II)Z -/
theorem S92_0 (xs : Nat → Int32) (L d : Nat) (I : Nat → Nat → Int32) (J : Nat → Nat → Int64) (X : XH) (a1 : Int32) (a2 : Int32) : zseg (zE xs L (d + 5) 92) (zC 92) 700 (zC 92 0) [(0, .ref 57), (1, .int a1), (2, .int a2)] [] (zmk I J X) = if decide ((20 : Int32) ≤ (I 57 0)) = true then
  some (.inr (.inr (some (.int (0 : Int32))), zmk I J X))
  else if decide ((zbi (¬ a1 < (1 : Int32) ∧ ¬ (6 : Int32) < a1)) = 0) = true then
    some (.inr (.inr (some (.int (0 : Int32))), zmk I J X))
    else if decide ((zbi (¬ a2 < (1 : Int32) ∧ ¬ (999 : Int32) < a2)) = 0) = true then
      some (.inr (.inr (some (.int (0 : Int32))), zmk I J X))
      else some (.inr (.inr (some (.int (1 : Int32))), zmk I J X)) := by
  refine zite_congr ?_ ?_
  · rfl
  · refine zite_congr ?_ ?_
    · rfl
    · refine zite_congr ?_ ?_
      · rfl
      · rfl
/-! 94 Watch.add (IJI)I -/
theorem S94_0 (xs : Nat → Int32) (L d : Nat) (I : Nat → Nat → Int32) (J : Nat → Nat → Int64) (X : XH) (a1 : Int32) (a2 : Int64) (a4 : Int32) : zseg (zE xs L (d + 5) 94) (zC 94) 700 (zC 94 0) [(0, .ref 57), (1, .int a1), (2, .long a2), (4, .int a4)] [] (zmk I J X) = some (.inl (2, [(0, .ref 57), (1, .int a1), (2, .long a2), (4, .int a4), (5, .int (0 : Int32)), (6, .int (0 : Int32))], zmk I J X)) := by
  rfl
theorem S94_2 (xs : Nat → Int32) (L d : Nat) (I : Nat → Nat → Int32) (J : Nat → Nat → Int64) (X : XH) (a1 : Int32) (a2 : Int64) (a4 : Int32) (a5 : Int32) (a6 : Int32) : zseg (zE xs L (d + 5) 94) (zC 94) 700 (zC 94 2) [(0, .ref 57), (1, .int a1), (2, .long a2), (4, .int a4), (5, .int a5), (6, .int a6)] [] (zmk I J X) = if decide (a1 ≤ a6) = true then
  some (.inr (.inr (some (.int (I 57 0))), zmk (zup (zup (zput (zput I 58 20 (I 57 0) a5) 59 20 (I 57 0) a4) 57 4 (0 : Int32)) 57 0 ((I 57 0) + (1 : Int32))) J X))
  else if decide ((12 : Int32) ≤ ((((a2.toUInt64 >>> (((6 : Int32) * a6).toInt64.toUInt64 &&& Int64.toUInt64 63)).toInt64) &&& (Int64.ofNat 63)).toInt32)) = true then
    some (.inl (2, [(0, .ref 57), (1, .int a1), (2, .long a2), (4, .int a4), (5, .int (a5 ||| (0 : Int32))), (6, .int (a6 + (1 : Int32)))], zmk I J X))
    else some (.inl (2, [(0, .ref 57), (1, .int a1), (2, .long a2), (4, .int a4), (5, .int (a5 ||| ((1 : Int32) <<< (((((a2.toUInt64 >>> (((6 : Int32) * a6).toInt64.toUInt64 &&& Int64.toUInt64 63)).toInt64) &&& (Int64.ofNat 63)).toInt32) &&& 31)))), (6, .int (a6 + (1 : Int32)))], zmk I J X)) := by
  refine zite_congr ?_ ?_
  · rfl
  · refine zite_congr ?_ ?_
    · rfl
    · rfl
/-! 95 Watch.bestOf (I)I -/
theorem S95_0 (xs : Nat → Int32) (L d : Nat) (I : Nat → Nat → Int32) (J : Nat → Nat → Int64) (X : XH) (a1 : Int32) : zseg (zE xs L (d + 5) 95) (zC 95) 700 (zC 95 0) [(0, .ref 57), (1, .int a1)] [] (zmk I J X) = if decide (¬ (I 57 4) = 0) = true then
  some (.inr (.inr (some (.int (zat I 60 13 a1))), zmk I J X))
  else zcw (zE xs L (d + 5) 95) (zev xs L (d + 5) 96 [.ref 57] (zmk I J X)) (fun h => zseg (zE xs L (d + 5) 95) (zC 95) 695 (zB95_0.drop 5) [(0, .ref 57), (1, .int a1)] [] h) := by
  refine zite_congr ?_ ?_
  · rfl
  · rfl
theorem T95_0_5_695 (xs : Nat → Int32) (L d : Nat) (I : Nat → Nat → Int32) (J : Nat → Nat → Int64) (X : XH) (a1 : Int32) : zseg (zE xs L (d + 5) 95) (zC 95) 695 (zB95_0.drop 5) [(0, .ref 57), (1, .int a1)] [] (zmk I J X) = some (.inr (.inr (some (.int (zat I 60 13 a1))), zmk (zup I 57 4 (1 : Int32)) J X)) := by
  rfl
/-! 96 Watch.findBest ()V -/
theorem S96_0 (xs : Nat → Int32) (L d : Nat) (I : Nat → Nat → Int32) (J : Nat → Nat → Int64) (X : XH) : zseg (zE xs L (d + 5) 96) (zC 96) 700 (zC 96 0) [(0, .ref 57)] [] (zmk I J X) = some (.inl (2, [(0, .ref 57), (1, .int (0 : Int32)), (2, .int (0 : Int32))], zmk I J X)) := by
  rfl
theorem S96_2 (xs : Nat → Int32) (L d : Nat) (I : Nat → Nat → Int32) (J : Nat → Nat → Int64) (X : XH) (a1 : Int32) (a2 : Int32) : zseg (zE xs L (d + 5) 96) (zC 96) 700 (zC 96 2) [(0, .ref 57), (1, .int a1), (2, .int a2)] [] (zmk I J X) = if decide ((I 57 0) ≤ a2) = true then
  zqv (zev xs L (d + 5) 233 [.ref 60, .int (0 : Int32)] (zmk I J X)) (fun h => zseg (zE xs L (d + 5) 96) (zC 96) 692 (zB96_3.drop 4) [(0, .ref 57), (1, .int a1), (2, .int a2)] [] h)
  else some (.inl (2, [(0, .ref 57), (1, .int (a1 ||| (zat I 58 20 a2))), (2, .int (a2 + (1 : Int32)))], zmk I J X)) := by
  refine zite_congr ?_ ?_
  · rfl
  · rfl
theorem T96_3_4_692 (xs : Nat → Int32) (L d : Nat) (I : Nat → Nat → Int32) (J : Nat → Nat → Int64) (X : XH) (a1 : Int32) (a2 : Int32) : zseg (zE xs L (d + 5) 96) (zC 96) 692 (zB96_3.drop 4) [(0, .ref 57), (1, .int a1), (2, .int a2)] [] (zmk I J X) = some (.inl (5, [(0, .ref 57), (1, .int a1), (2, .int (1 : Int32))], zmk I J X)) := by
  rfl
theorem S96_5 (xs : Nat → Int32) (L d : Nat) (I : Nat → Nat → Int32) (J : Nat → Nat → Int64) (X : XH) (a1 : Int32) (a2 : Int32) : zseg (zE xs L (d + 5) 96) (zC 96) 700 (zC 96 5) [(0, .ref 57), (1, .int a1), (2, .int a2)] [] (zmk I J X) = if decide ((4096 : Int32) ≤ a2) = true then
  some (.inl (9, [(0, .ref 57), (1, .int a1), (2, .int (1 : Int32))], zmk I J X))
  else if decide (¬ (a2 &&& (a1 ^^^ (-1 : Int32))) = 0) = true then
    some (.inl (5, [(0, .ref 57), (1, .int a1), (2, .int (a2 + (1 : Int32)))], zmk I J X))
    else zci (zE xs L (d + 5) 96) (zev xs L (d + 5) 97 [.ref 57, .int a2, .int (zat I 60 13 (zbc a2))] (zmk I J X)) (fun r h => zseg (zE xs L (d + 5) 96) (zC 96) 681 (zB96_5.drop 19) [(3, .int (zbc a2)), (0, .ref 57), (1, .int a1), (2, .int a2)] [.int r] h) := by
  refine zite_congr ?_ ?_
  · rfl
  · refine zite_congr ?_ ?_
    · rfl
    · rfl
theorem T96_5_19_681 (xs : Nat → Int32) (L d : Nat) (I : Nat → Nat → Int32) (J : Nat → Nat → Int64) (X : XH) (a3 : Int32) (a1 : Int32) (a2 : Int32) (b0 : Int32) : zseg (zE xs L (d + 5) 96) (zC 96) 681 (zB96_5.drop 19) [(3, .int a3), (0, .ref 57), (1, .int a1), (2, .int a2)] [.int b0] (zmk I J X) = if decide (b0 = 0) = true then
  some (.inl (5, [(0, .ref 57), (1, .int a1), (2, .int (a2 + (1 : Int32)))], zmk I J X))
  else some (.inl (5, [(0, .ref 57), (1, .int a1), (2, .int (a2 + (1 : Int32)))], zmk (zput I 60 13 a3 a2) J X)) := by
  refine zite_congr ?_ ?_
  · rfl
  · rfl
theorem S96_9 (xs : Nat → Int32) (L d : Nat) (I : Nat → Nat → Int32) (J : Nat → Nat → Int64) (X : XH) (a1 : Int32) (a2 : Int32) : zseg (zE xs L (d + 5) 96) (zC 96) 700 (zC 96 9) [(0, .ref 57), (1, .int a1), (2, .int a2)] [] (zmk I J X) = if decide ((12 : Int32) < a2) = true then
  some (.inr (.inr none, zmk I J X))
  else zci (zE xs L (d + 5) 96) (zev xs L (d + 5) 91 [.ref 57, .int (zat I 60 13 a2)] (zmk I J X)) (fun r h => zseg (zE xs L (d + 5) 96) (zC 96) 684 (zB96_9.drop 16) [(3, .int (zat I 60 13 (a2 - (1 : Int32)))), (0, .ref 57), (1, .int a1), (2, .int a2)] [.int r] h) := by
  refine zite_congr ?_ ?_
  · rfl
  · rfl
theorem T96_9_16_684 (xs : Nat → Int32) (L d : Nat) (I : Nat → Nat → Int32) (J : Nat → Nat → Int64) (X : XH) (a3 : Int32) (a1 : Int32) (a2 : Int32) (b0 : Int32) : zseg (zE xs L (d + 5) 96) (zC 96) 684 (zB96_9.drop 16) [(3, .int a3), (0, .ref 57), (1, .int a1), (2, .int a2)] [.int b0] (zmk I J X) = zci (zE xs L (d + 5) 96) (zev xs L (d + 5) 91 [.ref 57, .int a3] (zmk I J X)) (fun r h => zseg (zE xs L (d + 5) 96) (zC 96) 681 (zB96_9.drop 19) [(3, .int a3), (0, .ref 57), (1, .int a1), (2, .int a2)] [.int r, .int b0] h) := by
  rfl
theorem T96_9_19_681 (xs : Nat → Int32) (L d : Nat) (I : Nat → Nat → Int32) (J : Nat → Nat → Int64) (X : XH) (a3 : Int32) (a1 : Int32) (a2 : Int32) (b0 : Int32) (b1 : Int32) : zseg (zE xs L (d + 5) 96) (zC 96) 681 (zB96_9.drop 19) [(3, .int a3), (0, .ref 57), (1, .int a1), (2, .int a2)] [.int b1, .int b0] (zmk I J X) = if decide (b1 < b0) = true then
  some (.inl (9, [(0, .ref 57), (1, .int a1), (2, .int (a2 + (1 : Int32)))], zmk I J X))
  else some (.inl (9, [(0, .ref 57), (1, .int a1), (2, .int (a2 + (1 : Int32)))], zmk (zput I 60 13 a2 a3) J X)) := by
  refine zite_congr ?_ ?_
  · rfl
  · rfl
/-! 97 Watch.isBetter (II)Z -/
theorem S97_0 (xs : Nat → Int32) (L d : Nat) (I : Nat → Nat → Int32) (J : Nat → Nat → Int64) (X : XH) (a1 : Int32) (a2 : Int32) : zseg (zE xs L (d + 5) 97) (zC 97) 700 (zC 97 0) [(0, .ref 57), (1, .int a1), (2, .int a2)] [] (zmk I J X) = zci (zE xs L (d + 5) 97) (zev xs L (d + 5) 91 [.ref 57, .int a1] (zmk I J X)) (fun r h => zseg (zE xs L (d + 5) 97) (zC 97) 697 (zB97_0.drop 3) [(0, .ref 57), (1, .int a1), (2, .int a2)] [.int r] h) := by
  rfl
theorem T97_0_3_697 (xs : Nat → Int32) (L d : Nat) (I : Nat → Nat → Int32) (J : Nat → Nat → Int64) (X : XH) (a1 : Int32) (a2 : Int32) (b0 : Int32) : zseg (zE xs L (d + 5) 97) (zC 97) 697 (zB97_0.drop 3) [(0, .ref 57), (1, .int a1), (2, .int a2)] [.int b0] (zmk I J X) = zci (zE xs L (d + 5) 97) (zev xs L (d + 5) 91 [.ref 57, .int a2] (zmk I J X)) (fun r h => zseg (zE xs L (d + 5) 97) (zC 97) 694 (zB97_0.drop 6) [(0, .ref 57), (1, .int a1), (2, .int a2)] [.int r, .int b0] h) := by
  rfl
theorem T97_0_6_694 (xs : Nat → Int32) (L d : Nat) (I : Nat → Nat → Int32) (J : Nat → Nat → Int64) (X : XH) (a1 : Int32) (a2 : Int32) (b0 : Int32) (b1 : Int32) : zseg (zE xs L (d + 5) 97) (zC 97) 694 (zB97_0.drop 6) [(0, .ref 57), (1, .int a1), (2, .int a2)] [.int b1, .int b0] (zmk I J X) = if decide (0 < (b0 - b1)) = true then
  some (.inr (.inr (some (.int (1 : Int32))), zmk I J X))
  else if decide (¬ (b0 - b1) = 0) = true then
    some (.inr (.inr (some (.int (0 : Int32))), zmk I J X))
    else if decide (((a1 &&& (a1 ^^^ a2)) &&& (-(a1 ^^^ a2))) = 0) = true then
      some (.inr (.inr (some (.int (0 : Int32))), zmk I J X))
      else some (.inr (.inr (some (.int (1 : Int32))), zmk I J X)) := by
  refine zite_congr ?_ ?_
  · rfl
  · refine zite_congr ?_ ?_
    · rfl
    · refine zite_congr ?_ ?_
      · rfl
      · rfl
