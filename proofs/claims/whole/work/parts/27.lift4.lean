/-! What the stretches answer: each by rfl. Written by program (wip/whole/lift.py). -/
/-! 178 TollTagsModel.need (I)V -/
theorem S178_0 (xs : Nat → Int32) (L d : Nat) (I : Nat → Nat → Int32) (J : Nat → Nat → Int64) (X : XH) (a1 : Int32) : zseg (zE xs L (d + 5) 178) (zC 178) 700 (zC 178 0) [(0, .ref 61), (1, .int a1)] [] (zmk I J X) = if decide (¬ (I 61 65) = 0) = true then
  if decide (¬ (I 61 65) = 0) = true then
    some (.inr (.inr none, zmk I J X))
    else zcw (zE xs L (d + 5) 178) (zev xs L (d + 5) 161 [.ref 61] (zmk I J X)) (fun h => zseg (zE xs L (d + 5) 178) (zC 178) 692 (zB178_1.drop 5) [(0, .ref 61), (1, .int a1)] [] h)
  else if decide (¬ (zbi (I 61 65 = 0 ∧ I 61 60 = 3 ∧ I 61 61 = a1)) = 0) = true then
    if decide (¬ (I 61 65) = 0) = true then
      some (.inr (.inr none, zmk I J X))
      else zcw (zE xs L (d + 5) 178) (zev xs L (d + 5) 161 [.ref 61] (zmk I J X)) (fun h => zseg (zE xs L (d + 5) 178) (zC 178) 688 (zB178_1.drop 5) [(0, .ref 61), (1, .int a1)] [] h)
    else zcw (zE xs L (d + 5) 178) (zev xs L (d + 5) 167 [.ref 61, .int (1 : Int32)] (zmk I J X)) (fun h => zseg (zE xs L (d + 5) 178) (zC 178) 690 (zB178_0.drop 10) [(0, .ref 61), (1, .int a1)] [] h) := by
  refine zite_congr ?_ ?_
  · refine zite_congr ?_ ?_
    · rfl
    · rfl
  · refine zite_congr ?_ ?_
    · refine zite_congr ?_ ?_
      · rfl
      · rfl
    · rfl
theorem T178_1_5_692 (xs : Nat → Int32) (L d : Nat) (I : Nat → Nat → Int32) (J : Nat → Nat → Int64) (X : XH) (a1 : Int32) : zseg (zE xs L (d + 5) 178) (zC 178) 692 (zB178_1.drop 5) [(0, .ref 61), (1, .int a1)] [] (zmk I J X) = some (.inr (.inr none, zmk I J X)) := by
  rfl
theorem T178_1_5_688 (xs : Nat → Int32) (L d : Nat) (I : Nat → Nat → Int32) (J : Nat → Nat → Int64) (X : XH) (a1 : Int32) : zseg (zE xs L (d + 5) 178) (zC 178) 688 (zB178_1.drop 5) [(0, .ref 61), (1, .int a1)] [] (zmk I J X) = some (.inr (.inr none, zmk I J X)) := by
  rfl
theorem T178_0_10_690 (xs : Nat → Int32) (L d : Nat) (I : Nat → Nat → Int32) (J : Nat → Nat → Int64) (X : XH) (a1 : Int32) : zseg (zE xs L (d + 5) 178) (zC 178) 690 (zB178_0.drop 10) [(0, .ref 61), (1, .int a1)] [] (zmk I J X) = if decide (¬ (I 61 65) = 0) = true then
  some (.inr (.inr none, zmk I J X))
  else zcw (zE xs L (d + 5) 178) (zev xs L (d + 5) 161 [.ref 61] (zmk I J X)) (fun h => zseg (zE xs L (d + 5) 178) (zC 178) 684 (zB178_1.drop 5) [(0, .ref 61), (1, .int a1)] [] h) := by
  refine zite_congr ?_ ?_
  · rfl
  · rfl
theorem T178_1_5_684 (xs : Nat → Int32) (L d : Nat) (I : Nat → Nat → Int32) (J : Nat → Nat → Int64) (X : XH) (a1 : Int32) : zseg (zE xs L (d + 5) 178) (zC 178) 684 (zB178_1.drop 5) [(0, .ref 61), (1, .int a1)] [] (zmk I J X) = some (.inr (.inr none, zmk I J X)) := by
  rfl
/-! 179 TollTagsModel.fault ()I -/
theorem S179_0 (xs : Nat → Int32) (L d : Nat) (I : Nat → Nat → Int32) (J : Nat → Nat → Int64) (X : XH) : zseg (zE xs L (d + 5) 179) (zC 179) 700 (zC 179 0) [(0, .ref 61)] [] (zmk I J X) = some (.inr (.inr (some (.int (I 61 67))), zmk (zup I 61 1 (0 : Int32)) J X)) := by
  rfl
/-! 180 TollTagsModel.black (IZI)I -/
theorem S180_0 (xs : Nat → Int32) (L d : Nat) (I : Nat → Nat → Int32) (J : Nat → Nat → Int64) (X : XH) (a1 : Int32) (a2 : Int32) (a3 : Int32) : zseg (zE xs L (d + 5) 180) (zC 180) 700 (zC 180 0) [(0, .ref 61), (1, .int a1), (2, .int a2), (3, .int a3)] [] (zmk I J X) = if decide (¬ (zbi (¬ a1 < 0 ∧ ¬ I 61 7 ≤ a1)) = 0) = true then
  if decide (¬ (I 61 22) = (60 : Int32)) = true then
    if zix 0 60 0 (I 61 22) then
      if zix 1 60 1 (I 61 22) then
        if zix 0 60 0 (I 61 22) then
          if zix 0 60 0 (I 61 22) then
            some (.inr (.inr (some (.int ((I 61 22) + (1 : Int32)))), zmk (zup (zup (zup (zup (zup (zup I 61 1 (0 : Int32)) 84 ((I 61 22).toNatClampNeg) a1) 91 ((I 61 22).toNatClampNeg) (vp_nar .boolean a2)) 85 ((I 61 22).toNatClampNeg) a3) 86 ((I 61 22).toNatClampNeg) (I 61 2)) 61 22 ((I 61 22) + (1 : Int32))) J X))
            else none
          else none
        else none
      else none
    else some (.inr (.inr (some (.int (-1 : Int32))), zmk (zup I 61 1 (0 : Int32)) J X))
  else some (.inr (.inr (some (.int (0 : Int32))), zmk (zup (zup I 61 1 (0 : Int32)) 61 1 (1 : Int32)) J X)) := by
  refine zite_congr ?_ ?_
  · refine zite_congr ?_ ?_
    · refine zite_congr ?_ ?_
      · refine zite_congr ?_ ?_
        · refine zite_congr ?_ ?_
          · refine zite_congr ?_ ?_
            · rfl
            · rfl
          · rfl
        · rfl
      · rfl
    · rfl
  · rfl
/-! 181 TollTagsModel.rate (III)Z -/
theorem S181_0 (xs : Nat → Int32) (L d : Nat) (I : Nat → Nat → Int32) (J : Nat → Nat → Int64) (X : XH) (a1 : Int32) (a2 : Int32) (a3 : Int32) : zseg (zE xs L (d + 5) 181) (zC 181) 700 (zC 181 0) [(0, .ref 61), (1, .int a1), (2, .int a2), (3, .int a3)] [] (zmk I J X) = if decide (¬ (zbi (¬ a1 < 0 ∧ ¬ I 61 3 ≤ a1)) = 0) = true then
  if decide (a2 < 0) = true then
    some (.inr (.inr (some (.int (0 : Int32))), zmk (zup I 61 1 (0 : Int32)) J X))
    else if decide ((3 : Int32) ≤ a2) = true then
      some (.inr (.inr (some (.int (0 : Int32))), zmk (zup I 61 1 (0 : Int32)) J X))
      else if decide (a3 < (1 : Int32)) = true then
        some (.inr (.inr (some (.int (0 : Int32))), zmk (zup I 61 1 (0 : Int32)) J X))
        else if decide ((99999 : Int32) < a3) = true then
          some (.inr (.inr (some (.int (0 : Int32))), zmk (zup I 61 1 (0 : Int32)) J X))
          else if decide (¬ (I 61 23) = (60 : Int32)) = true then
            if zix 0 60 0 (I 61 23) then
              if zix 0 60 0 (I 61 23) then
                if zix 0 60 0 (I 61 23) then
                  if zix 0 60 0 (I 61 23) then
                    some (.inr (.inr (some (.int (1 : Int32))), zmk (zup (zup (zup (zup (zup (zup I 61 1 (0 : Int32)) 87 ((I 61 23).toNatClampNeg) a1) 88 ((I 61 23).toNatClampNeg) a2) 89 ((I 61 23).toNatClampNeg) a3) 90 ((I 61 23).toNatClampNeg) (I 61 2)) 61 23 ((I 61 23) + (1 : Int32))) J X))
                    else none
                  else none
                else none
              else none
            else some (.inr (.inr (some (.int (0 : Int32))), zmk (zup I 61 1 (0 : Int32)) J X))
  else some (.inr (.inr (some (.int (0 : Int32))), zmk (zup (zup I 61 1 (0 : Int32)) 61 1 (1 : Int32)) J X)) := by
  refine zite_congr ?_ ?_
  · refine zite_congr ?_ ?_
    · rfl
    · refine zite_congr ?_ ?_
      · rfl
      · refine zite_congr ?_ ?_
        · rfl
        · refine zite_congr ?_ ?_
          · rfl
          · refine zite_congr ?_ ?_
            · refine zite_congr ?_ ?_
              · refine zite_congr ?_ ?_
                · refine zite_congr ?_ ?_
                  · refine zite_congr ?_ ?_
                    · rfl
                    · rfl
                  · rfl
                · rfl
              · rfl
            · rfl
  · rfl
/-! 182 TollTagsModel.track (III)I -/
theorem S182_0 (xs : Nat → Int32) (L d : Nat) (I : Nat → Nat → Int32) (J : Nat → Nat → Int64) (X : XH) (a1 : Int32) (a2 : Int32) (a3 : Int32) : zseg (zE xs L (d + 5) 182) (zC 182) 700 (zC 182 0) [(0, .ref 61), (1, .int a1), (2, .int a2), (3, .int a3)] [] (zmk I J X) = if decide ((zbi (¬ a1 < 0 ∧ ¬ I 61 7 ≤ a1)) = 0) = true then
  some (.inr (.inr (some (.int (0 : Int32))), zmk (zup (zup I 61 1 (0 : Int32)) 61 1 (1 : Int32)) J X))
  else if decide (a2 < 0) = true then
    some (.inr (.inr (some (.int (0 : Int32))), zmk (zup (zup I 61 1 (0 : Int32)) 61 1 (1 : Int32)) J X))
    else if decide (a2 ≤ (5 : Int32)) = true then
      if decide (¬ (zbi (¬ a3 < 0 ∧ ¬ I 61 2 < a3)) = 0) = true then
        zcw (zE xs L (d + 5) 182) (zev xs L (d + 5) 184 [.ref 61, .int a3] (zmk (zup I 61 1 (0 : Int32)) J X)) (fun h => zseg (zE xs L (d + 5) 182) (zC 182) 681 (zB182_3.drop 3) [(0, .ref 61), (1, .int a1), (2, .int a2), (3, .int a3)] [] h)
        else some (.inr (.inr (some (.int (0 : Int32))), zmk (zup (zup I 61 1 (0 : Int32)) 61 1 (2 : Int32)) J X))
      else some (.inr (.inr (some (.int (0 : Int32))), zmk (zup (zup I 61 1 (0 : Int32)) 61 1 (1 : Int32)) J X)) := by
  refine zite_congr ?_ ?_
  · rfl
  · refine zite_congr ?_ ?_
    · rfl
    · refine zite_congr ?_ ?_
      · refine zite_congr ?_ ?_
        · rfl
        · rfl
      · rfl
theorem T182_3_3_681 (xs : Nat → Int32) (L d : Nat) (I : Nat → Nat → Int32) (J : Nat → Nat → Int64) (X : XH) (a1 : Int32) (a2 : Int32) (a3 : Int32) : zseg (zE xs L (d + 5) 182) (zC 182) 681 (zB182_3.drop 3) [(0, .ref 61), (1, .int a1), (2, .int a2), (3, .int a3)] [] (zmk I J X) = zcw (zE xs L (d + 5) 182) (zev xs L (d + 5) 189 [.ref 61, .int a1, .int a3] (zmk I J X)) (fun h => zseg (zE xs L (d + 5) 182) (zC 182) 677 (zB182_3.drop 7) [(0, .ref 61), (1, .int a1), (2, .int a2), (3, .int a3)] [] h) := by
  rfl
theorem T182_3_7_677 (xs : Nat → Int32) (L d : Nat) (I : Nat → Nat → Int32) (J : Nat → Nat → Int64) (X : XH) (a1 : Int32) (a2 : Int32) (a3 : Int32) : zseg (zE xs L (d + 5) 182) (zC 182) 677 (zB182_3.drop 7) [(0, .ref 61), (1, .int a1), (2, .int a2), (3, .int a3)] [] (zmk I J X) = if decide ((2 : Int32) ≤ a2) = true then
  some (.inl (8, [(0, .ref 61), (1, .int a1), (2, .int a2), (3, .int a3), (4, .int (0 : Int32)), (5, .int (0 : Int32))], zmk I J X))
  else if decide (¬ a2 = 0) = true then
    some (.inr (.inr (some (.int (I 61 77))), zmk I J X))
    else some (.inr (.inr (some (.int (I 61 76))), zmk I J X)) := by
  refine zite_congr ?_ ?_
  · rfl
  · refine zite_congr ?_ ?_
    · rfl
    · rfl
theorem S182_8 (xs : Nat → Int32) (L d : Nat) (I : Nat → Nat → Int32) (J : Nat → Nat → Int64) (X : XH) (a1 : Int32) (a2 : Int32) (a3 : Int32) (a4 : Int32) (a5 : Int32) : zseg (zE xs L (d + 5) 182) (zC 182) 700 (zC 182 8) [(0, .ref 61), (1, .int a1), (2, .int a2), (3, .int a3), (4, .int a4), (5, .int a5)] [] (zmk I J X) = if decide ((I 61 76) ≤ a5) = true then
  some (.inr (.inr (some (.int a4)), zmk I J X))
  else if decide (¬ a2 = (2 : Int32)) = true then
    if decide (¬ a2 = (3 : Int32)) = true then
      if decide (¬ a2 = (4 : Int32)) = true then
        if zix 0 8000 0 a5 then
          if decide (¬ (I 114 a5.toNatClampNeg) = (-1 : Int32)) = true then
            some (.inl (8, [(0, .ref 61), (1, .int a1), (2, .int a2), (3, .int a3), (4, .int (a4 + (0 : Int32))), (5, .int (a5 + (1 : Int32)))], zmk I J X))
            else some (.inl (8, [(0, .ref 61), (1, .int a1), (2, .int a2), (3, .int a3), (4, .int (a4 + (1 : Int32))), (5, .int (a5 + (1 : Int32)))], zmk I J X))
          else none
        else if zix 1 8000 1 a5 then
          if decide ((I 118 a5.toNatClampNeg) = 0) = true then
            some (.inl (8, [(0, .ref 61), (1, .int a1), (2, .int a2), (3, .int a3), (4, .int (a4 + (0 : Int32))), (5, .int (a5 + (1 : Int32)))], zmk I J X))
            else some (.inl (8, [(0, .ref 61), (1, .int a1), (2, .int a2), (3, .int a3), (4, .int (a4 + (1 : Int32))), (5, .int (a5 + (1 : Int32)))], zmk I J X))
          else none
      else if zix 0 8000 0 a5 then
        if zix 0 40 0 (I 112 a5.toNatClampNeg) then
          some (.inl (8, [(0, .ref 61), (1, .int a1), (2, .int a2), (3, .int a3), (4, .int (a4 + (I 66 ((I 112 a5.toNatClampNeg).toNatClampNeg)))), (5, .int (a5 + (1 : Int32)))], zmk I J X))
          else none
        else none
    else if zix 0 8000 0 a5 then
      some (.inl (8, [(0, .ref 61), (1, .int a1), (2, .int a2), (3, .int a3), (4, .int (a4 + (I 115 a5.toNatClampNeg))), (5, .int (a5 + (1 : Int32)))], zmk I J X))
      else none := by
  refine zite_congr ?_ ?_
  · rfl
  · refine zite_congr ?_ ?_
    · refine zite_congr ?_ ?_
      · refine zite_congr ?_ ?_
        · refine zite_congr ?_ ?_
          · refine zite_congr ?_ ?_
            · rfl
            · rfl
          · rfl
        · refine zite_congr ?_ ?_
          · refine zite_congr ?_ ?_
            · rfl
            · rfl
          · rfl
      · refine zite_congr ?_ ?_
        · refine zite_congr ?_ ?_
          · rfl
          · rfl
        · rfl
    · refine zite_congr ?_ ?_
      · rfl
      · rfl
/-! 184 TollTagsModel.know (I)V -/
theorem S184_0 (xs : Nat → Int32) (L d : Nat) (I : Nat → Nat → Int32) (J : Nat → Nat → Int64) (X : XH) (a1 : Int32) : zseg (zE xs L (d + 5) 184) (zC 184) 700 (zC 184 0) [(0, .ref 61), (1, .int a1)] [] (zmk I J X) = zcw (zE xs L (d + 5) 184) (zev xs L (d + 5) 185 [.ref 61, .int a1] (zmk I J X)) (fun h => zseg (zE xs L (d + 5) 184) (zC 184) 697 (zB184_0.drop 3) [(0, .ref 61), (1, .int a1)] [] h) := by
  rfl
theorem T184_0_3_697 (xs : Nat → Int32) (L d : Nat) (I : Nat → Nat → Int32) (J : Nat → Nat → Int64) (X : XH) (a1 : Int32) : zseg (zE xs L (d + 5) 184) (zC 184) 697 (zB184_0.drop 3) [(0, .ref 61), (1, .int a1)] [] (zmk I J X) = zcw (zE xs L (d + 5) 184) (zev xs L (d + 5) 188 [.ref 61] (zmk I J X)) (fun h => zseg (zE xs L (d + 5) 184) (zC 184) 695 (zB184_0.drop 5) [(0, .ref 61), (1, .int a1)] [] h) := by
  rfl
theorem T184_0_5_695 (xs : Nat → Int32) (L d : Nat) (I : Nat → Nat → Int32) (J : Nat → Nat → Int64) (X : XH) (a1 : Int32) : zseg (zE xs L (d + 5) 184) (zC 184) 695 (zB184_0.drop 5) [(0, .ref 61), (1, .int a1)] [] (zmk I J X) = some (.inr (.inr none, zmk I J X)) := by
  rfl
/-! 185 TollTagsModel.judgeAll (I)V -/
theorem S185_0 (xs : Nat → Int32) (L d : Nat) (I : Nat → Nat → Int32) (J : Nat → Nat → Int64) (X : XH) (a1 : Int32) : zseg (zE xs L (d + 5) 185) (zC 185) 700 (zC 185 0) [(0, .ref 61), (1, .int a1)] [] (zmk I J X) = some (.inl (2, [(0, .ref 61), (1, .int a1), (2, .int (0 : Int32))], zmk I J X)) := by
  rfl
theorem S185_2 (xs : Nat → Int32) (L d : Nat) (I : Nat → Nat → Int32) (J : Nat → Nat → Int64) (X : XH) (a1 : Int32) (a2 : Int32) : zseg (zE xs L (d + 5) 185) (zC 185) 700 (zC 185 2) [(0, .ref 61), (1, .int a1), (2, .int a2)] [] (zmk I J X) = if decide ((I 61 19) ≤ a2) = true then
  some (.inr (.inr none, zmk I J X))
  else zcw (zE xs L (d + 5) 185) (zev xs L (d + 5) 186 [.ref 61, .int a2, .int a1] (zmk I J X)) (fun h => zseg (zE xs L (d + 5) 185) (zC 185) 692 (zB185_2.drop 8) [(0, .ref 61), (1, .int a1), (2, .int a2)] [] h) := by
  refine zite_congr ?_ ?_
  · rfl
  · rfl
theorem T185_2_8_692 (xs : Nat → Int32) (L d : Nat) (I : Nat → Nat → Int32) (J : Nat → Nat → Int64) (X : XH) (a1 : Int32) (a2 : Int32) : zseg (zE xs L (d + 5) 185) (zC 185) 692 (zB185_2.drop 8) [(0, .ref 61), (1, .int a1), (2, .int a2)] [] (zmk I J X) = some (.inl (2, [(0, .ref 61), (1, .int a1), (2, .int (a2 + (1 : Int32)))], zmk I J X)) := by
  rfl
/-! 186 TollTagsModel.judge (II)V -/
theorem S186_0 (xs : Nat → Int32) (L d : Nat) (I : Nat → Nat → Int32) (J : Nat → Nat → Int64) (X : XH) (a1 : Int32) (a2 : Int32) : zseg (zE xs L (d + 5) 186) (zC 186) 700 (zC 186 0) [(0, .ref 61), (1, .int a1), (2, .int a2)] [] (zmk I J X) = some (.inl (2, [(0, .ref 61), (1, .int a1), (2, .int a2), (3, .int (-1 : Int32)), (4, .int (0 : Int32))], zmk I J X)) := by
  rfl
theorem S186_2 (xs : Nat → Int32) (L d : Nat) (I : Nat → Nat → Int32) (J : Nat → Nat → Int64) (X : XH) (a1 : Int32) (a2 : Int32) (a3 : Int32) (a4 : Int32) : zseg (zE xs L (d + 5) 186) (zC 186) 700 (zC 186 2) [(0, .ref 61), (1, .int a1), (2, .int a2), (3, .int a3), (4, .int a4)] [] (zmk I J X) = if decide ((I 61 20) ≤ a4) = true then
  if decide (a3 = (-1 : Int32)) = true then
    if zix 0 300 0 a1 then
      if zix 0 300 0 a1 then
        if zix 0 300 0 a1 then
          if decide (a2 < (I 77 a1.toNatClampNeg)) = true then
            if zix 0 300 0 a1 then
              if zix 0 40 0 ((zup I 108 a1.toNatClampNeg (I 75 a1.toNatClampNeg)) 108 a1.toNatClampNeg) then
                if zix 0 300 0 a1 then
                  zci (zE xs L (d + 5) 186) (zev xs L (d + 5) 187 [.ref 61, .int (I 65 (((zup I 108 a1.toNatClampNeg (I 75 a1.toNatClampNeg)) 108 a1.toNatClampNeg).toNatClampNeg)), .int (I 76 a1.toNatClampNeg), .int a2] (zmk (zup I 108 a1.toNatClampNeg (I 75 a1.toNatClampNeg)) J X)) (fun r h => zseg (zE xs L (d + 5) 186) (zC 186) 661 (zB186_11.drop 15) [(4, .int (0 : Int32)), (0, .ref 61), (1, .int a1), (2, .int a2), (3, .int a3)] [.int r] h)
                  else none
                else none
              else none
            else if zix 0 300 0 a1 then
              if decide ((I 78 a1.toNatClampNeg) = (-1 : Int32)) = true then
                if zix 0 300 0 a1 then
                  if zix 0 40 0 ((zup I 108 a1.toNatClampNeg (I 75 a1.toNatClampNeg)) 108 a1.toNatClampNeg) then
                    if zix 0 300 0 a1 then
                      zci (zE xs L (d + 5) 186) (zev xs L (d + 5) 187 [.ref 61, .int (I 65 (((zup I 108 a1.toNatClampNeg (I 75 a1.toNatClampNeg)) 108 a1.toNatClampNeg).toNatClampNeg)), .int (I 76 a1.toNatClampNeg), .int a2] (zmk (zup I 108 a1.toNatClampNeg (I 75 a1.toNatClampNeg)) J X)) (fun r h => zseg (zE xs L (d + 5) 186) (zC 186) 655 (zB186_11.drop 15) [(4, .int (1 : Int32)), (0, .ref 61), (1, .int a1), (2, .int a2), (3, .int a3)] [.int r] h)
                      else none
                    else none
                  else none
                else if zix 0 300 0 a1 then
                  if decide ((I 78 a1.toNatClampNeg) ≤ a2) = true then
                    if zix 0 300 0 a1 then
                      if zix 0 40 0 ((zup I 108 a1.toNatClampNeg (I 75 a1.toNatClampNeg)) 108 a1.toNatClampNeg) then
                        if zix 0 300 0 a1 then
                          zci (zE xs L (d + 5) 186) (zev xs L (d + 5) 187 [.ref 61, .int (I 65 (((zup I 108 a1.toNatClampNeg (I 75 a1.toNatClampNeg)) 108 a1.toNatClampNeg).toNatClampNeg)), .int (I 76 a1.toNatClampNeg), .int a2] (zmk (zup I 108 a1.toNatClampNeg (I 75 a1.toNatClampNeg)) J X)) (fun r h => zseg (zE xs L (d + 5) 186) (zC 186) 649 (zB186_11.drop 15) [(4, .int (0 : Int32)), (0, .ref 61), (1, .int a1), (2, .int a2), (3, .int a3)] [.int r] h)
                          else none
                        else none
                      else none
                    else if zix 0 300 0 a1 then
                      if zix 0 40 0 ((zup I 108 a1.toNatClampNeg (I 75 a1.toNatClampNeg)) 108 a1.toNatClampNeg) then
                        if zix 0 300 0 a1 then
                          zci (zE xs L (d + 5) 186) (zev xs L (d + 5) 187 [.ref 61, .int (I 65 (((zup I 108 a1.toNatClampNeg (I 75 a1.toNatClampNeg)) 108 a1.toNatClampNeg).toNatClampNeg)), .int (I 76 a1.toNatClampNeg), .int a2] (zmk (zup I 108 a1.toNatClampNeg (I 75 a1.toNatClampNeg)) J X)) (fun r h => zseg (zE xs L (d + 5) 186) (zC 186) 648 (zB186_11.drop 15) [(4, .int (1 : Int32)), (0, .ref 61), (1, .int a1), (2, .int a2), (3, .int a3)] [.int r] h)
                          else none
                        else none
                      else none
                  else none
              else none
          else none
        else none
      else none
    else if zix 0 40 0 a3 then
      if decide (¬ (I 82 a3.toNatClampNeg) = (2 : Int32)) = true then
        if zix 0 300 0 a1 then
          if zix 0 300 0 a1 then
            if zix 0 300 0 a1 then
              if decide (a2 < (I 77 a1.toNatClampNeg)) = true then
                if zix 0 300 0 a1 then
                  if zix 0 40 0 ((zup I 108 a1.toNatClampNeg (I 75 a1.toNatClampNeg)) 108 a1.toNatClampNeg) then
                    if zix 0 300 0 a1 then
                      zci (zE xs L (d + 5) 186) (zev xs L (d + 5) 187 [.ref 61, .int (I 65 (((zup I 108 a1.toNatClampNeg (I 75 a1.toNatClampNeg)) 108 a1.toNatClampNeg).toNatClampNeg)), .int (I 76 a1.toNatClampNeg), .int a2] (zmk (zup I 108 a1.toNatClampNeg (I 75 a1.toNatClampNeg)) J X)) (fun r h => zseg (zE xs L (d + 5) 186) (zC 186) 655 (zB186_11.drop 15) [(4, .int (0 : Int32)), (0, .ref 61), (1, .int a1), (2, .int a2), (3, .int a3)] [.int r] h)
                      else none
                    else none
                  else none
                else if zix 0 300 0 a1 then
                  if decide ((I 78 a1.toNatClampNeg) = (-1 : Int32)) = true then
                    if zix 0 300 0 a1 then
                      if zix 0 40 0 ((zup I 108 a1.toNatClampNeg (I 75 a1.toNatClampNeg)) 108 a1.toNatClampNeg) then
                        if zix 0 300 0 a1 then
                          zci (zE xs L (d + 5) 186) (zev xs L (d + 5) 187 [.ref 61, .int (I 65 (((zup I 108 a1.toNatClampNeg (I 75 a1.toNatClampNeg)) 108 a1.toNatClampNeg).toNatClampNeg)), .int (I 76 a1.toNatClampNeg), .int a2] (zmk (zup I 108 a1.toNatClampNeg (I 75 a1.toNatClampNeg)) J X)) (fun r h => zseg (zE xs L (d + 5) 186) (zC 186) 649 (zB186_11.drop 15) [(4, .int (1 : Int32)), (0, .ref 61), (1, .int a1), (2, .int a2), (3, .int a3)] [.int r] h)
                          else none
                        else none
                      else none
                    else if zix 0 300 0 a1 then
                      if decide ((I 78 a1.toNatClampNeg) ≤ a2) = true then
                        if zix 0 300 0 a1 then
                          if zix 0 40 0 ((zup I 108 a1.toNatClampNeg (I 75 a1.toNatClampNeg)) 108 a1.toNatClampNeg) then
                            if zix 0 300 0 a1 then
                              zci (zE xs L (d + 5) 186) (zev xs L (d + 5) 187 [.ref 61, .int (I 65 (((zup I 108 a1.toNatClampNeg (I 75 a1.toNatClampNeg)) 108 a1.toNatClampNeg).toNatClampNeg)), .int (I 76 a1.toNatClampNeg), .int a2] (zmk (zup I 108 a1.toNatClampNeg (I 75 a1.toNatClampNeg)) J X)) (fun r h => zseg (zE xs L (d + 5) 186) (zC 186) 643 (zB186_11.drop 15) [(4, .int (0 : Int32)), (0, .ref 61), (1, .int a1), (2, .int a2), (3, .int a3)] [.int r] h)
                              else none
                            else none
                          else none
                        else if zix 0 300 0 a1 then
                          if zix 0 40 0 ((zup I 108 a1.toNatClampNeg (I 75 a1.toNatClampNeg)) 108 a1.toNatClampNeg) then
                            if zix 0 300 0 a1 then
                              zci (zE xs L (d + 5) 186) (zev xs L (d + 5) 187 [.ref 61, .int (I 65 (((zup I 108 a1.toNatClampNeg (I 75 a1.toNatClampNeg)) 108 a1.toNatClampNeg).toNatClampNeg)), .int (I 76 a1.toNatClampNeg), .int a2] (zmk (zup I 108 a1.toNatClampNeg (I 75 a1.toNatClampNeg)) J X)) (fun r h => zseg (zE xs L (d + 5) 186) (zC 186) 642 (zB186_11.drop 15) [(4, .int (1 : Int32)), (0, .ref 61), (1, .int a1), (2, .int a2), (3, .int a3)] [.int r] h)
                              else none
                            else none
                          else none
                      else none
                  else none
              else none
            else none
          else none
        else if zix 0 40 0 a3 then
          if zix 0 300 0 a1 then
            if zix 0 300 0 a1 then
              if decide (a2 < (I 77 a1.toNatClampNeg)) = true then
                if zix 0 300 0 a1 then
                  if zix 0 40 0 ((zup I 108 a1.toNatClampNeg (I 83 a3.toNatClampNeg)) 108 a1.toNatClampNeg) then
                    if zix 0 300 0 a1 then
                      zci (zE xs L (d + 5) 186) (zev xs L (d + 5) 187 [.ref 61, .int (I 65 (((zup I 108 a1.toNatClampNeg (I 83 a3.toNatClampNeg)) 108 a1.toNatClampNeg).toNatClampNeg)), .int (I 76 a1.toNatClampNeg), .int a2] (zmk (zup I 108 a1.toNatClampNeg (I 83 a3.toNatClampNeg)) J X)) (fun r h => zseg (zE xs L (d + 5) 186) (zC 186) 655 (zB186_11.drop 15) [(4, .int (0 : Int32)), (0, .ref 61), (1, .int a1), (2, .int a2), (3, .int a3)] [.int r] h)
                      else none
                    else none
                  else none
                else if zix 0 300 0 a1 then
                  if decide ((I 78 a1.toNatClampNeg) = (-1 : Int32)) = true then
                    if zix 0 300 0 a1 then
                      if zix 0 40 0 ((zup I 108 a1.toNatClampNeg (I 83 a3.toNatClampNeg)) 108 a1.toNatClampNeg) then
                        if zix 0 300 0 a1 then
                          zci (zE xs L (d + 5) 186) (zev xs L (d + 5) 187 [.ref 61, .int (I 65 (((zup I 108 a1.toNatClampNeg (I 83 a3.toNatClampNeg)) 108 a1.toNatClampNeg).toNatClampNeg)), .int (I 76 a1.toNatClampNeg), .int a2] (zmk (zup I 108 a1.toNatClampNeg (I 83 a3.toNatClampNeg)) J X)) (fun r h => zseg (zE xs L (d + 5) 186) (zC 186) 649 (zB186_11.drop 15) [(4, .int (1 : Int32)), (0, .ref 61), (1, .int a1), (2, .int a2), (3, .int a3)] [.int r] h)
                          else none
                        else none
                      else none
                    else if zix 0 300 0 a1 then
                      if decide ((I 78 a1.toNatClampNeg) ≤ a2) = true then
                        if zix 0 300 0 a1 then
                          if zix 0 40 0 ((zup I 108 a1.toNatClampNeg (I 83 a3.toNatClampNeg)) 108 a1.toNatClampNeg) then
                            if zix 0 300 0 a1 then
                              zci (zE xs L (d + 5) 186) (zev xs L (d + 5) 187 [.ref 61, .int (I 65 (((zup I 108 a1.toNatClampNeg (I 83 a3.toNatClampNeg)) 108 a1.toNatClampNeg).toNatClampNeg)), .int (I 76 a1.toNatClampNeg), .int a2] (zmk (zup I 108 a1.toNatClampNeg (I 83 a3.toNatClampNeg)) J X)) (fun r h => zseg (zE xs L (d + 5) 186) (zC 186) 643 (zB186_11.drop 15) [(4, .int (0 : Int32)), (0, .ref 61), (1, .int a1), (2, .int a2), (3, .int a3)] [.int r] h)
                              else none
                            else none
                          else none
                        else if zix 0 300 0 a1 then
                          if zix 0 40 0 ((zup I 108 a1.toNatClampNeg (I 83 a3.toNatClampNeg)) 108 a1.toNatClampNeg) then
                            if zix 0 300 0 a1 then
                              zci (zE xs L (d + 5) 186) (zev xs L (d + 5) 187 [.ref 61, .int (I 65 (((zup I 108 a1.toNatClampNeg (I 83 a3.toNatClampNeg)) 108 a1.toNatClampNeg).toNatClampNeg)), .int (I 76 a1.toNatClampNeg), .int a2] (zmk (zup I 108 a1.toNatClampNeg (I 83 a3.toNatClampNeg)) J X)) (fun r h => zseg (zE xs L (d + 5) 186) (zC 186) 642 (zB186_11.drop 15) [(4, .int (1 : Int32)), (0, .ref 61), (1, .int a1), (2, .int a2), (3, .int a3)] [.int r] h)
                              else none
                            else none
                          else none
                      else none
                  else none
              else none
            else none
          else none
      else none
  else if zix 0 40 0 a4 then
    if decide (¬ (I 79 a4.toNatClampNeg) = a1) = true then
      some (.inl (2, [(0, .ref 61), (1, .int a1), (2, .int a2), (3, .int a3), (4, .int (a4 + (1 : Int32)))], zmk I J X))
      else if zix 0 40 0 a4 then
        if decide ((I 80 a4.toNatClampNeg) = (-1 : Int32)) = true then
          some (.inl (2, [(0, .ref 61), (1, .int a1), (2, .int a2), (3, .int a3), (4, .int (a4 + (1 : Int32)))], zmk I J X))
          else if zix 0 40 0 a4 then
            if decide (a2 < (I 80 a4.toNatClampNeg)) = true then
              some (.inl (2, [(0, .ref 61), (1, .int a1), (2, .int a2), (3, .int a3), (4, .int (a4 + (1 : Int32)))], zmk I J X))
              else if zix 0 40 0 a4 then
                if decide (¬ (I 82 a4.toNatClampNeg) = 0) = true then
                  if decide (a3 = (-1 : Int32)) = true then
                    some (.inl (2, [(0, .ref 61), (1, .int a1), (2, .int a2), (3, .int a4), (4, .int (a4 + (1 : Int32)))], zmk I J X))
                    else if zix 0 40 0 a4 then
                      if zix 0 40 0 a3 then
                        if decide ((I 81 a4.toNatClampNeg) ≤ (I 81 a3.toNatClampNeg)) = true then
                          some (.inl (2, [(0, .ref 61), (1, .int a1), (2, .int a2), (3, .int a3), (4, .int (a4 + (1 : Int32)))], zmk I J X))
                          else some (.inl (2, [(0, .ref 61), (1, .int a1), (2, .int a2), (3, .int a4), (4, .int (a4 + (1 : Int32)))], zmk I J X))
                        else none
                      else none
                  else some (.inl (2, [(0, .ref 61), (1, .int a1), (2, .int a2), (3, .int a3), (4, .int (a4 + (1 : Int32)))], zmk I J X))
                else none
            else none
        else none
    else none := by
  refine zite_congr ?_ ?_
  · refine zite_congr ?_ ?_
    · refine zite_congr ?_ ?_
      · refine zite_congr ?_ ?_
        · refine zite_congr ?_ ?_
          · refine zite_congr ?_ ?_
            · refine zite_congr ?_ ?_
              · refine zite_congr ?_ ?_
                · refine zite_congr ?_ ?_
                  · rfl
                  · rfl
                · rfl
              · rfl
            · refine zite_congr ?_ ?_
              · refine zite_congr ?_ ?_
                · refine zite_congr ?_ ?_
                  · refine zite_congr ?_ ?_
                    · refine zite_congr ?_ ?_
                      · rfl
                      · rfl
                    · rfl
                  · rfl
                · refine zite_congr ?_ ?_
                  · refine zite_congr ?_ ?_
                    · refine zite_congr ?_ ?_
                      · refine zite_congr ?_ ?_
                        · refine zite_congr ?_ ?_
                          · rfl
                          · rfl
                        · rfl
                      · rfl
                    · refine zite_congr ?_ ?_
                      · refine zite_congr ?_ ?_
                        · refine zite_congr ?_ ?_
                          · rfl
                          · rfl
                        · rfl
                      · rfl
                  · rfl
              · rfl
          · rfl
        · rfl
      · rfl
    · refine zite_congr ?_ ?_
      · refine zite_congr ?_ ?_
        · refine zite_congr ?_ ?_
          · refine zite_congr ?_ ?_
            · refine zite_congr ?_ ?_
              · refine zite_congr ?_ ?_
                · refine zite_congr ?_ ?_
                  · refine zite_congr ?_ ?_
                    · refine zite_congr ?_ ?_
                      · rfl
                      · rfl
                    · rfl
                  · rfl
                · refine zite_congr ?_ ?_
                  · refine zite_congr ?_ ?_
                    · refine zite_congr ?_ ?_
                      · refine zite_congr ?_ ?_
                        · refine zite_congr ?_ ?_
                          · rfl
                          · rfl
                        · rfl
                      · rfl
                    · refine zite_congr ?_ ?_
                      · refine zite_congr ?_ ?_
                        · refine zite_congr ?_ ?_
                          · refine zite_congr ?_ ?_
                            · refine zite_congr ?_ ?_
                              · rfl
                              · rfl
                            · rfl
                          · rfl
                        · refine zite_congr ?_ ?_
                          · refine zite_congr ?_ ?_
                            · refine zite_congr ?_ ?_
                              · rfl
                              · rfl
                            · rfl
                          · rfl
                      · rfl
                  · rfl
              · rfl
            · rfl
          · rfl
        · refine zite_congr ?_ ?_
          · refine zite_congr ?_ ?_
            · refine zite_congr ?_ ?_
              · refine zite_congr ?_ ?_
                · refine zite_congr ?_ ?_
                  · refine zite_congr ?_ ?_
                    · refine zite_congr ?_ ?_
                      · rfl
                      · rfl
                    · rfl
                  · rfl
                · refine zite_congr ?_ ?_
                  · refine zite_congr ?_ ?_
                    · refine zite_congr ?_ ?_
                      · refine zite_congr ?_ ?_
                        · refine zite_congr ?_ ?_
                          · rfl
                          · rfl
                        · rfl
                      · rfl
                    · refine zite_congr ?_ ?_
                      · refine zite_congr ?_ ?_
                        · refine zite_congr ?_ ?_
                          · refine zite_congr ?_ ?_
                            · refine zite_congr ?_ ?_
                              · rfl
                              · rfl
                            · rfl
                          · rfl
                        · refine zite_congr ?_ ?_
                          · refine zite_congr ?_ ?_
                            · refine zite_congr ?_ ?_
                              · rfl
                              · rfl
                            · rfl
                          · rfl
                      · rfl
                  · rfl
              · rfl
            · rfl
          · rfl
      · rfl
  · refine zite_congr ?_ ?_
    · refine zite_congr ?_ ?_
      · rfl
      · refine zite_congr ?_ ?_
        · refine zite_congr ?_ ?_
          · rfl
          · refine zite_congr ?_ ?_
            · refine zite_congr ?_ ?_
              · rfl
              · refine zite_congr ?_ ?_
                · refine zite_congr ?_ ?_
                  · refine zite_congr ?_ ?_
                    · rfl
                    · refine zite_congr ?_ ?_
                      · refine zite_congr ?_ ?_
                        · refine zite_congr ?_ ?_
                          · rfl
                          · rfl
                        · rfl
                      · rfl
                  · rfl
                · rfl
            · rfl
        · rfl
    · rfl
theorem T186_11_15_661 (xs : Nat → Int32) (L d : Nat) (I : Nat → Nat → Int32) (J : Nat → Nat → Int64) (X : XH) (a4 : Int32) (a1 : Int32) (a2 : Int32) (a3 : Int32) (b0 : Int32) : zseg (zE xs L (d + 5) 186) (zC 186) 661 (zB186_11.drop 15) [(4, .int a4), (0, .ref 61), (1, .int a1), (2, .int a2), (3, .int a3)] [.int b0] (zmk I J X) = if decide (a4 = 0) = true then
  if zix 1 300 1 a1 then
    some (.inr (.inr none, zmk (zup I 109 a1.toNatClampNeg (vp_nar .boolean (0 : Int32))) J X))
    else none
  else if decide (a3 = (-1 : Int32)) = true then
    if zix 0 300 0 a1 then
      if zix 0 300 0 a1 then
        if decide (¬ b0 = (-1 : Int32)) = true then
          if zix 0 37 0 b0 then
            if decide ((I 96 b0.toNatClampNeg) < ((I 77 a1.toNatClampNeg) - (I 76 a1.toNatClampNeg))) = true then
              if zix 1 300 1 a1 then
                some (.inr (.inr none, zmk (zup I 109 a1.toNatClampNeg (vp_nar .boolean (0 : Int32))) J X))
                else none
              else if zix 1 300 1 a1 then
                some (.inr (.inr none, zmk (zup I 109 a1.toNatClampNeg (vp_nar .boolean (1 : Int32))) J X))
                else none
            else none
          else if decide ((10080 : Int32) < ((I 77 a1.toNatClampNeg) - (I 76 a1.toNatClampNeg))) = true then
            if zix 1 300 1 a1 then
              some (.inr (.inr none, zmk (zup I 109 a1.toNatClampNeg (vp_nar .boolean (0 : Int32))) J X))
              else none
            else if zix 1 300 1 a1 then
              some (.inr (.inr none, zmk (zup I 109 a1.toNatClampNeg (vp_nar .boolean (1 : Int32))) J X))
              else none
        else none
      else none
    else if zix 0 40 0 a3 then
      if decide ((I 82 a3.toNatClampNeg) = (1 : Int32)) = true then
        if zix 1 300 1 a1 then
          some (.inr (.inr none, zmk (zup I 109 a1.toNatClampNeg (vp_nar .boolean (0 : Int32))) J X))
          else none
        else if zix 0 300 0 a1 then
          if zix 0 300 0 a1 then
            if decide (¬ b0 = (-1 : Int32)) = true then
              if zix 0 37 0 b0 then
                if decide ((I 96 b0.toNatClampNeg) < ((I 77 a1.toNatClampNeg) - (I 76 a1.toNatClampNeg))) = true then
                  if zix 1 300 1 a1 then
                    some (.inr (.inr none, zmk (zup I 109 a1.toNatClampNeg (vp_nar .boolean (0 : Int32))) J X))
                    else none
                  else if zix 1 300 1 a1 then
                    some (.inr (.inr none, zmk (zup I 109 a1.toNatClampNeg (vp_nar .boolean (1 : Int32))) J X))
                    else none
                else none
              else if decide ((10080 : Int32) < ((I 77 a1.toNatClampNeg) - (I 76 a1.toNatClampNeg))) = true then
                if zix 1 300 1 a1 then
                  some (.inr (.inr none, zmk (zup I 109 a1.toNatClampNeg (vp_nar .boolean (0 : Int32))) J X))
                  else none
                else if zix 1 300 1 a1 then
                  some (.inr (.inr none, zmk (zup I 109 a1.toNatClampNeg (vp_nar .boolean (1 : Int32))) J X))
                  else none
            else none
          else none
      else none := by
  refine zite_congr ?_ ?_
  · refine zite_congr ?_ ?_
    · rfl
    · rfl
  · refine zite_congr ?_ ?_
    · refine zite_congr ?_ ?_
      · refine zite_congr ?_ ?_
        · refine zite_congr ?_ ?_
          · refine zite_congr ?_ ?_
            · refine zite_congr ?_ ?_
              · refine zite_congr ?_ ?_
                · rfl
                · rfl
              · refine zite_congr ?_ ?_
                · rfl
                · rfl
            · rfl
          · refine zite_congr ?_ ?_
            · refine zite_congr ?_ ?_
              · rfl
              · rfl
            · refine zite_congr ?_ ?_
              · rfl
              · rfl
        · rfl
      · rfl
    · refine zite_congr ?_ ?_
      · refine zite_congr ?_ ?_
        · refine zite_congr ?_ ?_
          · rfl
          · rfl
        · refine zite_congr ?_ ?_
          · refine zite_congr ?_ ?_
            · refine zite_congr ?_ ?_
              · refine zite_congr ?_ ?_
                · refine zite_congr ?_ ?_
                  · refine zite_congr ?_ ?_
                    · rfl
                    · rfl
                  · refine zite_congr ?_ ?_
                    · rfl
                    · rfl
                · rfl
              · refine zite_congr ?_ ?_
                · refine zite_congr ?_ ?_
                  · rfl
                  · rfl
                · refine zite_congr ?_ ?_
                  · rfl
                  · rfl
            · rfl
          · rfl
      · rfl
theorem T186_11_15_655 (xs : Nat → Int32) (L d : Nat) (I : Nat → Nat → Int32) (J : Nat → Nat → Int64) (X : XH) (a4 : Int32) (a1 : Int32) (a2 : Int32) (a3 : Int32) (b0 : Int32) : zseg (zE xs L (d + 5) 186) (zC 186) 655 (zB186_11.drop 15) [(4, .int a4), (0, .ref 61), (1, .int a1), (2, .int a2), (3, .int a3)] [.int b0] (zmk I J X) = if decide (a4 = 0) = true then
  if zix 1 300 1 a1 then
    some (.inr (.inr none, zmk (zup I 109 a1.toNatClampNeg (vp_nar .boolean (0 : Int32))) J X))
    else none
  else if decide (a3 = (-1 : Int32)) = true then
    if zix 0 300 0 a1 then
      if zix 0 300 0 a1 then
        if decide (¬ b0 = (-1 : Int32)) = true then
          if zix 0 37 0 b0 then
            if decide ((I 96 b0.toNatClampNeg) < ((I 77 a1.toNatClampNeg) - (I 76 a1.toNatClampNeg))) = true then
              if zix 1 300 1 a1 then
                some (.inr (.inr none, zmk (zup I 109 a1.toNatClampNeg (vp_nar .boolean (0 : Int32))) J X))
                else none
              else if zix 1 300 1 a1 then
                some (.inr (.inr none, zmk (zup I 109 a1.toNatClampNeg (vp_nar .boolean (1 : Int32))) J X))
                else none
            else none
          else if decide ((10080 : Int32) < ((I 77 a1.toNatClampNeg) - (I 76 a1.toNatClampNeg))) = true then
            if zix 1 300 1 a1 then
              some (.inr (.inr none, zmk (zup I 109 a1.toNatClampNeg (vp_nar .boolean (0 : Int32))) J X))
              else none
            else if zix 1 300 1 a1 then
              some (.inr (.inr none, zmk (zup I 109 a1.toNatClampNeg (vp_nar .boolean (1 : Int32))) J X))
              else none
        else none
      else none
    else if zix 0 40 0 a3 then
      if decide ((I 82 a3.toNatClampNeg) = (1 : Int32)) = true then
        if zix 1 300 1 a1 then
          some (.inr (.inr none, zmk (zup I 109 a1.toNatClampNeg (vp_nar .boolean (0 : Int32))) J X))
          else none
        else if zix 0 300 0 a1 then
          if zix 0 300 0 a1 then
            if decide (¬ b0 = (-1 : Int32)) = true then
              if zix 0 37 0 b0 then
                if decide ((I 96 b0.toNatClampNeg) < ((I 77 a1.toNatClampNeg) - (I 76 a1.toNatClampNeg))) = true then
                  if zix 1 300 1 a1 then
                    some (.inr (.inr none, zmk (zup I 109 a1.toNatClampNeg (vp_nar .boolean (0 : Int32))) J X))
                    else none
                  else if zix 1 300 1 a1 then
                    some (.inr (.inr none, zmk (zup I 109 a1.toNatClampNeg (vp_nar .boolean (1 : Int32))) J X))
                    else none
                else none
              else if decide ((10080 : Int32) < ((I 77 a1.toNatClampNeg) - (I 76 a1.toNatClampNeg))) = true then
                if zix 1 300 1 a1 then
                  some (.inr (.inr none, zmk (zup I 109 a1.toNatClampNeg (vp_nar .boolean (0 : Int32))) J X))
                  else none
                else if zix 1 300 1 a1 then
                  some (.inr (.inr none, zmk (zup I 109 a1.toNatClampNeg (vp_nar .boolean (1 : Int32))) J X))
                  else none
            else none
          else none
      else none := by
  refine zite_congr ?_ ?_
  · refine zite_congr ?_ ?_
    · rfl
    · rfl
  · refine zite_congr ?_ ?_
    · refine zite_congr ?_ ?_
      · refine zite_congr ?_ ?_
        · refine zite_congr ?_ ?_
          · refine zite_congr ?_ ?_
            · refine zite_congr ?_ ?_
              · refine zite_congr ?_ ?_
                · rfl
                · rfl
              · refine zite_congr ?_ ?_
                · rfl
                · rfl
            · rfl
          · refine zite_congr ?_ ?_
            · refine zite_congr ?_ ?_
              · rfl
              · rfl
            · refine zite_congr ?_ ?_
              · rfl
              · rfl
        · rfl
      · rfl
    · refine zite_congr ?_ ?_
      · refine zite_congr ?_ ?_
        · refine zite_congr ?_ ?_
          · rfl
          · rfl
        · refine zite_congr ?_ ?_
          · refine zite_congr ?_ ?_
            · refine zite_congr ?_ ?_
              · refine zite_congr ?_ ?_
                · refine zite_congr ?_ ?_
                  · refine zite_congr ?_ ?_
                    · rfl
                    · rfl
                  · refine zite_congr ?_ ?_
                    · rfl
                    · rfl
                · rfl
              · refine zite_congr ?_ ?_
                · refine zite_congr ?_ ?_
                  · rfl
                  · rfl
                · refine zite_congr ?_ ?_
                  · rfl
                  · rfl
            · rfl
          · rfl
      · rfl
theorem T186_11_15_649 (xs : Nat → Int32) (L d : Nat) (I : Nat → Nat → Int32) (J : Nat → Nat → Int64) (X : XH) (a4 : Int32) (a1 : Int32) (a2 : Int32) (a3 : Int32) (b0 : Int32) : zseg (zE xs L (d + 5) 186) (zC 186) 649 (zB186_11.drop 15) [(4, .int a4), (0, .ref 61), (1, .int a1), (2, .int a2), (3, .int a3)] [.int b0] (zmk I J X) = if decide (a4 = 0) = true then
  if zix 1 300 1 a1 then
    some (.inr (.inr none, zmk (zup I 109 a1.toNatClampNeg (vp_nar .boolean (0 : Int32))) J X))
    else none
  else if decide (a3 = (-1 : Int32)) = true then
    if zix 0 300 0 a1 then
      if zix 0 300 0 a1 then
        if decide (¬ b0 = (-1 : Int32)) = true then
          if zix 0 37 0 b0 then
            if decide ((I 96 b0.toNatClampNeg) < ((I 77 a1.toNatClampNeg) - (I 76 a1.toNatClampNeg))) = true then
              if zix 1 300 1 a1 then
                some (.inr (.inr none, zmk (zup I 109 a1.toNatClampNeg (vp_nar .boolean (0 : Int32))) J X))
                else none
              else if zix 1 300 1 a1 then
                some (.inr (.inr none, zmk (zup I 109 a1.toNatClampNeg (vp_nar .boolean (1 : Int32))) J X))
                else none
            else none
          else if decide ((10080 : Int32) < ((I 77 a1.toNatClampNeg) - (I 76 a1.toNatClampNeg))) = true then
            if zix 1 300 1 a1 then
              some (.inr (.inr none, zmk (zup I 109 a1.toNatClampNeg (vp_nar .boolean (0 : Int32))) J X))
              else none
            else if zix 1 300 1 a1 then
              some (.inr (.inr none, zmk (zup I 109 a1.toNatClampNeg (vp_nar .boolean (1 : Int32))) J X))
              else none
        else none
      else none
    else if zix 0 40 0 a3 then
      if decide ((I 82 a3.toNatClampNeg) = (1 : Int32)) = true then
        if zix 1 300 1 a1 then
          some (.inr (.inr none, zmk (zup I 109 a1.toNatClampNeg (vp_nar .boolean (0 : Int32))) J X))
          else none
        else if zix 0 300 0 a1 then
          if zix 0 300 0 a1 then
            if decide (¬ b0 = (-1 : Int32)) = true then
              if zix 0 37 0 b0 then
                if decide ((I 96 b0.toNatClampNeg) < ((I 77 a1.toNatClampNeg) - (I 76 a1.toNatClampNeg))) = true then
                  if zix 1 300 1 a1 then
                    some (.inr (.inr none, zmk (zup I 109 a1.toNatClampNeg (vp_nar .boolean (0 : Int32))) J X))
                    else none
                  else if zix 1 300 1 a1 then
                    some (.inr (.inr none, zmk (zup I 109 a1.toNatClampNeg (vp_nar .boolean (1 : Int32))) J X))
                    else none
                else none
              else if decide ((10080 : Int32) < ((I 77 a1.toNatClampNeg) - (I 76 a1.toNatClampNeg))) = true then
                if zix 1 300 1 a1 then
                  some (.inr (.inr none, zmk (zup I 109 a1.toNatClampNeg (vp_nar .boolean (0 : Int32))) J X))
                  else none
                else if zix 1 300 1 a1 then
                  some (.inr (.inr none, zmk (zup I 109 a1.toNatClampNeg (vp_nar .boolean (1 : Int32))) J X))
                  else none
            else none
          else none
      else none := by
  refine zite_congr ?_ ?_
  · refine zite_congr ?_ ?_
    · rfl
    · rfl
  · refine zite_congr ?_ ?_
    · refine zite_congr ?_ ?_
      · refine zite_congr ?_ ?_
        · refine zite_congr ?_ ?_
          · refine zite_congr ?_ ?_
            · refine zite_congr ?_ ?_
              · refine zite_congr ?_ ?_
                · rfl
                · rfl
              · refine zite_congr ?_ ?_
                · rfl
                · rfl
            · rfl
          · refine zite_congr ?_ ?_
            · refine zite_congr ?_ ?_
              · rfl
              · rfl
            · refine zite_congr ?_ ?_
              · rfl
              · rfl
        · rfl
      · rfl
    · refine zite_congr ?_ ?_
      · refine zite_congr ?_ ?_
        · refine zite_congr ?_ ?_
          · rfl
          · rfl
        · refine zite_congr ?_ ?_
          · refine zite_congr ?_ ?_
            · refine zite_congr ?_ ?_
              · refine zite_congr ?_ ?_
                · refine zite_congr ?_ ?_
                  · refine zite_congr ?_ ?_
                    · rfl
                    · rfl
                  · refine zite_congr ?_ ?_
                    · rfl
                    · rfl
                · rfl
              · refine zite_congr ?_ ?_
                · refine zite_congr ?_ ?_
                  · rfl
                  · rfl
                · refine zite_congr ?_ ?_
                  · rfl
                  · rfl
            · rfl
          · rfl
      · rfl
theorem T186_11_15_648 (xs : Nat → Int32) (L d : Nat) (I : Nat → Nat → Int32) (J : Nat → Nat → Int64) (X : XH) (a4 : Int32) (a1 : Int32) (a2 : Int32) (a3 : Int32) (b0 : Int32) : zseg (zE xs L (d + 5) 186) (zC 186) 648 (zB186_11.drop 15) [(4, .int a4), (0, .ref 61), (1, .int a1), (2, .int a2), (3, .int a3)] [.int b0] (zmk I J X) = if decide (a4 = 0) = true then
  if zix 1 300 1 a1 then
    some (.inr (.inr none, zmk (zup I 109 a1.toNatClampNeg (vp_nar .boolean (0 : Int32))) J X))
    else none
  else if decide (a3 = (-1 : Int32)) = true then
    if zix 0 300 0 a1 then
      if zix 0 300 0 a1 then
        if decide (¬ b0 = (-1 : Int32)) = true then
          if zix 0 37 0 b0 then
            if decide ((I 96 b0.toNatClampNeg) < ((I 77 a1.toNatClampNeg) - (I 76 a1.toNatClampNeg))) = true then
              if zix 1 300 1 a1 then
                some (.inr (.inr none, zmk (zup I 109 a1.toNatClampNeg (vp_nar .boolean (0 : Int32))) J X))
                else none
              else if zix 1 300 1 a1 then
                some (.inr (.inr none, zmk (zup I 109 a1.toNatClampNeg (vp_nar .boolean (1 : Int32))) J X))
                else none
            else none
          else if decide ((10080 : Int32) < ((I 77 a1.toNatClampNeg) - (I 76 a1.toNatClampNeg))) = true then
            if zix 1 300 1 a1 then
              some (.inr (.inr none, zmk (zup I 109 a1.toNatClampNeg (vp_nar .boolean (0 : Int32))) J X))
              else none
            else if zix 1 300 1 a1 then
              some (.inr (.inr none, zmk (zup I 109 a1.toNatClampNeg (vp_nar .boolean (1 : Int32))) J X))
              else none
        else none
      else none
    else if zix 0 40 0 a3 then
      if decide ((I 82 a3.toNatClampNeg) = (1 : Int32)) = true then
        if zix 1 300 1 a1 then
          some (.inr (.inr none, zmk (zup I 109 a1.toNatClampNeg (vp_nar .boolean (0 : Int32))) J X))
          else none
        else if zix 0 300 0 a1 then
          if zix 0 300 0 a1 then
            if decide (¬ b0 = (-1 : Int32)) = true then
              if zix 0 37 0 b0 then
                if decide ((I 96 b0.toNatClampNeg) < ((I 77 a1.toNatClampNeg) - (I 76 a1.toNatClampNeg))) = true then
                  if zix 1 300 1 a1 then
                    some (.inr (.inr none, zmk (zup I 109 a1.toNatClampNeg (vp_nar .boolean (0 : Int32))) J X))
                    else none
                  else if zix 1 300 1 a1 then
                    some (.inr (.inr none, zmk (zup I 109 a1.toNatClampNeg (vp_nar .boolean (1 : Int32))) J X))
                    else none
                else none
              else if decide ((10080 : Int32) < ((I 77 a1.toNatClampNeg) - (I 76 a1.toNatClampNeg))) = true then
                if zix 1 300 1 a1 then
                  some (.inr (.inr none, zmk (zup I 109 a1.toNatClampNeg (vp_nar .boolean (0 : Int32))) J X))
                  else none
                else if zix 1 300 1 a1 then
                  some (.inr (.inr none, zmk (zup I 109 a1.toNatClampNeg (vp_nar .boolean (1 : Int32))) J X))
                  else none
            else none
          else none
      else none := by
  refine zite_congr ?_ ?_
  · refine zite_congr ?_ ?_
    · rfl
    · rfl
  · refine zite_congr ?_ ?_
    · refine zite_congr ?_ ?_
      · refine zite_congr ?_ ?_
        · refine zite_congr ?_ ?_
          · refine zite_congr ?_ ?_
            · refine zite_congr ?_ ?_
              · refine zite_congr ?_ ?_
                · rfl
                · rfl
              · refine zite_congr ?_ ?_
                · rfl
                · rfl
            · rfl
          · refine zite_congr ?_ ?_
            · refine zite_congr ?_ ?_
              · rfl
              · rfl
            · refine zite_congr ?_ ?_
              · rfl
              · rfl
        · rfl
      · rfl
    · refine zite_congr ?_ ?_
      · refine zite_congr ?_ ?_
        · refine zite_congr ?_ ?_
          · rfl
          · rfl
        · refine zite_congr ?_ ?_
          · refine zite_congr ?_ ?_
            · refine zite_congr ?_ ?_
              · refine zite_congr ?_ ?_
                · refine zite_congr ?_ ?_
                  · refine zite_congr ?_ ?_
                    · rfl
                    · rfl
                  · refine zite_congr ?_ ?_
                    · rfl
                    · rfl
                · rfl
              · refine zite_congr ?_ ?_
                · refine zite_congr ?_ ?_
                  · rfl
                  · rfl
                · refine zite_congr ?_ ?_
                  · rfl
                  · rfl
            · rfl
          · rfl
      · rfl
theorem T186_11_15_643 (xs : Nat → Int32) (L d : Nat) (I : Nat → Nat → Int32) (J : Nat → Nat → Int64) (X : XH) (a4 : Int32) (a1 : Int32) (a2 : Int32) (a3 : Int32) (b0 : Int32) : zseg (zE xs L (d + 5) 186) (zC 186) 643 (zB186_11.drop 15) [(4, .int a4), (0, .ref 61), (1, .int a1), (2, .int a2), (3, .int a3)] [.int b0] (zmk I J X) = if decide (a4 = 0) = true then
  if zix 1 300 1 a1 then
    some (.inr (.inr none, zmk (zup I 109 a1.toNatClampNeg (vp_nar .boolean (0 : Int32))) J X))
    else none
  else if decide (a3 = (-1 : Int32)) = true then
    if zix 0 300 0 a1 then
      if zix 0 300 0 a1 then
        if decide (¬ b0 = (-1 : Int32)) = true then
          if zix 0 37 0 b0 then
            if decide ((I 96 b0.toNatClampNeg) < ((I 77 a1.toNatClampNeg) - (I 76 a1.toNatClampNeg))) = true then
              if zix 1 300 1 a1 then
                some (.inr (.inr none, zmk (zup I 109 a1.toNatClampNeg (vp_nar .boolean (0 : Int32))) J X))
                else none
              else if zix 1 300 1 a1 then
                some (.inr (.inr none, zmk (zup I 109 a1.toNatClampNeg (vp_nar .boolean (1 : Int32))) J X))
                else none
            else none
          else if decide ((10080 : Int32) < ((I 77 a1.toNatClampNeg) - (I 76 a1.toNatClampNeg))) = true then
            if zix 1 300 1 a1 then
              some (.inr (.inr none, zmk (zup I 109 a1.toNatClampNeg (vp_nar .boolean (0 : Int32))) J X))
              else none
            else if zix 1 300 1 a1 then
              some (.inr (.inr none, zmk (zup I 109 a1.toNatClampNeg (vp_nar .boolean (1 : Int32))) J X))
              else none
        else none
      else none
    else if zix 0 40 0 a3 then
      if decide ((I 82 a3.toNatClampNeg) = (1 : Int32)) = true then
        if zix 1 300 1 a1 then
          some (.inr (.inr none, zmk (zup I 109 a1.toNatClampNeg (vp_nar .boolean (0 : Int32))) J X))
          else none
        else if zix 0 300 0 a1 then
          if zix 0 300 0 a1 then
            if decide (¬ b0 = (-1 : Int32)) = true then
              if zix 0 37 0 b0 then
                if decide ((I 96 b0.toNatClampNeg) < ((I 77 a1.toNatClampNeg) - (I 76 a1.toNatClampNeg))) = true then
                  if zix 1 300 1 a1 then
                    some (.inr (.inr none, zmk (zup I 109 a1.toNatClampNeg (vp_nar .boolean (0 : Int32))) J X))
                    else none
                  else if zix 1 300 1 a1 then
                    some (.inr (.inr none, zmk (zup I 109 a1.toNatClampNeg (vp_nar .boolean (1 : Int32))) J X))
                    else none
                else none
              else if decide ((10080 : Int32) < ((I 77 a1.toNatClampNeg) - (I 76 a1.toNatClampNeg))) = true then
                if zix 1 300 1 a1 then
                  some (.inr (.inr none, zmk (zup I 109 a1.toNatClampNeg (vp_nar .boolean (0 : Int32))) J X))
                  else none
                else if zix 1 300 1 a1 then
                  some (.inr (.inr none, zmk (zup I 109 a1.toNatClampNeg (vp_nar .boolean (1 : Int32))) J X))
                  else none
            else none
          else none
      else none := by
  refine zite_congr ?_ ?_
  · refine zite_congr ?_ ?_
    · rfl
    · rfl
  · refine zite_congr ?_ ?_
    · refine zite_congr ?_ ?_
      · refine zite_congr ?_ ?_
        · refine zite_congr ?_ ?_
          · refine zite_congr ?_ ?_
            · refine zite_congr ?_ ?_
              · refine zite_congr ?_ ?_
                · rfl
                · rfl
              · refine zite_congr ?_ ?_
                · rfl
                · rfl
            · rfl
          · refine zite_congr ?_ ?_
            · refine zite_congr ?_ ?_
              · rfl
              · rfl
            · refine zite_congr ?_ ?_
              · rfl
              · rfl
        · rfl
      · rfl
    · refine zite_congr ?_ ?_
      · refine zite_congr ?_ ?_
        · refine zite_congr ?_ ?_
          · rfl
          · rfl
        · refine zite_congr ?_ ?_
          · refine zite_congr ?_ ?_
            · refine zite_congr ?_ ?_
              · refine zite_congr ?_ ?_
                · refine zite_congr ?_ ?_
                  · refine zite_congr ?_ ?_
                    · rfl
                    · rfl
                  · refine zite_congr ?_ ?_
                    · rfl
                    · rfl
                · rfl
              · refine zite_congr ?_ ?_
                · refine zite_congr ?_ ?_
                  · rfl
                  · rfl
                · refine zite_congr ?_ ?_
                  · rfl
                  · rfl
            · rfl
          · rfl
      · rfl
theorem T186_11_15_642 (xs : Nat → Int32) (L d : Nat) (I : Nat → Nat → Int32) (J : Nat → Nat → Int64) (X : XH) (a4 : Int32) (a1 : Int32) (a2 : Int32) (a3 : Int32) (b0 : Int32) : zseg (zE xs L (d + 5) 186) (zC 186) 642 (zB186_11.drop 15) [(4, .int a4), (0, .ref 61), (1, .int a1), (2, .int a2), (3, .int a3)] [.int b0] (zmk I J X) = if decide (a4 = 0) = true then
  if zix 1 300 1 a1 then
    some (.inr (.inr none, zmk (zup I 109 a1.toNatClampNeg (vp_nar .boolean (0 : Int32))) J X))
    else none
  else if decide (a3 = (-1 : Int32)) = true then
    if zix 0 300 0 a1 then
      if zix 0 300 0 a1 then
        if decide (¬ b0 = (-1 : Int32)) = true then
          if zix 0 37 0 b0 then
            if decide ((I 96 b0.toNatClampNeg) < ((I 77 a1.toNatClampNeg) - (I 76 a1.toNatClampNeg))) = true then
              if zix 1 300 1 a1 then
                some (.inr (.inr none, zmk (zup I 109 a1.toNatClampNeg (vp_nar .boolean (0 : Int32))) J X))
                else none
              else if zix 1 300 1 a1 then
                some (.inr (.inr none, zmk (zup I 109 a1.toNatClampNeg (vp_nar .boolean (1 : Int32))) J X))
                else none
            else none
          else if decide ((10080 : Int32) < ((I 77 a1.toNatClampNeg) - (I 76 a1.toNatClampNeg))) = true then
            if zix 1 300 1 a1 then
              some (.inr (.inr none, zmk (zup I 109 a1.toNatClampNeg (vp_nar .boolean (0 : Int32))) J X))
              else none
            else if zix 1 300 1 a1 then
              some (.inr (.inr none, zmk (zup I 109 a1.toNatClampNeg (vp_nar .boolean (1 : Int32))) J X))
              else none
        else none
      else none
    else if zix 0 40 0 a3 then
      if decide ((I 82 a3.toNatClampNeg) = (1 : Int32)) = true then
        if zix 1 300 1 a1 then
          some (.inr (.inr none, zmk (zup I 109 a1.toNatClampNeg (vp_nar .boolean (0 : Int32))) J X))
          else none
        else if zix 0 300 0 a1 then
          if zix 0 300 0 a1 then
            if decide (¬ b0 = (-1 : Int32)) = true then
              if zix 0 37 0 b0 then
                if decide ((I 96 b0.toNatClampNeg) < ((I 77 a1.toNatClampNeg) - (I 76 a1.toNatClampNeg))) = true then
                  if zix 1 300 1 a1 then
                    some (.inr (.inr none, zmk (zup I 109 a1.toNatClampNeg (vp_nar .boolean (0 : Int32))) J X))
                    else none
                  else if zix 1 300 1 a1 then
                    some (.inr (.inr none, zmk (zup I 109 a1.toNatClampNeg (vp_nar .boolean (1 : Int32))) J X))
                    else none
                else none
              else if decide ((10080 : Int32) < ((I 77 a1.toNatClampNeg) - (I 76 a1.toNatClampNeg))) = true then
                if zix 1 300 1 a1 then
                  some (.inr (.inr none, zmk (zup I 109 a1.toNatClampNeg (vp_nar .boolean (0 : Int32))) J X))
                  else none
                else if zix 1 300 1 a1 then
                  some (.inr (.inr none, zmk (zup I 109 a1.toNatClampNeg (vp_nar .boolean (1 : Int32))) J X))
                  else none
            else none
          else none
      else none := by
  refine zite_congr ?_ ?_
  · refine zite_congr ?_ ?_
    · rfl
    · rfl
  · refine zite_congr ?_ ?_
    · refine zite_congr ?_ ?_
      · refine zite_congr ?_ ?_
        · refine zite_congr ?_ ?_
          · refine zite_congr ?_ ?_
            · refine zite_congr ?_ ?_
              · refine zite_congr ?_ ?_
                · rfl
                · rfl
              · refine zite_congr ?_ ?_
                · rfl
                · rfl
            · rfl
          · refine zite_congr ?_ ?_
            · refine zite_congr ?_ ?_
              · rfl
              · rfl
            · refine zite_congr ?_ ?_
              · rfl
              · rfl
        · rfl
      · rfl
    · refine zite_congr ?_ ?_
      · refine zite_congr ?_ ?_
        · refine zite_congr ?_ ?_
          · rfl
          · rfl
        · refine zite_congr ?_ ?_
          · refine zite_congr ?_ ?_
            · refine zite_congr ?_ ?_
              · refine zite_congr ?_ ?_
                · refine zite_congr ?_ ?_
                  · refine zite_congr ?_ ?_
                    · rfl
                    · rfl
                  · refine zite_congr ?_ ?_
                    · rfl
                    · rfl
                · rfl
              · refine zite_congr ?_ ?_
                · refine zite_congr ?_ ?_
                  · rfl
                  · rfl
                · refine zite_congr ?_ ?_
                  · rfl
                  · rfl
            · rfl
          · rfl
      · rfl
/-! 187 TollTagsModel.termsFor (III)I -/
theorem S187_0 (xs : Nat → Int32) (L d : Nat) (I : Nat → Nat → Int32) (J : Nat → Nat → Int64) (X : XH) (a1 : Int32) (a2 : Int32) (a3 : Int32) : zseg (zE xs L (d + 5) 187) (zC 187) 700 (zC 187 0) [(0, .ref 61), (1, .int a1), (2, .int a2), (3, .int a3)] [] (zmk I J X) = some (.inl (2, [(0, .ref 61), (1, .int a1), (2, .int a2), (3, .int a3), (4, .int (-1 : Int32)), (5, .int (0 : Int32))], zmk I J X)) := by
  rfl
theorem S187_2 (xs : Nat → Int32) (L d : Nat) (I : Nat → Nat → Int32) (J : Nat → Nat → Int64) (X : XH) (a1 : Int32) (a2 : Int32) (a3 : Int32) (a4 : Int32) (a5 : Int32) : zseg (zE xs L (d + 5) 187) (zC 187) 700 (zC 187 2) [(0, .ref 61), (1, .int a1), (2, .int a2), (3, .int a3), (4, .int a4), (5, .int a5)] [] (zmk I J X) = if zix 0 9 0 a1 then
  if decide ((I 92 a1.toNatClampNeg) ≤ a5) = true then
    if decide (¬ (I 61 54) = a1) = true then
      some (.inr (.inr (some (.int a4)), zmk I J X))
      else if zix 0 37 0 (36 : Int32) then
        if decide (a2 < (I 93 ((36 : Int32).toNatClampNeg))) = true then
          some (.inr (.inr (some (.int a4)), zmk I J X))
          else if decide (a4 = (-1 : Int32)) = true then
            some (.inr (.inr (some (.int (36 : Int32))), zmk I J X))
            else if zix 0 37 0 (36 : Int32) then
              if zix 0 37 0 a4 then
                if decide ((I 93 ((36 : Int32).toNatClampNeg)) < (I 93 a4.toNatClampNeg)) = true then
                  some (.inr (.inr (some (.int a4)), zmk I J X))
                  else some (.inr (.inr (some (.int (36 : Int32))), zmk I J X))
                else none
              else none
        else none
    else if zix 0 37 0 (((4 : Int32) * a1) + a5) then
      if decide (a3 < (I 94 ((((4 : Int32) * a1) + a5).toNatClampNeg))) = true then
        some (.inl (2, [(0, .ref 61), (1, .int a1), (2, .int a2), (3, .int a3), (4, .int a4), (5, .int (a5 + (1 : Int32)))], zmk I J X))
        else if zix 0 37 0 (((4 : Int32) * a1) + a5) then
          if decide (a2 < (I 93 ((((4 : Int32) * a1) + a5).toNatClampNeg))) = true then
            some (.inl (2, [(0, .ref 61), (1, .int a1), (2, .int a2), (3, .int a3), (4, .int a4), (5, .int (a5 + (1 : Int32)))], zmk I J X))
            else if decide (a4 = (-1 : Int32)) = true then
              some (.inl (2, [(0, .ref 61), (1, .int a1), (2, .int a2), (3, .int a3), (4, .int (((4 : Int32) * a1) + a5)), (5, .int (a5 + (1 : Int32)))], zmk I J X))
              else if zix 0 37 0 (((4 : Int32) * a1) + a5) then
                if zix 0 37 0 a4 then
                  if decide ((I 93 ((((4 : Int32) * a1) + a5).toNatClampNeg)) < (I 93 a4.toNatClampNeg)) = true then
                    some (.inl (2, [(0, .ref 61), (1, .int a1), (2, .int a2), (3, .int a3), (4, .int a4), (5, .int (a5 + (1 : Int32)))], zmk I J X))
                    else some (.inl (2, [(0, .ref 61), (1, .int a1), (2, .int a2), (3, .int a3), (4, .int (((4 : Int32) * a1) + a5)), (5, .int (a5 + (1 : Int32)))], zmk I J X))
                  else none
                else none
          else none
      else none
  else none := by
  refine zite_congr ?_ ?_
  · refine zite_congr ?_ ?_
    · refine zite_congr ?_ ?_
      · rfl
      · first
          | (refine zite_congr ?_ ?_
             · refine zite_congr ?_ ?_
               · rfl
               · refine zite_congr ?_ ?_
                 · rfl
                 · first
                     | (refine zite_congr ?_ ?_
                        · refine zite_congr ?_ ?_
                          · refine zite_congr ?_ ?_
                            · rfl
                            · rfl
                          · rfl
                        · rfl)
                     | (refine Eq.trans ?_ (if_pos (by decide)).symm
                        refine zite_congr ?_ ?_
                        · refine zite_congr ?_ ?_
                          · rfl
                          · rfl
                        · rfl)
             · rfl)
          | (refine Eq.trans ?_ (if_pos (by decide)).symm
             refine zite_congr ?_ ?_
             · rfl
             · refine zite_congr ?_ ?_
               · rfl
               · first
                   | (refine zite_congr ?_ ?_
                      · refine zite_congr ?_ ?_
                        · refine zite_congr ?_ ?_
                          · rfl
                          · rfl
                        · rfl
                      · rfl)
                   | (refine Eq.trans ?_ (if_pos (by decide)).symm
                      refine zite_congr ?_ ?_
                      · refine zite_congr ?_ ?_
                        · rfl
                        · rfl
                      · rfl))
    · refine zite_congr ?_ ?_
      · refine zite_congr ?_ ?_
        · rfl
        · refine zite_congr ?_ ?_
          · refine zite_congr ?_ ?_
            · rfl
            · refine zite_congr ?_ ?_
              · rfl
              · refine zite_congr ?_ ?_
                · refine zite_congr ?_ ?_
                  · refine zite_congr ?_ ?_
                    · rfl
                    · rfl
                  · rfl
                · rfl
          · rfl
      · rfl
  · rfl
/-! 188 TollTagsModel.tellFar ()V -/
theorem S188_0 (xs : Nat → Int32) (L d : Nat) (I : Nat → Nat → Int32) (J : Nat → Nat → Int64) (X : XH) : zseg (zE xs L (d + 5) 188) (zC 188) 700 (zC 188 0) [(0, .ref 61)] [] (zmk I J X) = some (.inl (2, [(0, .ref 61), (1, .int (0 : Int32))], zmk I J X)) := by
  rfl
theorem S188_2 (xs : Nat → Int32) (L d : Nat) (I : Nat → Nat → Int32) (J : Nat → Nat → Int64) (X : XH) (a1 : Int32) : zseg (zE xs L (d + 5) 188) (zC 188) 700 (zC 188 2) [(0, .ref 61), (1, .int a1)] [] (zmk I J X) = if decide ((24 : Int32) ≤ a1) = true then
  some (.inl (7, [(0, .ref 61), (1, .int (0 : Int32))], zmk I J X))
  else some (.inl (6, [(0, .ref 61), (1, .int a1), (2, .int (0 : Int32))], zmk I J X)) := by
  refine zite_congr ?_ ?_
  · rfl
  · rfl
theorem S188_6 (xs : Nat → Int32) (L d : Nat) (I : Nat → Nat → Int32) (J : Nat → Nat → Int64) (X : XH) (a1 : Int32) (a2 : Int32) : zseg (zE xs L (d + 5) 188) (zC 188) 700 (zC 188 6) [(0, .ref 61), (1, .int a1), (2, .int a2)] [] (zmk I J X) = if decide ((24 : Int32) ≤ a2) = true then
  some (.inl (2, [(0, .ref 61), (1, .int (a1 + (1 : Int32)))], zmk I J X))
  else if decide (¬ a1 = a2) = true then
    if zix 0 576 0 (((24 : Int32) * a1) + a2) then
      some (.inl (6, [(0, .ref 61), (1, .int a1), (2, .int (a2 + (1 : Int32)))], zmk (zup I 110 ((((24 : Int32) * a1) + a2).toNatClampNeg) (268435456 : Int32)) J X))
      else none
    else if zix 0 576 0 (((24 : Int32) * a1) + a2) then
      some (.inl (6, [(0, .ref 61), (1, .int a1), (2, .int (a2 + (1 : Int32)))], zmk (zup I 110 ((((24 : Int32) * a1) + a2).toNatClampNeg) (0 : Int32)) J X))
      else none := by
  refine zite_congr ?_ ?_
  · rfl
  · refine zite_congr ?_ ?_
    · refine zite_congr ?_ ?_
      · rfl
      · rfl
    · refine zite_congr ?_ ?_
      · rfl
      · rfl
theorem S188_7 (xs : Nat → Int32) (L d : Nat) (I : Nat → Nat → Int32) (J : Nat → Nat → Int64) (X : XH) (a1 : Int32) : zseg (zE xs L (d + 5) 188) (zC 188) 700 (zC 188 7) [(0, .ref 61), (1, .int a1)] [] (zmk I J X) = if decide ((I 61 4) ≤ a1) = true then
  some (.inl (14, [(0, .ref 61), (1, .int (0 : Int32))], zmk I J X))
  else if zix 0 40 0 a1 then
    if zix 0 40 0 a1 then
      if zix 1 40 1 a1 then
        if decide (¬ (I 73 a1.toNatClampNeg) = 0) = true then
          some (.inl (7, [(0, .ref 61), (1, .int (a1 + (1 : Int32)))], zmk I J X))
          else if zix 0 576 0 (((24 : Int32) * (I 63 a1.toNatClampNeg)) + (I 64 a1.toNatClampNeg)) then
            if zix 0 40 0 a1 then
              if zix 0 576 0 (((24 : Int32) * (I 63 a1.toNatClampNeg)) + (I 64 a1.toNatClampNeg)) then
                some (.inl (7, [(0, .ref 61), (1, .int (a1 + (1 : Int32)))], zmk (zup I 110 ((((24 : Int32) * (I 63 a1.toNatClampNeg)) + (I 64 a1.toNatClampNeg)).toNatClampNeg) (zmn (I 110 ((((24 : Int32) * (I 63 a1.toNatClampNeg)) + (I 64 a1.toNatClampNeg)).toNatClampNeg)) (((64 : Int32) * (I 66 a1.toNatClampNeg)) + (1 : Int32)))) J X))
                else none
              else none
            else none
        else none
      else none
    else none := by
  refine zite_congr ?_ ?_
  · rfl
  · refine zite_congr ?_ ?_
    · refine zite_congr ?_ ?_
      · refine zite_congr ?_ ?_
        · refine zite_congr ?_ ?_
          · rfl
          · refine zite_congr ?_ ?_
            · refine zite_congr ?_ ?_
              · refine zite_congr ?_ ?_
                · rfl
                · rfl
              · rfl
            · rfl
        · rfl
      · rfl
    · rfl
theorem S188_14 (xs : Nat → Int32) (L d : Nat) (I : Nat → Nat → Int32) (J : Nat → Nat → Int64) (X : XH) (a1 : Int32) : zseg (zE xs L (d + 5) 188) (zC 188) 700 (zC 188 14) [(0, .ref 61), (1, .int a1)] [] (zmk I J X) = if decide ((24 : Int32) ≤ a1) = true then
  some (.inr (.inr none, zmk I J X))
  else some (.inl (17, [(0, .ref 61), (1, .int a1), (2, .int (0 : Int32))], zmk I J X)) := by
  refine zite_congr ?_ ?_
  · rfl
  · rfl
theorem S188_17 (xs : Nat → Int32) (L d : Nat) (I : Nat → Nat → Int32) (J : Nat → Nat → Int64) (X : XH) (a1 : Int32) (a2 : Int32) : zseg (zE xs L (d + 5) 188) (zC 188) 700 (zC 188 17) [(0, .ref 61), (1, .int a1), (2, .int a2)] [] (zmk I J X) = if decide ((24 : Int32) ≤ a2) = true then
  some (.inl (14, [(0, .ref 61), (1, .int (a1 + (1 : Int32)))], zmk I J X))
  else some (.inl (20, [(0, .ref 61), (1, .int a1), (2, .int a2), (3, .int (0 : Int32))], zmk I J X)) := by
  refine zite_congr ?_ ?_
  · rfl
  · rfl
theorem S188_20 (xs : Nat → Int32) (L d : Nat) (I : Nat → Nat → Int32) (J : Nat → Nat → Int64) (X : XH) (a1 : Int32) (a2 : Int32) (a3 : Int32) : zseg (zE xs L (d + 5) 188) (zC 188) 700 (zC 188 20) [(0, .ref 61), (1, .int a1), (2, .int a2), (3, .int a3)] [] (zmk I J X) = if decide ((24 : Int32) ≤ a3) = true then
  some (.inl (17, [(0, .ref 61), (1, .int a1), (2, .int (a2 + (1 : Int32)))], zmk I J X))
  else if zix 0 576 0 (((24 : Int32) * a2) + a3) then
    if zix 0 576 0 (((24 : Int32) * a2) + a1) then
      if zix 0 576 0 (((24 : Int32) * a1) + a3) then
        if zix 0 576 0 (((24 : Int32) * a2) + a3) then
          some (.inl (20, [(0, .ref 61), (1, .int a1), (2, .int a2), (3, .int (a3 + (1 : Int32)))], zmk (zup I 110 ((((24 : Int32) * a2) + a3).toNatClampNeg) (zmn (I 110 ((((24 : Int32) * a2) + a3).toNatClampNeg)) ((I 110 ((((24 : Int32) * a2) + a1).toNatClampNeg)) + (I 110 ((((24 : Int32) * a1) + a3).toNatClampNeg))))) J X))
          else none
        else none
      else none
    else none := by
  refine zite_congr ?_ ?_
  · rfl
  · refine zite_congr ?_ ?_
    · refine zite_congr ?_ ?_
      · refine zite_congr ?_ ?_
        · refine zite_congr ?_ ?_
          · rfl
          · rfl
        · rfl
      · rfl
    · rfl
/-! 189 TollTagsModel.tellTrack (II)V -/
theorem S189_0 (xs : Nat → Int32) (L d : Nat) (I : Nat → Nat → Int32) (J : Nat → Nat → Int64) (X : XH) (a1 : Int32) (a2 : Int32) : zseg (zE xs L (d + 5) 189) (zC 189) 700 (zC 189 0) [(0, .ref 61), (1, .int a1), (2, .int a2)] [] (zmk I J X) = some (.inl (2, [(0, .ref 61), (1, .int a1), (2, .int a2), (3, .int (0 : Int32)), (4, .int (0 : Int32))], zmk I J X)) := by
  rfl
theorem S189_2 (xs : Nat → Int32) (L d : Nat) (I : Nat → Nat → Int32) (J : Nat → Nat → Int64) (X : XH) (a1 : Int32) (a2 : Int32) (a3 : Int32) (a4 : Int32) : zseg (zE xs L (d + 5) 189) (zC 189) 700 (zC 189 2) [(0, .ref 61), (1, .int a1), (2, .int a2), (3, .int a3), (4, .int a4)] [] (zmk I J X) = if decide ((I 61 19) ≤ a4) = true then
  some (.inl (8, [(0, .ref 61), (1, .int a1), (2, .int a2), (3, .int a3), (4, .int (0 : Int32))], zmk (zup (zup I 61 76 (0 : Int32)) 61 77 (0 : Int32)) J X))
  else if zix 0 300 0 a4 then
    if decide (¬ (I 74 a4.toNatClampNeg) = a1) = true then
      some (.inl (2, [(0, .ref 61), (1, .int a1), (2, .int a2), (3, .int a3), (4, .int (a4 + (1 : Int32)))], zmk I J X))
      else if zix 1 300 1 a4 then
        if decide (¬ (I 109 a4.toNatClampNeg) = 0) = true then
          some (.inl (9, [(0, .ref 61), (1, .int a1), (2, .int a2), (3, .int a3), (4, .int a4), (5, .int a3)], zmk I J X))
          else some (.inl (2, [(0, .ref 61), (1, .int a1), (2, .int a2), (3, .int a3), (4, .int (a4 + (1 : Int32)))], zmk I J X))
        else none
    else none := by
  refine zite_congr ?_ ?_
  · rfl
  · refine zite_congr ?_ ?_
    · refine zite_congr ?_ ?_
      · rfl
      · refine zite_congr ?_ ?_
        · refine zite_congr ?_ ?_
          · rfl
          · rfl
        · rfl
    · rfl
theorem S189_8 (xs : Nat → Int32) (L d : Nat) (I : Nat → Nat → Int32) (J : Nat → Nat → Int64) (X : XH) (a1 : Int32) (a2 : Int32) (a3 : Int32) (a4 : Int32) : zseg (zE xs L (d + 5) 189) (zC 189) 700 (zC 189 8) [(0, .ref 61), (1, .int a1), (2, .int a2), (3, .int a3), (4, .int a4)] [] (zmk I J X) = if decide (a3 ≤ a4) = true then
  zcw (zE xs L (d + 5) 189) (zev xs L (d + 5) 193 [.ref 61, .int a1, .int a2] (zmk I J X)) (fun h => zseg (zE xs L (d + 5) 189) (zC 189) 693 (zB189_10.drop 4) [(0, .ref 61), (1, .int a1), (2, .int a2), (3, .int a3), (4, .int a4)] [] h)
  else if zix 0 300 0 a4 then
    if decide (a4 ≤ 0) = true then
      if zix 0 300 0 (I 111 a4.toNatClampNeg) then
        if zix 0 300 0 (I 111 a4.toNatClampNeg) then
          zcw (zE xs L (d + 5) 189) (zev xs L (d + 5) 192 [.ref 61, .int (I 108 ((I 111 a4.toNatClampNeg).toNatClampNeg)), .int (I 76 ((I 111 a4.toNatClampNeg).toNatClampNeg)), .int (I 111 a4.toNatClampNeg)] (zmk I J X)) (fun h => zseg (zE xs L (d + 5) 189) (zC 189) 679 (zB189_11.drop 11) [(5, .int (I 111 a4.toNatClampNeg)), (0, .ref 61), (1, .int a1), (2, .int a2), (3, .int a3), (4, .int a4)] [] h)
          else none
        else none
      else if zix 0 300 0 (I 111 a4.toNatClampNeg) then
        if zix 0 300 0 (a4 - (1 : Int32)) then
          if zix 0 300 0 (I 111 ((a4 - (1 : Int32)).toNatClampNeg)) then
            if decide ((180 : Int32) < ((I 76 ((I 111 a4.toNatClampNeg).toNatClampNeg)) - (I 76 ((I 111 ((a4 - (1 : Int32)).toNatClampNeg)).toNatClampNeg)))) = true then
              if zix 0 300 0 (I 111 a4.toNatClampNeg) then
                if zix 0 300 0 (I 111 a4.toNatClampNeg) then
                  zcw (zE xs L (d + 5) 189) (zev xs L (d + 5) 192 [.ref 61, .int (I 108 ((I 111 a4.toNatClampNeg).toNatClampNeg)), .int (I 76 ((I 111 a4.toNatClampNeg).toNatClampNeg)), .int (I 111 a4.toNatClampNeg)] (zmk I J X)) (fun h => zseg (zE xs L (d + 5) 189) (zC 189) 663 (zB189_11.drop 11) [(5, .int (I 111 a4.toNatClampNeg)), (0, .ref 61), (1, .int a1), (2, .int a2), (3, .int a3), (4, .int a4)] [] h)
                  else none
                else none
              else if zix 0 300 0 (a4 - (1 : Int32)) then
                zcw (zE xs L (d + 5) 189) (zev xs L (d + 5) 190 [.ref 61, .int (I 111 ((a4 - (1 : Int32)).toNatClampNeg)), .int (I 111 a4.toNatClampNeg)] (zmk I J X)) (fun h => zseg (zE xs L (d + 5) 189) (zC 189) 665 (zB189_8.drop 35) [(5, .int (I 111 a4.toNatClampNeg)), (0, .ref 61), (1, .int a1), (2, .int a2), (3, .int a3), (4, .int a4)] [] h)
                else none
            else none
          else none
        else none
    else none := by
  refine zite_congr ?_ ?_
  · rfl
  · refine zite_congr ?_ ?_
    · refine zite_congr ?_ ?_
      · refine zite_congr ?_ ?_
        · refine zite_congr ?_ ?_
          · rfl
          · rfl
        · rfl
      · refine zite_congr ?_ ?_
        · refine zite_congr ?_ ?_
          · refine zite_congr ?_ ?_
            · refine zite_congr ?_ ?_
              · refine zite_congr ?_ ?_
                · refine zite_congr ?_ ?_
                  · rfl
                  · rfl
                · rfl
              · refine zite_congr ?_ ?_
                · rfl
                · rfl
            · rfl
          · rfl
        · rfl
    · rfl
theorem T189_10_4_693 (xs : Nat → Int32) (L d : Nat) (I : Nat → Nat → Int32) (J : Nat → Nat → Int64) (X : XH) (a1 : Int32) (a2 : Int32) (a3 : Int32) (a4 : Int32) : zseg (zE xs L (d + 5) 189) (zC 189) 693 (zB189_10.drop 4) [(0, .ref 61), (1, .int a1), (2, .int a2), (3, .int a3), (4, .int a4)] [] (zmk I J X) = some (.inr (.inr none, zmk I J X)) := by
  rfl
theorem T189_11_11_679 (xs : Nat → Int32) (L d : Nat) (I : Nat → Nat → Int32) (J : Nat → Nat → Int64) (X : XH) (a5 : Int32) (a1 : Int32) (a2 : Int32) (a3 : Int32) (a4 : Int32) : zseg (zE xs L (d + 5) 189) (zC 189) 679 (zB189_11.drop 11) [(5, .int a5), (0, .ref 61), (1, .int a1), (2, .int a2), (3, .int a3), (4, .int a4)] [] (zmk I J X) = some (.inl (8, [(0, .ref 61), (1, .int a1), (2, .int a2), (3, .int a3), (4, .int (a4 + (1 : Int32)))], zmk I J X)) := by
  rfl
theorem T189_11_11_663 (xs : Nat → Int32) (L d : Nat) (I : Nat → Nat → Int32) (J : Nat → Nat → Int64) (X : XH) (a5 : Int32) (a1 : Int32) (a2 : Int32) (a3 : Int32) (a4 : Int32) : zseg (zE xs L (d + 5) 189) (zC 189) 663 (zB189_11.drop 11) [(5, .int a5), (0, .ref 61), (1, .int a1), (2, .int a2), (3, .int a3), (4, .int a4)] [] (zmk I J X) = some (.inl (8, [(0, .ref 61), (1, .int a1), (2, .int a2), (3, .int a3), (4, .int (a4 + (1 : Int32)))], zmk I J X)) := by
  rfl
theorem T189_8_35_665 (xs : Nat → Int32) (L d : Nat) (I : Nat → Nat → Int32) (J : Nat → Nat → Int64) (X : XH) (a5 : Int32) (a1 : Int32) (a2 : Int32) (a3 : Int32) (a4 : Int32) : zseg (zE xs L (d + 5) 189) (zC 189) 665 (zB189_8.drop 35) [(5, .int a5), (0, .ref 61), (1, .int a1), (2, .int a2), (3, .int a3), (4, .int a4)] [] (zmk I J X) = if zix 0 300 0 a5 then
  if zix 0 300 0 a5 then
    zcw (zE xs L (d + 5) 189) (zev xs L (d + 5) 192 [.ref 61, .int (I 108 a5.toNatClampNeg), .int (I 76 a5.toNatClampNeg), .int a5] (zmk I J X)) (fun h => zseg (zE xs L (d + 5) 189) (zC 189) 653 (zB189_11.drop 11) [(5, .int a5), (0, .ref 61), (1, .int a1), (2, .int a2), (3, .int a3), (4, .int a4)] [] h)
    else none
  else none := by
  refine zite_congr ?_ ?_
  · refine zite_congr ?_ ?_
    · rfl
    · rfl
  · rfl
theorem T189_11_11_653 (xs : Nat → Int32) (L d : Nat) (I : Nat → Nat → Int32) (J : Nat → Nat → Int64) (X : XH) (a5 : Int32) (a1 : Int32) (a2 : Int32) (a3 : Int32) (a4 : Int32) : zseg (zE xs L (d + 5) 189) (zC 189) 653 (zB189_11.drop 11) [(5, .int a5), (0, .ref 61), (1, .int a1), (2, .int a2), (3, .int a3), (4, .int a4)] [] (zmk I J X) = some (.inl (8, [(0, .ref 61), (1, .int a1), (2, .int a2), (3, .int a3), (4, .int (a4 + (1 : Int32)))], zmk I J X)) := by
  rfl
theorem S189_9 (xs : Nat → Int32) (L d : Nat) (I : Nat → Nat → Int32) (J : Nat → Nat → Int64) (X : XH) (a1 : Int32) (a2 : Int32) (a3 : Int32) (a4 : Int32) (a5 : Int32) : zseg (zE xs L (d + 5) 189) (zC 189) 700 (zC 189 9) [(0, .ref 61), (1, .int a1), (2, .int a2), (3, .int a3), (4, .int a4), (5, .int a5)] [] (zmk I J X) = if decide (a5 ≤ 0) = true then
  if zix 0 300 0 a5 then
    some (.inl (2, [(0, .ref 61), (1, .int a1), (2, .int a2), (3, .int (a3 + (1 : Int32))), (4, .int (a4 + (1 : Int32)))], zmk (zup I 111 a5.toNatClampNeg a4) J X))
    else none
  else if zix 0 300 0 (a5 - (1 : Int32)) then
    if zix 0 300 0 (I 111 ((a5 - (1 : Int32)).toNatClampNeg)) then
      if zix 0 300 0 a4 then
        if decide ((I 76 ((I 111 ((a5 - (1 : Int32)).toNatClampNeg)).toNatClampNeg)) ≤ (I 76 a4.toNatClampNeg)) = true then
          if zix 0 300 0 a5 then
            some (.inl (2, [(0, .ref 61), (1, .int a1), (2, .int a2), (3, .int (a3 + (1 : Int32))), (4, .int (a4 + (1 : Int32)))], zmk (zup I 111 a5.toNatClampNeg a4) J X))
            else none
          else if zix 0 300 0 (a5 - (1 : Int32)) then
            if zix 0 300 0 a5 then
              some (.inl (9, [(0, .ref 61), (1, .int a1), (2, .int a2), (3, .int a3), (4, .int a4), (5, .int (a5 + (-1 : Int32)))], zmk (zup I 111 a5.toNatClampNeg (I 111 ((a5 - (1 : Int32)).toNatClampNeg))) J X))
              else none
            else none
        else none
      else none
    else none := by
  refine zite_congr ?_ ?_
  · refine zite_congr ?_ ?_
    · rfl
    · rfl
  · refine zite_congr ?_ ?_
    · refine zite_congr ?_ ?_
      · refine zite_congr ?_ ?_
        · refine zite_congr ?_ ?_
          · refine zite_congr ?_ ?_
            · rfl
            · rfl
          · refine zite_congr ?_ ?_
            · refine zite_congr ?_ ?_
              · rfl
              · rfl
            · rfl
        · rfl
      · rfl
    · rfl
/-! 190 TollTagsModel.guess (II)V -/
theorem S190_0 (xs : Nat → Int32) (L d : Nat) (I : Nat → Nat → Int32) (J : Nat → Nat → Int64) (X : XH) (a1 : Int32) (a2 : Int32) : zseg (zE xs L (d + 5) 190) (zC 190) 700 (zC 190 0) [(0, .ref 61), (1, .int a1), (2, .int a2)] [] (zmk I J X) = if zix 0 300 0 a1 then
  if zix 0 40 0 (I 108 a1.toNatClampNeg) then
    if zix 0 300 0 a2 then
      if zix 0 40 0 (I 108 a2.toNatClampNeg) then
        if zix 0 576 0 (((24 : Int32) * (I 64 ((I 108 a1.toNatClampNeg).toNatClampNeg))) + (I 63 ((I 108 a2.toNatClampNeg).toNatClampNeg))) then
          if decide ((I 110 ((((24 : Int32) * (I 64 ((I 108 a1.toNatClampNeg).toNatClampNeg))) + (I 63 ((I 108 a2.toNatClampNeg).toNatClampNeg))).toNatClampNeg)) < (268435456 : Int32)) = true then
            some (.inl (2, [(0, .ref 61), (1, .int a1), (2, .int a2), (3, .int (I 64 ((I 108 a1.toNatClampNeg).toNatClampNeg))), (4, .int (I 63 ((I 108 a2.toNatClampNeg).toNatClampNeg)))], zmk I J X))
            else some (.inr (.inr none, zmk (zup I 61 77 ((I 61 77) + (1 : Int32))) J X))
          else none
        else none
      else none
    else none
  else none := by
  refine zite_congr ?_ ?_
  · refine zite_congr ?_ ?_
    · refine zite_congr ?_ ?_
      · refine zite_congr ?_ ?_
        · refine zite_congr ?_ ?_
          · refine zite_congr ?_ ?_
            · rfl
            · rfl
          · rfl
        · rfl
      · rfl
    · rfl
  · rfl
theorem S190_2 (xs : Nat → Int32) (L d : Nat) (I : Nat → Nat → Int32) (J : Nat → Nat → Int64) (X : XH) (a1 : Int32) (a2 : Int32) (a3 : Int32) (a4 : Int32) : zseg (zE xs L (d + 5) 190) (zC 190) 700 (zC 190 2) [(0, .ref 61), (1, .int a1), (2, .int a2), (3, .int a3), (4, .int a4)] [] (zmk I J X) = if decide (a3 = a4) = true then
  some (.inr (.inr none, zmk I J X))
  else zci (zE xs L (d + 5) 190) (zev xs L (d + 5) 191 [.ref 61, .int a3, .int a4] (zmk I J X)) (fun r h => zseg (zE xs L (d + 5) 190) (zC 190) 693 (zB190_2.drop 7) [(0, .ref 61), (1, .int a1), (2, .int a2), (3, .int a3), (4, .int a4)] [.int r] h) := by
  refine zite_congr ?_ ?_
  · rfl
  · rfl
theorem T190_2_7_693 (xs : Nat → Int32) (L d : Nat) (I : Nat → Nat → Int32) (J : Nat → Nat → Int64) (X : XH) (a1 : Int32) (a2 : Int32) (a3 : Int32) (a4 : Int32) (b0 : Int32) : zseg (zE xs L (d + 5) 190) (zC 190) 693 (zB190_2.drop 7) [(0, .ref 61), (1, .int a1), (2, .int a2), (3, .int a3), (4, .int a4)] [.int b0] (zmk I J X) = if zix 0 300 0 a1 then
  zcw (zE xs L (d + 5) 190) (zev xs L (d + 5) 192 [.ref 61, .int b0, .int (I 76 a1.toNatClampNeg), .int (-1 : Int32)] (zmk I J X)) (fun h => zseg (zE xs L (d + 5) 190) (zC 190) 684 (zB190_2.drop 16) [(5, .int b0), (0, .ref 61), (1, .int a1), (2, .int a2), (3, .int a3), (4, .int a4)] [] h)
  else none := by
  refine zite_congr ?_ ?_
  · rfl
  · rfl
theorem T190_2_16_684 (xs : Nat → Int32) (L d : Nat) (I : Nat → Nat → Int32) (J : Nat → Nat → Int64) (X : XH) (a5 : Int32) (a1 : Int32) (a2 : Int32) (a3 : Int32) (a4 : Int32) : zseg (zE xs L (d + 5) 190) (zC 190) 684 (zB190_2.drop 16) [(5, .int a5), (0, .ref 61), (1, .int a1), (2, .int a2), (3, .int a3), (4, .int a4)] [] (zmk I J X) = if zix 0 40 0 a5 then
  some (.inl (2, [(0, .ref 61), (1, .int a1), (2, .int a2), (3, .int (I 64 a5.toNatClampNeg)), (4, .int a4)], zmk I J X))
  else none := by
  refine zite_congr ?_ ?_
  · rfl
  · rfl
/-! 191 TollTagsModel.nextRoad (II)I -/
theorem S191_0 (xs : Nat → Int32) (L d : Nat) (I : Nat → Nat → Int32) (J : Nat → Nat → Int64) (X : XH) (a1 : Int32) (a2 : Int32) : zseg (zE xs L (d + 5) 191) (zC 191) 700 (zC 191 0) [(0, .ref 61), (1, .int a1), (2, .int a2)] [] (zmk I J X) = some (.inl (2, [(0, .ref 61), (1, .int a1), (2, .int a2), (3, .int (0 : Int32))], zmk I J X)) := by
  rfl
theorem S191_2 (xs : Nat → Int32) (L d : Nat) (I : Nat → Nat → Int32) (J : Nat → Nat → Int64) (X : XH) (a1 : Int32) (a2 : Int32) (a3 : Int32) : zseg (zE xs L (d + 5) 191) (zC 191) 700 (zC 191 2) [(0, .ref 61), (1, .int a1), (2, .int a2), (3, .int a3)] [] (zmk I J X) = if decide ((I 61 4) ≤ a3) = true then
  some (.inr (.inr (some (.int (-1 : Int32))), zmk I J X))
  else if zix 1 40 1 a3 then
    if decide (¬ (I 73 a3.toNatClampNeg) = 0) = true then
      some (.inl (2, [(0, .ref 61), (1, .int a1), (2, .int a2), (3, .int (a3 + (1 : Int32)))], zmk I J X))
      else if zix 0 40 0 a3 then
        if decide ((I 63 a3.toNatClampNeg) = a1) = true then
          if zix 0 576 0 (((24 : Int32) * a1) + a2) then
            if zix 0 40 0 a3 then
              if zix 0 40 0 a3 then
                if zix 0 576 0 (((24 : Int32) * (I 64 a3.toNatClampNeg)) + a2) then
                  if decide (¬ (I 110 ((((24 : Int32) * a1) + a2).toNatClampNeg)) = ((((64 : Int32) * (I 66 a3.toNatClampNeg)) + (1 : Int32)) + (I 110 ((((24 : Int32) * (I 64 a3.toNatClampNeg)) + a2).toNatClampNeg)))) = true then
                    some (.inl (2, [(0, .ref 61), (1, .int a1), (2, .int a2), (3, .int (a3 + (1 : Int32)))], zmk I J X))
                    else some (.inr (.inr (some (.int a3)), zmk I J X))
                  else none
                else none
              else none
            else none
          else some (.inl (2, [(0, .ref 61), (1, .int a1), (2, .int a2), (3, .int (a3 + (1 : Int32)))], zmk I J X))
        else none
    else none := by
  refine zite_congr ?_ ?_
  · rfl
  · refine zite_congr ?_ ?_
    · refine zite_congr ?_ ?_
      · rfl
      · refine zite_congr ?_ ?_
        · refine zite_congr ?_ ?_
          · refine zite_congr ?_ ?_
            · refine zite_congr ?_ ?_
              · refine zite_congr ?_ ?_
                · refine zite_congr ?_ ?_
                  · refine zite_congr ?_ ?_
                    · rfl
                    · rfl
                  · rfl
                · rfl
              · rfl
            · rfl
          · rfl
        · rfl
    · rfl
/-! 192 TollTagsModel.add (III)V -/
theorem S192_0 (xs : Nat → Int32) (L d : Nat) (I : Nat → Nat → Int32) (J : Nat → Nat → Int64) (X : XH) (a1 : Int32) (a2 : Int32) (a3 : Int32) : zseg (zE xs L (d + 5) 192) (zC 192) 700 (zC 192 0) [(0, .ref 61), (1, .int a1), (2, .int a2), (3, .int a3)] [] (zmk I J X) = if zix 0 8000 0 (I 61 76) then
  if zix 0 8000 0 (I 61 76) then
    if zix 0 8000 0 (I 61 76) then
      some (.inr (.inr none, zmk (zup (zup (zup (zup I 112 ((I 61 76).toNatClampNeg) a1) 113 ((I 61 76).toNatClampNeg) a2) 114 ((I 61 76).toNatClampNeg) a3) 61 76 ((I 61 76) + (1 : Int32))) J X))
      else none
    else none
  else none := by
  refine zite_congr ?_ ?_
  · refine zite_congr ?_ ?_
    · refine zite_congr ?_ ?_
      · rfl
      · rfl
    · rfl
  · rfl
/-! 193 TollTagsModel.charge (II)V -/
theorem S193_0 (xs : Nat → Int32) (L d : Nat) (I : Nat → Nat → Int32) (J : Nat → Nat → Int64) (X : XH) (a1 : Int32) (a2 : Int32) : zseg (zE xs L (d + 5) 193) (zC 193) 700 (zC 193 0) [(0, .ref 61), (1, .int a1), (2, .int a2)] [] (zmk I J X) = some (.inl (2, [(0, .ref 61), (1, .int a1), (2, .int a2), (3, .int (0 : Int32))], zmk I J X)) := by
  rfl
theorem S193_2 (xs : Nat → Int32) (L d : Nat) (I : Nat → Nat → Int32) (J : Nat → Nat → Int64) (X : XH) (a1 : Int32) (a2 : Int32) (a3 : Int32) : zseg (zE xs L (d + 5) 193) (zC 193) 700 (zC 193 2) [(0, .ref 61), (1, .int a1), (2, .int a2), (3, .int a3)] [] (zmk I J X) = if decide ((27 : Int32) ≤ a3) = true then
  some (.inl (5, [(0, .ref 61), (1, .int a1), (2, .int a2), (3, .int (0 : Int32))], zmk I J X))
  else if zix 0 27 0 a3 then
    some (.inl (2, [(0, .ref 61), (1, .int a1), (2, .int a2), (3, .int (a3 + (1 : Int32)))], zmk (zup I 117 a3.toNatClampNeg (0 : Int32)) J X))
    else none := by
  refine zite_congr ?_ ?_
  · rfl
  · refine zite_congr ?_ ?_
    · rfl
    · rfl
theorem S193_5 (xs : Nat → Int32) (L d : Nat) (I : Nat → Nat → Int32) (J : Nat → Nat → Int64) (X : XH) (a1 : Int32) (a2 : Int32) (a3 : Int32) : zseg (zE xs L (d + 5) 193) (zC 193) 700 (zC 193 5) [(0, .ref 61), (1, .int a1), (2, .int a2), (3, .int a3)] [] (zmk I J X) = if decide ((I 61 76) ≤ a3) = true then
  some (.inr (.inr none, zmk I J X))
  else if zix 0 8000 0 a3 then
    if zix 0 40 0 (I 112 a3.toNatClampNeg) then
      if zix 0 8000 0 a3 then
        if zix 0 8000 0 a3 then
          if decide ((I 114 a3.toNatClampNeg) = (-1 : Int32)) = true then
            if zix 1 8000 1 a3 then
              if zix 0 27 0 (((3 : Int32) * (I 65 ((I 112 a3.toNatClampNeg).toNatClampNeg))) + ((I 113 a3.toNatClampNeg) / (43200 : Int32))) then
                if zix 0 8000 0 a3 then
                  if zix 1 8000 1 a3 then
                    if decide (((zup I 118 a3.toNatClampNeg (vp_nar .boolean (0 : Int32))) 118 a3.toNatClampNeg) = 0) = true then
                      zci (zE xs L (d + 5) 193) (zev xs L (d + 5) 195 [.ref 61, .int a1, .int a3, .int a2] (zmk (zup (zup I 118 a3.toNatClampNeg (vp_nar .boolean (0 : Int32))) 116 a3.toNatClampNeg (I 117 ((((3 : Int32) * (I 65 ((I 112 a3.toNatClampNeg).toNatClampNeg))) + ((I 113 a3.toNatClampNeg) / (43200 : Int32))).toNatClampNeg))) J X)) (fun r h => zseg (zE xs L (d + 5) 193) (zC 193) 644 (zB193_9.drop 5) [(5, .int (((3 : Int32) * (I 65 ((I 112 a3.toNatClampNeg).toNatClampNeg))) + ((I 113 a3.toNatClampNeg) / (43200 : Int32)))), (4, .int (I 112 a3.toNatClampNeg)), (0, .ref 61), (1, .int a1), (2, .int a2), (3, .int a3)] [.int r, .int a3, .ref 115] h)
                      else if zix 0 8000 0 a3 then
                        if zix 0 27 0 (((3 : Int32) * (I 65 ((I 112 a3.toNatClampNeg).toNatClampNeg))) + ((I 113 a3.toNatClampNeg) / (43200 : Int32))) then
                          if zix 1 8000 1 a3 then
                            if decide (((zup I 118 a3.toNatClampNeg (vp_nar .boolean (0 : Int32))) 118 a3.toNatClampNeg) = 0) = true then
                              if zix 0 40 0 (I 112 a3.toNatClampNeg) then
                                if zix 0 27 0 (((3 : Int32) * (I 65 ((I 112 a3.toNatClampNeg).toNatClampNeg))) + ((I 113 a3.toNatClampNeg) / (43200 : Int32))) then
                                  some (.inl (5, [(0, .ref 61), (1, .int a1), (2, .int a2), (3, .int (a3 + (1 : Int32)))], zmk (zup (zup (zup (zup I 118 a3.toNatClampNeg (vp_nar .boolean (0 : Int32))) 116 a3.toNatClampNeg (I 117 ((((3 : Int32) * (I 65 ((I 112 a3.toNatClampNeg).toNatClampNeg))) + ((I 113 a3.toNatClampNeg) / (43200 : Int32))).toNatClampNeg))) 115 a3.toNatClampNeg (0 : Int32)) 117 ((((3 : Int32) * (I 65 ((I 112 a3.toNatClampNeg).toNatClampNeg))) + ((I 113 a3.toNatClampNeg) / (43200 : Int32))).toNatClampNeg) ((I 117 ((((3 : Int32) * (I 65 ((I 112 a3.toNatClampNeg).toNatClampNeg))) + ((I 113 a3.toNatClampNeg) / (43200 : Int32))).toNatClampNeg)) + (I 66 ((I 112 a3.toNatClampNeg).toNatClampNeg)))) J X))
                                  else none
                                else none
                              else if zix 0 27 0 (((3 : Int32) * (I 65 ((I 112 a3.toNatClampNeg).toNatClampNeg))) + ((I 113 a3.toNatClampNeg) / (43200 : Int32))) then
                                some (.inl (5, [(0, .ref 61), (1, .int a1), (2, .int a2), (3, .int (a3 + (1 : Int32)))], zmk (zup (zup (zup (zup I 118 a3.toNatClampNeg (vp_nar .boolean (0 : Int32))) 116 a3.toNatClampNeg (I 117 ((((3 : Int32) * (I 65 ((I 112 a3.toNatClampNeg).toNatClampNeg))) + ((I 113 a3.toNatClampNeg) / (43200 : Int32))).toNatClampNeg))) 115 a3.toNatClampNeg (0 : Int32)) 117 ((((3 : Int32) * (I 65 ((I 112 a3.toNatClampNeg).toNatClampNeg))) + ((I 113 a3.toNatClampNeg) / (43200 : Int32))).toNatClampNeg) ((I 117 ((((3 : Int32) * (I 65 ((I 112 a3.toNatClampNeg).toNatClampNeg))) + ((I 113 a3.toNatClampNeg) / (43200 : Int32))).toNatClampNeg)) + (0 : Int32))) J X))
                                else none
                            else none
                          else none
                        else none
                    else none
                  else none
                else none
              else none
            else if zix 0 8000 0 a3 then
              zci (zE xs L (d + 5) 193) (zev xs L (d + 5) 194 [.ref 61, .int (I 114 a3.toNatClampNeg), .int a2] (zmk I J X)) (fun r h => zseg (zE xs L (d + 5) 193) (zC 193) 661 (zB193_5.drop 39) [(5, .int (((3 : Int32) * (I 65 ((I 112 a3.toNatClampNeg).toNatClampNeg))) + ((I 113 a3.toNatClampNeg) / (43200 : Int32)))), (4, .int (I 112 a3.toNatClampNeg)), (0, .ref 61), (1, .int a1), (2, .int a2), (3, .int a3)] [.int r, .int a3, .ref 118] h)
              else none
          else none
        else none
      else none
    else none := by
  refine zite_congr ?_ ?_
  · rfl
  · refine zite_congr ?_ ?_
    · refine zite_congr ?_ ?_
      · refine zite_congr ?_ ?_
        · refine zite_congr ?_ ?_
          · refine zite_congr ?_ ?_
            · refine zite_congr ?_ ?_
              · refine zite_congr ?_ ?_
                · refine zite_congr ?_ ?_
                  · refine zite_congr ?_ ?_
                    · refine zite_congr ?_ ?_
                      · rfl
                      · refine zite_congr ?_ ?_
                        · refine zite_congr ?_ ?_
                          · refine zite_congr ?_ ?_
                            · refine zite_congr ?_ ?_
                              · refine zite_congr ?_ ?_
                                · refine zite_congr ?_ ?_
                                  · rfl
                                  · rfl
                                · rfl
                              · refine zite_congr ?_ ?_
                                · rfl
                                · rfl
                            · rfl
                          · rfl
                        · rfl
                    · rfl
                  · rfl
                · rfl
              · rfl
            · refine zite_congr ?_ ?_
              · rfl
              · rfl
          · rfl
        · rfl
      · rfl
    · rfl
theorem T193_9_5_644 (xs : Nat → Int32) (L d : Nat) (I : Nat → Nat → Int32) (J : Nat → Nat → Int64) (X : XH) (a5 : Int32) (a4 : Int32) (a1 : Int32) (a2 : Int32) (a3 : Int32) (b1 : Int32) (b2 : Int32) : zseg (zE xs L (d + 5) 193) (zC 193) 644 (zB193_9.drop 5) [(5, .int a5), (4, .int a4), (0, .ref 61), (1, .int a1), (2, .int a2), (3, .int a3)] [.int b2, .int b1, .ref 115] (zmk I J X) = if zix 0 8000 0 b1 then
  if zix 0 27 0 a5 then
    if zix 1 8000 1 a3 then
      if decide ((I 118 a3.toNatClampNeg) = 0) = true then
        if zix 0 40 0 a4 then
          if zix 0 27 0 a5 then
            some (.inl (5, [(0, .ref 61), (1, .int a1), (2, .int a2), (3, .int (a3 + (1 : Int32)))], zmk (zup (zup I 115 b1.toNatClampNeg b2) 117 a5.toNatClampNeg ((I 117 a5.toNatClampNeg) + (I 66 a4.toNatClampNeg))) J X))
            else none
          else none
        else if zix 0 27 0 a5 then
          some (.inl (5, [(0, .ref 61), (1, .int a1), (2, .int a2), (3, .int (a3 + (1 : Int32)))], zmk (zup (zup I 115 b1.toNatClampNeg b2) 117 a5.toNatClampNeg ((I 117 a5.toNatClampNeg) + (0 : Int32))) J X))
          else none
      else none
    else none
  else none := by
  refine zite_congr ?_ ?_
  · refine zite_congr ?_ ?_
    · refine zite_congr ?_ ?_
      · refine zite_congr ?_ ?_
        · refine zite_congr ?_ ?_
          · refine zite_congr ?_ ?_
            · rfl
            · rfl
          · rfl
        · refine zite_congr ?_ ?_
          · rfl
          · rfl
      · rfl
    · rfl
  · rfl
theorem T193_5_39_661 (xs : Nat → Int32) (L d : Nat) (I : Nat → Nat → Int32) (J : Nat → Nat → Int64) (X : XH) (a5 : Int32) (a4 : Int32) (a1 : Int32) (a2 : Int32) (a3 : Int32) (b1 : Int32) (b2 : Int32) : zseg (zE xs L (d + 5) 193) (zC 193) 661 (zB193_5.drop 39) [(5, .int a5), (4, .int a4), (0, .ref 61), (1, .int a1), (2, .int a2), (3, .int a3)] [.int b2, .int b1, .ref 118] (zmk I J X) = if decide (b2 = 0) = true then
  if zix 1 8000 1 b1 then
    if zix 0 27 0 a5 then
      if zix 0 8000 0 a3 then
        if zix 1 8000 1 a3 then
          if decide (((zup I 118 b1.toNatClampNeg (vp_nar .boolean (0 : Int32))) 118 a3.toNatClampNeg) = 0) = true then
            zci (zE xs L (d + 5) 193) (zev xs L (d + 5) 195 [.ref 61, .int a1, .int a3, .int a2] (zmk (zup (zup I 118 b1.toNatClampNeg (vp_nar .boolean (0 : Int32))) 116 a3.toNatClampNeg (I 117 a5.toNatClampNeg)) J X)) (fun r h => zseg (zE xs L (d + 5) 193) (zC 193) 636 (zB193_9.drop 5) [(5, .int a5), (4, .int a4), (0, .ref 61), (1, .int a1), (2, .int a2), (3, .int a3)] [.int r, .int a3, .ref 115] h)
            else if zix 0 8000 0 a3 then
              if zix 0 27 0 a5 then
                if zix 1 8000 1 a3 then
                  if decide (((zup I 118 b1.toNatClampNeg (vp_nar .boolean (0 : Int32))) 118 a3.toNatClampNeg) = 0) = true then
                    if zix 0 40 0 a4 then
                      if zix 0 27 0 a5 then
                        some (.inl (5, [(0, .ref 61), (1, .int a1), (2, .int a2), (3, .int (a3 + (1 : Int32)))], zmk (zup (zup (zup (zup I 118 b1.toNatClampNeg (vp_nar .boolean (0 : Int32))) 116 a3.toNatClampNeg (I 117 a5.toNatClampNeg)) 115 a3.toNatClampNeg (0 : Int32)) 117 a5.toNatClampNeg ((I 117 a5.toNatClampNeg) + (I 66 a4.toNatClampNeg))) J X))
                        else none
                      else none
                    else if zix 0 27 0 a5 then
                      some (.inl (5, [(0, .ref 61), (1, .int a1), (2, .int a2), (3, .int (a3 + (1 : Int32)))], zmk (zup (zup (zup (zup I 118 b1.toNatClampNeg (vp_nar .boolean (0 : Int32))) 116 a3.toNatClampNeg (I 117 a5.toNatClampNeg)) 115 a3.toNatClampNeg (0 : Int32)) 117 a5.toNatClampNeg ((I 117 a5.toNatClampNeg) + (0 : Int32))) J X))
                      else none
                  else none
                else none
              else none
          else none
        else none
      else none
    else none
  else if zix 1 8000 1 b1 then
    if zix 0 27 0 a5 then
      if zix 0 8000 0 a3 then
        if zix 1 8000 1 a3 then
          if decide (((zup I 118 b1.toNatClampNeg (vp_nar .boolean (1 : Int32))) 118 a3.toNatClampNeg) = 0) = true then
            zci (zE xs L (d + 5) 193) (zev xs L (d + 5) 195 [.ref 61, .int a1, .int a3, .int a2] (zmk (zup (zup I 118 b1.toNatClampNeg (vp_nar .boolean (1 : Int32))) 116 a3.toNatClampNeg (I 117 a5.toNatClampNeg)) J X)) (fun r h => zseg (zE xs L (d + 5) 193) (zC 193) 636 (zB193_9.drop 5) [(5, .int a5), (4, .int a4), (0, .ref 61), (1, .int a1), (2, .int a2), (3, .int a3)] [.int r, .int a3, .ref 115] h)
            else if zix 0 8000 0 a3 then
              if zix 0 27 0 a5 then
                if zix 1 8000 1 a3 then
                  if decide (((zup I 118 b1.toNatClampNeg (vp_nar .boolean (1 : Int32))) 118 a3.toNatClampNeg) = 0) = true then
                    if zix 0 40 0 a4 then
                      if zix 0 27 0 a5 then
                        some (.inl (5, [(0, .ref 61), (1, .int a1), (2, .int a2), (3, .int (a3 + (1 : Int32)))], zmk (zup (zup (zup (zup I 118 b1.toNatClampNeg (vp_nar .boolean (1 : Int32))) 116 a3.toNatClampNeg (I 117 a5.toNatClampNeg)) 115 a3.toNatClampNeg (0 : Int32)) 117 a5.toNatClampNeg ((I 117 a5.toNatClampNeg) + (I 66 a4.toNatClampNeg))) J X))
                        else none
                      else none
                    else if zix 0 27 0 a5 then
                      some (.inl (5, [(0, .ref 61), (1, .int a1), (2, .int a2), (3, .int (a3 + (1 : Int32)))], zmk (zup (zup (zup (zup I 118 b1.toNatClampNeg (vp_nar .boolean (1 : Int32))) 116 a3.toNatClampNeg (I 117 a5.toNatClampNeg)) 115 a3.toNatClampNeg (0 : Int32)) 117 a5.toNatClampNeg ((I 117 a5.toNatClampNeg) + (0 : Int32))) J X))
                      else none
                  else none
                else none
              else none
          else none
        else none
      else none
    else none := by
  refine zite_congr ?_ ?_
  · refine zite_congr ?_ ?_
    · refine zite_congr ?_ ?_
      · refine zite_congr ?_ ?_
        · refine zite_congr ?_ ?_
          · refine zite_congr ?_ ?_
            · rfl
            · refine zite_congr ?_ ?_
              · refine zite_congr ?_ ?_
                · refine zite_congr ?_ ?_
                  · refine zite_congr ?_ ?_
                    · refine zite_congr ?_ ?_
                      · refine zite_congr ?_ ?_
                        · rfl
                        · rfl
                      · rfl
                    · refine zite_congr ?_ ?_
                      · rfl
                      · rfl
                  · rfl
                · rfl
              · rfl
          · rfl
        · rfl
      · rfl
    · rfl
  · refine zite_congr ?_ ?_
    · refine zite_congr ?_ ?_
      · refine zite_congr ?_ ?_
        · refine zite_congr ?_ ?_
          · refine zite_congr ?_ ?_
            · rfl
            · refine zite_congr ?_ ?_
              · refine zite_congr ?_ ?_
                · refine zite_congr ?_ ?_
                  · refine zite_congr ?_ ?_
                    · refine zite_congr ?_ ?_
                      · refine zite_congr ?_ ?_
                        · rfl
                        · rfl
                      · rfl
                    · refine zite_congr ?_ ?_
                      · rfl
                      · rfl
                  · rfl
                · rfl
              · rfl
          · rfl
        · rfl
      · rfl
    · rfl
theorem T193_9_5_636 (xs : Nat → Int32) (L d : Nat) (I : Nat → Nat → Int32) (J : Nat → Nat → Int64) (X : XH) (a5 : Int32) (a4 : Int32) (a1 : Int32) (a2 : Int32) (a3 : Int32) (b1 : Int32) (b2 : Int32) : zseg (zE xs L (d + 5) 193) (zC 193) 636 (zB193_9.drop 5) [(5, .int a5), (4, .int a4), (0, .ref 61), (1, .int a1), (2, .int a2), (3, .int a3)] [.int b2, .int b1, .ref 115] (zmk I J X) = if zix 0 8000 0 b1 then
  if zix 0 27 0 a5 then
    if zix 1 8000 1 a3 then
      if decide ((I 118 a3.toNatClampNeg) = 0) = true then
        if zix 0 40 0 a4 then
          if zix 0 27 0 a5 then
            some (.inl (5, [(0, .ref 61), (1, .int a1), (2, .int a2), (3, .int (a3 + (1 : Int32)))], zmk (zup (zup I 115 b1.toNatClampNeg b2) 117 a5.toNatClampNeg ((I 117 a5.toNatClampNeg) + (I 66 a4.toNatClampNeg))) J X))
            else none
          else none
        else if zix 0 27 0 a5 then
          some (.inl (5, [(0, .ref 61), (1, .int a1), (2, .int a2), (3, .int (a3 + (1 : Int32)))], zmk (zup (zup I 115 b1.toNatClampNeg b2) 117 a5.toNatClampNeg ((I 117 a5.toNatClampNeg) + (0 : Int32))) J X))
          else none
      else none
    else none
  else none := by
  refine zite_congr ?_ ?_
  · refine zite_congr ?_ ?_
    · refine zite_congr ?_ ?_
      · refine zite_congr ?_ ?_
        · refine zite_congr ?_ ?_
          · refine zite_congr ?_ ?_
            · rfl
            · rfl
          · rfl
        · refine zite_congr ?_ ?_
          · rfl
          · rfl
      · rfl
    · rfl
  · rfl
/-! 194 TollTagsModel.isDouble (II)Z -/
theorem S194_0 (xs : Nat → Int32) (L d : Nat) (I : Nat → Nat → Int32) (J : Nat → Nat → Int64) (X : XH) (a1 : Int32) (a2 : Int32) : zseg (zE xs L (d + 5) 194) (zC 194) 700 (zC 194 0) [(0, .ref 61), (1, .int a1), (2, .int a2)] [] (zmk I J X) = if zix 0 300 0 a1 then
  if zix 0 40 0 (I 108 a1.toNatClampNeg) then
    if zix 0 300 0 a1 then
      zci (zE xs L (d + 5) 194) (zev xs L (d + 5) 187 [.ref 61, .int (I 65 ((I 108 a1.toNatClampNeg).toNatClampNeg)), .int (I 76 a1.toNatClampNeg), .int a2] (zmk I J X)) (fun r h => zseg (zE xs L (d + 5) 194) (zC 194) 686 (zB194_0.drop 14) [(0, .ref 61), (1, .int a1), (2, .int a2)] [.int r] h)
      else none
    else none
  else none := by
  refine zite_congr ?_ ?_
  · refine zite_congr ?_ ?_
    · refine zite_congr ?_ ?_
      · rfl
      · rfl
    · rfl
  · rfl
theorem T194_0_14_686 (xs : Nat → Int32) (L d : Nat) (I : Nat → Nat → Int32) (J : Nat → Nat → Int64) (X : XH) (a1 : Int32) (a2 : Int32) (b0 : Int32) : zseg (zE xs L (d + 5) 194) (zC 194) 686 (zB194_0.drop 14) [(0, .ref 61), (1, .int a1), (2, .int a2)] [.int b0] (zmk I J X) = if decide (¬ b0 = (-1 : Int32)) = true then
  if zix 0 37 0 b0 then
    some (.inl (4, [(0, .ref 61), (1, .int a1), (2, .int a2), (3, .int b0), (4, .int (I 97 b0.toNatClampNeg)), (5, .int (0 : Int32))], zmk I J X))
    else none
  else some (.inl (4, [(0, .ref 61), (1, .int a1), (2, .int a2), (3, .int b0), (4, .int (30 : Int32)), (5, .int (0 : Int32))], zmk I J X)) := by
  refine zite_congr ?_ ?_
  · refine zite_congr ?_ ?_
    · rfl
    · rfl
  · rfl
theorem S194_4 (xs : Nat → Int32) (L d : Nat) (I : Nat → Nat → Int32) (J : Nat → Nat → Int64) (X : XH) (a1 : Int32) (a2 : Int32) (a3 : Int32) (a4 : Int32) (a5 : Int32) : zseg (zE xs L (d + 5) 194) (zC 194) 700 (zC 194 4) [(0, .ref 61), (1, .int a1), (2, .int a2), (3, .int a3), (4, .int a4), (5, .int a5)] [] (zmk I J X) = if decide ((I 61 19) ≤ a5) = true then
  some (.inr (.inr (some (.int (0 : Int32))), zmk I J X))
  else if zix 1 300 1 a5 then
    if decide ((I 109 a5.toNatClampNeg) = 0) = true then
      some (.inl (4, [(0, .ref 61), (1, .int a1), (2, .int a2), (3, .int a3), (4, .int a4), (5, .int (a5 + (1 : Int32)))], zmk I J X))
      else if zix 0 300 0 a5 then
        if zix 0 300 0 a1 then
          if decide ((I 74 a5.toNatClampNeg) = (I 74 a1.toNatClampNeg)) = true then
            some (.inl (4, [(0, .ref 61), (1, .int a1), (2, .int a2), (3, .int a3), (4, .int a4), (5, .int (a5 + (1 : Int32)))], zmk I J X))
            else if zix 0 300 0 a5 then
              if zix 0 24 0 (I 74 a5.toNatClampNeg) then
                if zix 0 300 0 a1 then
                  if zix 0 24 0 (I 74 a1.toNatClampNeg) then
                    if decide (¬ (I 71 ((I 74 a5.toNatClampNeg).toNatClampNeg)) = (I 71 ((I 74 a1.toNatClampNeg).toNatClampNeg))) = true then
                      some (.inl (4, [(0, .ref 61), (1, .int a1), (2, .int a2), (3, .int a3), (4, .int a4), (5, .int (a5 + (1 : Int32)))], zmk I J X))
                      else if zix 0 300 0 a5 then
                        if zix 0 300 0 a1 then
                          if decide ((I 108 a5.toNatClampNeg) = (I 108 a1.toNatClampNeg)) = true then
                            if zix 0 300 0 a1 then
                              if zix 0 300 0 a5 then
                                if decide (a4 < ((I 76 a1.toNatClampNeg) - (I 76 a5.toNatClampNeg))) = true then
                                  some (.inl (4, [(0, .ref 61), (1, .int a1), (2, .int a2), (3, .int a3), (4, .int a4), (5, .int (a5 + (1 : Int32)))], zmk I J X))
                                  else if decide (0 < ((I 76 a1.toNatClampNeg) - (I 76 a5.toNatClampNeg))) = true then
                                    some (.inr (.inr (some (.int (1 : Int32))), zmk I J X))
                                    else if decide (¬ ((I 76 a1.toNatClampNeg) - (I 76 a5.toNatClampNeg)) = 0) = true then
                                      some (.inl (4, [(0, .ref 61), (1, .int a1), (2, .int a2), (3, .int a3), (4, .int a4), (5, .int (a5 + (1 : Int32)))], zmk I J X))
                                      else if decide (a1 ≤ a5) = true then
                                        some (.inl (4, [(0, .ref 61), (1, .int a1), (2, .int a2), (3, .int a3), (4, .int a4), (5, .int (a5 + (1 : Int32)))], zmk I J X))
                                        else some (.inr (.inr (some (.int (1 : Int32))), zmk I J X))
                                else none
                              else none
                            else some (.inl (4, [(0, .ref 61), (1, .int a1), (2, .int a2), (3, .int a3), (4, .int a4), (5, .int (a5 + (1 : Int32)))], zmk I J X))
                          else none
                        else none
                    else none
                  else none
                else none
              else none
          else none
        else none
    else none := by
  refine zite_congr ?_ ?_
  · rfl
  · refine zite_congr ?_ ?_
    · refine zite_congr ?_ ?_
      · rfl
      · refine zite_congr ?_ ?_
        · refine zite_congr ?_ ?_
          · refine zite_congr ?_ ?_
            · rfl
            · refine zite_congr ?_ ?_
              · refine zite_congr ?_ ?_
                · refine zite_congr ?_ ?_
                  · refine zite_congr ?_ ?_
                    · refine zite_congr ?_ ?_
                      · rfl
                      · refine zite_congr ?_ ?_
                        · refine zite_congr ?_ ?_
                          · refine zite_congr ?_ ?_
                            · refine zite_congr ?_ ?_
                              · refine zite_congr ?_ ?_
                                · refine zite_congr ?_ ?_
                                  · rfl
                                  · refine zite_congr ?_ ?_
                                    · rfl
                                    · refine zite_congr ?_ ?_
                                      · rfl
                                      · refine zite_congr ?_ ?_
                                        · rfl
                                        · rfl
                                · rfl
                              · rfl
                            · rfl
                          · rfl
                        · rfl
                    · rfl
                  · rfl
                · rfl
              · rfl
          · rfl
        · rfl
    · rfl
/-! 195 TollTagsModel.chargeOf (III)I -/
theorem S195_0 (xs : Nat → Int32) (L d : Nat) (I : Nat → Nat → Int32) (J : Nat → Nat → Int64) (X : XH) (a1 : Int32) (a2 : Int32) (a3 : Int32) : zseg (zE xs L (d + 5) 195) (zC 195) 700 (zC 195 0) [(0, .ref 61), (1, .int a1), (2, .int a2), (3, .int a3)] [] (zmk I J X) = if zix 0 8000 0 a2 then
  if zix 0 40 0 (I 112 a2.toNatClampNeg) then
    if zix 0 8000 0 a2 then
      zci (zE xs L (d + 5) 195) (zev xs L (d + 5) 187 [.ref 61, .int (I 65 ((I 112 a2.toNatClampNeg).toNatClampNeg)), .int (I 113 a2.toNatClampNeg), .int a3] (zmk I J X)) (fun r h => zseg (zE xs L (d + 5) 195) (zC 195) 684 (zB195_0.drop 16) [(4, .int (I 112 a2.toNatClampNeg)), (0, .ref 61), (1, .int a1), (2, .int a2), (3, .int a3)] [.int r] h)
      else none
    else none
  else none := by
  refine zite_congr ?_ ?_
  · refine zite_congr ?_ ?_
    · refine zite_congr ?_ ?_
      · rfl
      · rfl
    · rfl
  · rfl
theorem T195_neg (xs : Nat → Int32) (L d : Nat) (I : Nat → Nat → Int32) (J : Nat → Nat → Int64) (X : XH) (a4 a1 a2 a3 b0 : Int32) (c : ¬ b0 = (-1 : Int32)) : zseg (zE xs L (d + 5) 195) (zC 195) 684 (zB195_0.drop 16) [(4, .int a4), (0, .ref 61), (1, .int a1), (2, .int a2), (3, .int a3)] [.int b0] (zmk I J X) = zseg (zE xs L (d + 5) 195) (zC 195) 680 (zB195_1.drop 0) [(5, .int b0), (4, .int a4), (0, .ref 61), (1, .int a1), (2, .int a2), (3, .int a3)] [] (zmk I J X) := by
  refine (zb_pos c).trans ?_
  rfl
theorem T195_pos (xs : Nat → Int32) (L d : Nat) (I : Nat → Nat → Int32) (J : Nat → Nat → Int64) (X : XH) (a4 a1 a2 a3 b0 : Int32) (c : b0 = (-1 : Int32)) (h : zix 0 40 0 a4) : zseg (zE xs L (d + 5) 195) (zC 195) 684 (zB195_0.drop 16) [(4, .int a4), (0, .ref 61), (1, .int a1), (2, .int a2), (3, .int a3)] [.int b0] (zmk I J X) = some (.inr (.inr (some (.int ((10 : Int32) * (I 66 a4.toNatClampNeg)))), zmk I J X)) := by
  refine (zb_neg (fun z => z c)).trans ?_
  refine (if_pos h).trans ?_
  rfl
theorem T195_c0 (xs : Nat → Int32) (L d : Nat) (I : Nat → Nat → Int32) (J : Nat → Nat → Int64) (X : XH) (a4 a1 a2 a3 b0 : Int32) (h1 : zix 0 24 0 a1) (h2 : zix 0 16 0 (I 71 a1.toNatClampNeg)) : zseg (zE xs L (d + 5) 195) (zC 195) 680 (zB195_1.drop 0) [(5, .int b0), (4, .int a4), (0, .ref 61), (1, .int a1), (2, .int a2), (3, .int a3)] [] (zmk I J X) = zseg (zE xs L (d + 5) 195) (zC 195) 669 (zB195_1.drop 11) [(5, .int b0), (4, .int a4), (0, .ref 61), (1, .int a1), (2, .int a2), (3, .int a3)] [] (zmk (zup I 102 0 (I 69 ((I 71 a1.toNatClampNeg).toNatClampNeg))) J X) := by
  refine (if_pos h1).trans ?_
  refine (if_pos h2).trans ?_
  first
    | (refine (if_pos (show zix 0 8 0 (0 : Int32) by decide)).trans ?_
       rfl)
    | rfl
theorem T195_c1 (xs : Nat → Int32) (L d : Nat) (I : Nat → Nat → Int32) (J : Nat → Nat → Int64) (X : XH) (a4 a1 a2 a3 b0 : Int32) (h1 : zix 0 24 0 a1) (h2 : zix 0 16 0 (I 71 a1.toNatClampNeg)) : zseg (zE xs L (d + 5) 195) (zC 195) 669 (zB195_1.drop 11) [(5, .int b0), (4, .int a4), (0, .ref 61), (1, .int a1), (2, .int a2), (3, .int a3)] [] (zmk I J X) = zseg (zE xs L (d + 5) 195) (zC 195) 658 (zB195_1.drop 22) [(5, .int b0), (4, .int a4), (0, .ref 61), (1, .int a1), (2, .int a2), (3, .int a3)] [] (zmk (zup I 102 1 (I 70 ((I 71 a1.toNatClampNeg).toNatClampNeg))) J X) := by
  refine (if_pos h1).trans ?_
  refine (if_pos h2).trans ?_
  first
    | (refine (if_pos (show zix 0 8 0 (1 : Int32) by decide)).trans ?_
       rfl)
    | rfl
theorem T195_c2 (xs : Nat → Int32) (L d : Nat) (I : Nat → Nat → Int32) (J : Nat → Nat → Int64) (X : XH) (a4 a1 a2 a3 b0 : Int32) (h1 : zix 0 40 0 a4) : zseg (zE xs L (d + 5) 195) (zC 195) 658 (zB195_1.drop 22) [(5, .int b0), (4, .int a4), (0, .ref 61), (1, .int a1), (2, .int a2), (3, .int a3)] [] (zmk I J X) = zseg (zE xs L (d + 5) 195) (zC 195) 650 (zB195_1.drop 30) [(5, .int b0), (4, .int a4), (0, .ref 61), (1, .int a1), (2, .int a2), (3, .int a3)] [] (zmk (zup I 102 2 (I 66 a4.toNatClampNeg)) J X) := by
  refine (if_pos h1).trans ?_
  first
    | (refine (if_pos (show zix 0 8 0 (2 : Int32) by decide)).trans ?_
       rfl)
    | rfl
theorem T195_c3 (xs : Nat → Int32) (L d : Nat) (I : Nat → Nat → Int32) (J : Nat → Nat → Int64) (X : XH) (a4 a1 a2 a3 b0 : Int32) (h1 : zix 0 8000 0 a2) : zseg (zE xs L (d + 5) 195) (zC 195) 650 (zB195_1.drop 30) [(5, .int b0), (4, .int a4), (0, .ref 61), (1, .int a1), (2, .int a2), (3, .int a3)] [] (zmk I J X) = zseg (zE xs L (d + 5) 195) (zC 195) 638 (zB195_1.drop 42) [(5, .int b0), (4, .int a4), (0, .ref 61), (1, .int a1), (2, .int a2), (3, .int a3)] [] (zmk (zup I 102 3 ((I 113 a2.toNatClampNeg - I 113 a2.toNatClampNeg / (1440 : Int32) * (1440 : Int32)) / (60 : Int32))) J X) := by
  refine (if_pos h1).trans ?_
  first
    | (refine (if_pos (show zix 0 8 0 (3 : Int32) by decide)).trans ?_
       rfl)
    | rfl
theorem T195_c4 (xs : Nat → Int32) (L d : Nat) (I : Nat → Nat → Int32) (J : Nat → Nat → Int64) (X : XH) (a4 a1 a2 a3 b0 : Int32) (h1 : zix 0 8000 0 a2) : zseg (zE xs L (d + 5) 195) (zC 195) 638 (zB195_1.drop 42) [(5, .int b0), (4, .int a4), (0, .ref 61), (1, .int a1), (2, .int a2), (3, .int a3)] [] (zmk I J X) = zseg (zE xs L (d + 5) 195) (zC 195) 626 (zB195_1.drop 54) [(5, .int b0), (4, .int a4), (0, .ref 61), (1, .int a1), (2, .int a2), (3, .int a3)] [] (zmk (zup I 102 4 (I 113 a2.toNatClampNeg / (1440 : Int32) - I 113 a2.toNatClampNeg / (1440 : Int32) / (7 : Int32) * (7 : Int32))) J X) := by
  refine (if_pos h1).trans ?_
  first
    | (refine (if_pos (show zix 0 8 0 (4 : Int32) by decide)).trans ?_
       rfl)
    | rfl
theorem T195_c5 (xs : Nat → Int32) (L d : Nat) (I : Nat → Nat → Int32) (J : Nat → Nat → Int64) (X : XH) (a4 a1 a2 a3 b0 : Int32) (h1 : zix 0 40 0 a4) : zseg (zE xs L (d + 5) 195) (zC 195) 626 (zB195_1.drop 54) [(5, .int b0), (4, .int a4), (0, .ref 61), (1, .int a1), (2, .int a2), (3, .int a3)] [] (zmk I J X) = zseg (zE xs L (d + 5) 195) (zC 195) 618 (zB195_1.drop 62) [(5, .int b0), (4, .int a4), (0, .ref 61), (1, .int a1), (2, .int a2), (3, .int a3)] [] (zmk (zup I 102 5 (I 67 a4.toNatClampNeg)) J X) := by
  refine (if_pos h1).trans ?_
  first
    | (refine (if_pos (show zix 0 8 0 (5 : Int32) by decide)).trans ?_
       rfl)
    | rfl
theorem T195_c6 (xs : Nat → Int32) (L d : Nat) (I : Nat → Nat → Int32) (J : Nat → Nat → Int64) (X : XH) (a4 a1 a2 a3 b0 : Int32) (h1 : zix 0 8000 0 a2) : zseg (zE xs L (d + 5) 195) (zC 195) 618 (zB195_1.drop 62) [(5, .int b0), (4, .int a4), (0, .ref 61), (1, .int a1), (2, .int a2), (3, .int a3)] [] (zmk I J X) = zseg (zE xs L (d + 5) 195) (zC 195) 610 (zB195_1.drop 70) [(5, .int b0), (4, .int a4), (0, .ref 61), (1, .int a1), (2, .int a2), (3, .int a3)] [] (zmk (zup I 102 6 (I 116 a2.toNatClampNeg)) J X) := by
  refine (if_pos h1).trans ?_
  first
    | (refine (if_pos (show zix 0 8 0 (6 : Int32) by decide)).trans ?_
       rfl)
    | rfl
theorem T195_e (xs : Nat → Int32) (L d : Nat) (I : Nat → Nat → Int32) (J : Nat → Nat → Int64) (X : XH) (a4 a1 a2 a3 b0 : Int32) (h1 : zix 0 8000 0 a2) (c : ¬ I 114 a2.toNatClampNeg = (-1 : Int32)) : zseg (zE xs L (d + 5) 195) (zC 195) 610 (zB195_1.drop 70) [(5, .int b0), (4, .int a4), (0, .ref 61), (1, .int a1), (2, .int a2), (3, .int a3)] [] (zmk I J X) = some (.inl (5, [(0, .ref 61), (1, .int a1), (2, .int a2), (3, .int a3), (4, .int a4), (5, .int b0), (6, .int (-1 : Int32)), (7, .int (0 : Int32))], zmk (zup I 102 7 (0 : Int32)) J X)) := by
  refine (if_pos h1).trans ?_
  refine (zb_pos c).trans ?_
  first
    | (refine (if_pos (show zix 0 8 0 (7 : Int32) by decide)).trans ?_
       rfl)
    | rfl
theorem T195_g (xs : Nat → Int32) (L d : Nat) (I : Nat → Nat → Int32) (J : Nat → Nat → Int64) (X : XH) (a4 a1 a2 a3 b0 : Int32) (h1 : zix 0 8000 0 a2) (c : I 114 a2.toNatClampNeg = (-1 : Int32)) : zseg (zE xs L (d + 5) 195) (zC 195) 610 (zB195_1.drop 70) [(5, .int b0), (4, .int a4), (0, .ref 61), (1, .int a1), (2, .int a2), (3, .int a3)] [] (zmk I J X) = some (.inl (5, [(0, .ref 61), (1, .int a1), (2, .int a2), (3, .int a3), (4, .int a4), (5, .int b0), (6, .int (-1 : Int32)), (7, .int (0 : Int32))], zmk (zup I 102 7 (1 : Int32)) J X)) := by
  refine (if_pos h1).trans ?_
  refine (zb_neg (fun z => z c)).trans ?_
  first
    | (refine (if_pos (show zix 0 8 0 (7 : Int32) by decide)).trans ?_
       rfl)
    | rfl
theorem S195_5 (xs : Nat → Int32) (L d : Nat) (I : Nat → Nat → Int32) (J : Nat → Nat → Int64) (X : XH) (a1 : Int32) (a2 : Int32) (a3 : Int32) (a4 : Int32) (a5 : Int32) (a6 : Int32) (a7 : Int32) : zseg (zE xs L (d + 5) 195) (zC 195) 700 (zC 195 5) [(0, .ref 61), (1, .int a1), (2, .int a2), (3, .int a3), (4, .int a4), (5, .int a5), (6, .int a6), (7, .int a7)] [] (zmk I J X) = if zix 0 37 0 a5 then
  if decide ((I 95 a5.toNatClampNeg) ≤ a7) = true then
    if decide (¬ a6 = (-1 : Int32)) = true then
      zci (zE xs L (d + 5) 195) (zev xs L (d + 5) 196 [.ref 61, .int a5, .int a6] (zmk I J X)) (fun r h => zseg (zE xs L (d + 5) 195) (zC 195) 685 (zB195_9.drop 6) [(0, .ref 61), (1, .int a1), (2, .int a2), (3, .int a3), (4, .int a4), (5, .int a5), (6, .int a6), (7, .int a7)] [.int r, .int (99999 : Int32), .int (0 : Int32)] h)
      else if zix 0 40 0 a4 then
        some (.inr (.inr (some (.int ((10 : Int32) * (I 66 a4.toNatClampNeg)))), zmk I J X))
        else none
    else if zix 0 592 0 (((16 : Int32) * a5) + a7) then
      if decide (¬ (I 98 ((((16 : Int32) * a5) + a7).toNatClampNeg)) = 0) = true then
        zci (zE xs L (d + 5) 195) (zev xs L (d + 5) 196 [.ref 61, .int a5, .int (((16 : Int32) * a5) + a7)] (zmk I J X)) (fun r h => zseg (zE xs L (d + 5) 195) (zC 195) 679 (zB195_7.drop 4) [(8, .int (((16 : Int32) * a5) + a7)), (0, .ref 61), (1, .int a1), (2, .int a2), (3, .int a3), (4, .int a4), (5, .int a5), (6, .int a6), (7, .int a7)] [.int r] h)
        else some (.inl (5, [(0, .ref 61), (1, .int a1), (2, .int a2), (3, .int a3), (4, .int a4), (5, .int a5), (6, .int (((16 : Int32) * a5) + a7)), (7, .int (a7 + (1 : Int32)))], zmk I J X))
      else none
  else none := by
  refine zite_congr ?_ ?_
  · refine zite_congr ?_ ?_
    · refine zite_congr ?_ ?_
      · rfl
      · refine zite_congr ?_ ?_
        · rfl
        · rfl
    · refine zite_congr ?_ ?_
      · refine zite_congr ?_ ?_
        · rfl
        · rfl
      · rfl
  · rfl
theorem T195_9_6_685 (xs : Nat → Int32) (L d : Nat) (I : Nat → Nat → Int32) (J : Nat → Nat → Int64) (X : XH) (a1 : Int32) (a2 : Int32) (a3 : Int32) (a4 : Int32) (a5 : Int32) (a6 : Int32) (a7 : Int32) (b0 : Int32) (b1 : Int32) (b2 : Int32) : zseg (zE xs L (d + 5) 195) (zC 195) 685 (zB195_9.drop 6) [(0, .ref 61), (1, .int a1), (2, .int a2), (3, .int a3), (4, .int a4), (5, .int a5), (6, .int a6), (7, .int a7)] [.int b2, .int b1, .int b0] (zmk I J X) = some (.inr (.inr (some (.int (zmx b0 (zmn b1 b2)))), zmk I J X)) := by
  rfl
theorem T195_7_4_679 (xs : Nat → Int32) (L d : Nat) (I : Nat → Nat → Int32) (J : Nat → Nat → Int64) (X : XH) (a8 : Int32) (a1 : Int32) (a2 : Int32) (a3 : Int32) (a4 : Int32) (a5 : Int32) (a6 : Int32) (a7 : Int32) (b0 : Int32) : zseg (zE xs L (d + 5) 195) (zC 195) 679 (zB195_7.drop 4) [(8, .int a8), (0, .ref 61), (1, .int a1), (2, .int a2), (3, .int a3), (4, .int a4), (5, .int a5), (6, .int a6), (7, .int a7)] [.int b0] (zmk I J X) = if decide (b0 = 0) = true then
  some (.inl (5, [(0, .ref 61), (1, .int a1), (2, .int a2), (3, .int a3), (4, .int a4), (5, .int a5), (6, .int a6), (7, .int (a7 + (1 : Int32)))], zmk I J X))
  else some (.inr (.inr (some (.int (0 : Int32))), zmk I J X)) := by
  refine zite_congr ?_ ?_
  · rfl
  · rfl
/-! 196 TollTagsModel.worked (II)I -/
theorem S196_0 (xs : Nat → Int32) (L d : Nat) (I : Nat → Nat → Int32) (J : Nat → Nat → Int64) (X : XH) (a1 : Int32) (a2 : Int32) : zseg (zE xs L (d + 5) 196) (zC 196) 700 (zC 196 0) [(0, .ref 61), (1, .int a1), (2, .int a2)] [] (zmk I J X) = if zix 0 592 0 a2 then
  some (.inl (2, [(0, .ref 61), (1, .int a1), (2, .int a2), (3, .int (0 : Int32)), (4, .int (((640 : Int32) * a1) + (I 99 a2.toNatClampNeg)))], zmk I J X))
  else none := by
  refine zite_congr ?_ ?_
  · rfl
  · rfl
/-! S196_2: by hand, later -/
theorem T196_7_18_659 (xs : Nat → Int32) (L d : Nat) (I : Nat → Nat → Int32) (J : Nat → Nat → Int64) (X : XH) (a3 : Int32) (a5 : Int32) (a1 : Int32) (a2 : Int32) (a4 : Int32) (b1 : Int32) (b2 : Int32) : zseg (zE xs L (d + 5) 196) (zC 196) 659 (zB196_7.drop 18) [(3, .int a3), (5, .int a5), (0, .ref 61), (1, .int a1), (2, .int a2), (4, .int a4)] [.int b2, .int b1, .ref 103] (zmk I J X) = if zix 0 200 0 b1 then
  some (.inl (2, [(0, .ref 61), (1, .int a1), (2, .int a2), (3, .int a3), (4, .int (a4 + (1 : Int32)))], zmk (zup I 103 b1.toNatClampNeg b2) J X))
  else none := by
  refine zite_congr ?_ ?_
  · rfl
  · rfl
/-! 197 TollTagsModel.two (III)I -/
theorem S197_0 (xs : Nat → Int32) (L d : Nat) (I : Nat → Nat → Int32) (J : Nat → Nat → Int64) (X : XH) (a0 : Int32) (a1 : Int32) (a2 : Int32) : zseg (zE xs L (d + 5) 197) (zC 197) 700 (zC 197 0) [(0, .int a0), (1, .int a1), (2, .int a2)] [] (zmk I J X) = if a0 = 1 then
  some (.inr (.inr (some (.int (a1 + a2))), zmk I J X))
  else if a0 = 2 then
  some (.inr (.inr (some (.int (a1 - a2))), zmk I J X))
  else if a0 = 3 then
  some (.inr (.inr (some (.int (a1 * a2))), zmk I J X))
  else if a0 = 4 then
  if decide (¬ a2 = 0) = true then
    if a2 = 0 then
      none
      else some (.inr (.inr (some (.int (a1 / a2))), zmk I J X))
    else some (.inr (.inr (some (.int (0 : Int32))), zmk I J X))
  else if a0 = 5 then
  if decide (a2 ≤ a1) = true then
    some (.inr (.inr (some (.int (0 : Int32))), zmk I J X))
    else some (.inr (.inr (some (.int (1 : Int32))), zmk I J X))
  else if a0 = 6 then
  if decide (¬ a1 = a2) = true then
    some (.inr (.inr (some (.int (0 : Int32))), zmk I J X))
    else some (.inr (.inr (some (.int (1 : Int32))), zmk I J X))
  else if a0 = 7 then
  if decide (a1 = 0) = true then
    some (.inr (.inr (some (.int (0 : Int32))), zmk I J X))
    else if decide (a2 = 0) = true then
      some (.inr (.inr (some (.int (0 : Int32))), zmk I J X))
      else some (.inr (.inr (some (.int (1 : Int32))), zmk I J X))
  else if decide (¬ a1 = 0) = true then
    some (.inr (.inr (some (.int (1 : Int32))), zmk I J X))
    else if decide (a2 = 0) = true then
      some (.inr (.inr (some (.int (0 : Int32))), zmk I J X))
      else some (.inr (.inr (some (.int (1 : Int32))), zmk I J X)) := by
  refine zite_congr ?_ ?_
  · rfl
  · refine zite_congr ?_ ?_
    · rfl
    · refine zite_congr ?_ ?_
      · rfl
      · refine zite_congr ?_ ?_
        · refine zite_congr ?_ ?_
          · refine zite_congr ?_ ?_
            · rfl
            · rfl
          · rfl
        · refine zite_congr ?_ ?_
          · refine zite_congr ?_ ?_
            · rfl
            · rfl
          · refine zite_congr ?_ ?_
            · refine zite_congr ?_ ?_
              · rfl
              · rfl
            · refine zite_congr ?_ ?_
              · refine zite_congr ?_ ?_
                · rfl
                · refine zite_congr ?_ ?_
                  · rfl
                  · rfl
              · refine zite_congr ?_ ?_
                · rfl
                · refine zite_congr ?_ ?_
                  · rfl
                  · rfl
/-! 198 TollTagsModel.passage (IIII)I -/
theorem S198_0 (xs : Nat → Int32) (L d : Nat) (I : Nat → Nat → Int32) (J : Nat → Nat → Int64) (X : XH) (a1 : Int32) (a2 : Int32) (a3 : Int32) (a4 : Int32) : zseg (zE xs L (d + 5) 198) (zC 198) 700 (zC 198 0) [(0, .ref 61), (1, .int a1), (2, .int a2), (3, .int a3), (4, .int a4)] [] (zmk I J X) = if decide ((zbi (¬ a1 < 0 ∧ ¬ I 61 7 ≤ a1)) = 0) = true then
  some (.inr (.inr (some (.int (0 : Int32))), zmk (zup (zup I 61 1 (0 : Int32)) 61 1 (1 : Int32)) J X))
  else if decide (a3 < 0) = true then
    some (.inr (.inr (some (.int (0 : Int32))), zmk (zup (zup I 61 1 (0 : Int32)) 61 1 (1 : Int32)) J X))
    else if decide (a3 ≤ (6 : Int32)) = true then
      if decide (¬ (zbi (¬ a4 < 0 ∧ ¬ I 61 2 < a4)) = 0) = true then
        zcw (zE xs L (d + 5) 198) (zev xs L (d + 5) 184 [.ref 61, .int a4] (zmk (zup I 61 1 (0 : Int32)) J X)) (fun h => zseg (zE xs L (d + 5) 198) (zC 198) 681 (zB198_3.drop 3) [(0, .ref 61), (1, .int a1), (2, .int a2), (3, .int a3), (4, .int a4)] [] h)
        else some (.inr (.inr (some (.int (0 : Int32))), zmk (zup (zup I 61 1 (0 : Int32)) 61 1 (2 : Int32)) J X))
      else some (.inr (.inr (some (.int (0 : Int32))), zmk (zup (zup I 61 1 (0 : Int32)) 61 1 (1 : Int32)) J X)) := by
  refine zite_congr ?_ ?_
  · rfl
  · refine zite_congr ?_ ?_
    · rfl
    · refine zite_congr ?_ ?_
      · refine zite_congr ?_ ?_
        · rfl
        · rfl
      · rfl
theorem T198_3_3_681 (xs : Nat → Int32) (L d : Nat) (I : Nat → Nat → Int32) (J : Nat → Nat → Int64) (X : XH) (a1 : Int32) (a2 : Int32) (a3 : Int32) (a4 : Int32) : zseg (zE xs L (d + 5) 198) (zC 198) 681 (zB198_3.drop 3) [(0, .ref 61), (1, .int a1), (2, .int a2), (3, .int a3), (4, .int a4)] [] (zmk I J X) = zcw (zE xs L (d + 5) 198) (zev xs L (d + 5) 189 [.ref 61, .int a1, .int a4] (zmk I J X)) (fun h => zseg (zE xs L (d + 5) 198) (zC 198) 677 (zB198_3.drop 7) [(0, .ref 61), (1, .int a1), (2, .int a2), (3, .int a3), (4, .int a4)] [] h) := by
  rfl
theorem T198_3_7_677 (xs : Nat → Int32) (L d : Nat) (I : Nat → Nat → Int32) (J : Nat → Nat → Int64) (X : XH) (a1 : Int32) (a2 : Int32) (a3 : Int32) (a4 : Int32) : zseg (zE xs L (d + 5) 198) (zC 198) 677 (zB198_3.drop 7) [(0, .ref 61), (1, .int a1), (2, .int a2), (3, .int a3), (4, .int a4)] [] (zmk I J X) = if decide (a2 < 0) = true then
  some (.inr (.inr (some (.int (0 : Int32))), zmk (zup I 61 1 (1 : Int32)) J X))
  else if decide (a2 < (I 61 76)) = true then
    if a3 = 0 then
      if zix 0 8000 0 a2 then
        some (.inr (.inr (some (.int (I 112 a2.toNatClampNeg))), zmk I J X))
        else none
      else if a3 = 1 then
      if zix 0 8000 0 a2 then
        some (.inr (.inr (some (.int (I 113 a2.toNatClampNeg))), zmk I J X))
        else none
      else if a3 = 2 then
      if zix 0 8000 0 a2 then
        some (.inr (.inr (some (.int (I 115 a2.toNatClampNeg))), zmk I J X))
        else none
      else if a3 = 3 then
      if zix 0 8000 0 a2 then
        some (.inr (.inr (some (.int (I 114 a2.toNatClampNeg))), zmk I J X))
        else none
      else if a3 = 4 then
      if zix 1 8000 1 a2 then
        if decide ((I 118 a2.toNatClampNeg) = 0) = true then
          some (.inr (.inr (some (.int (0 : Int32))), zmk I J X))
          else some (.inr (.inr (some (.int (1 : Int32))), zmk I J X))
        else none
      else if a3 = 5 then
      if zix 0 8000 0 a2 then
        some (.inr (.inr (some (.int (I 116 a2.toNatClampNeg))), zmk I J X))
        else none
      else if zix 0 8000 0 a2 then
        zci (zE xs L (d + 5) 198) (zev xs L (d + 5) 199 [.ref 61, .int a1, .int (I 113 a2.toNatClampNeg), .int a4] (zmk I J X)) (fun r h => zseg (zE xs L (d + 5) 198) (zC 198) 661 (zB198_12.drop 8) [(0, .ref 61), (1, .int a1), (2, .int a2), (3, .int a3), (4, .int a4)] [.int r] h)
        else none
    else some (.inr (.inr (some (.int (0 : Int32))), zmk (zup I 61 1 (1 : Int32)) J X)) := by
  refine zite_congr ?_ ?_
  · rfl
  · refine zite_congr ?_ ?_
    · refine zite_congr ?_ ?_
      · refine zite_congr ?_ ?_
        · rfl
        · rfl
      · refine zite_congr ?_ ?_
        · refine zite_congr ?_ ?_
          · rfl
          · rfl
        · refine zite_congr ?_ ?_
          · refine zite_congr ?_ ?_
            · rfl
            · rfl
          · refine zite_congr ?_ ?_
            · refine zite_congr ?_ ?_
              · rfl
              · rfl
            · refine zite_congr ?_ ?_
              · refine zite_congr ?_ ?_
                · refine zite_congr ?_ ?_
                  · rfl
                  · rfl
                · rfl
              · refine zite_congr ?_ ?_
                · refine zite_congr ?_ ?_
                  · rfl
                  · rfl
                · refine zite_congr ?_ ?_
                  · rfl
                  · rfl
    · rfl
theorem T198_12_8_661 (xs : Nat → Int32) (L d : Nat) (I : Nat → Nat → Int32) (J : Nat → Nat → Int64) (X : XH) (a1 : Int32) (a2 : Int32) (a3 : Int32) (a4 : Int32) (b0 : Int32) : zseg (zE xs L (d + 5) 198) (zC 198) 661 (zB198_12.drop 8) [(0, .ref 61), (1, .int a1), (2, .int a2), (3, .int a3), (4, .int a4)] [.int b0] (zmk I J X) = if decide (b0 = 0) = true then
  some (.inr (.inr (some (.int (0 : Int32))), zmk I J X))
  else some (.inr (.inr (some (.int (1 : Int32))), zmk I J X)) := by
  refine zite_congr ?_ ?_
  · rfl
  · rfl
/-! 199 TollTagsModel.isBlack (III)Z -/
theorem S199_0 (xs : Nat → Int32) (L d : Nat) (I : Nat → Nat → Int32) (J : Nat → Nat → Int64) (X : XH) (a1 : Int32) (a2 : Int32) (a3 : Int32) : zseg (zE xs L (d + 5) 199) (zC 199) 700 (zC 199 0) [(0, .ref 61), (1, .int a1), (2, .int a2), (3, .int a3)] [] (zmk I J X) = some (.inl (2, [(0, .ref 61), (1, .int a1), (2, .int a2), (3, .int a3), (4, .int (0 : Int32)), (5, .int (0 : Int32))], zmk I J X)) := by
  rfl
theorem S199_2 (xs : Nat → Int32) (L d : Nat) (I : Nat → Nat → Int32) (J : Nat → Nat → Int64) (X : XH) (a1 : Int32) (a2 : Int32) (a3 : Int32) (a4 : Int32) (a5 : Int32) : zseg (zE xs L (d + 5) 199) (zC 199) 700 (zC 199 2) [(0, .ref 61), (1, .int a1), (2, .int a2), (3, .int a3), (4, .int a4), (5, .int a5)] [] (zmk I J X) = if decide ((I 61 22) ≤ a5) = true then
  if a4 = 0 ∨ a4 = 1 then
    some (.inr (.inr (some (.int a4)), zmk I J X))
    else none
  else if zix 0 60 0 a5 then
    if decide (¬ (I 84 a5.toNatClampNeg) = a1) = true then
      some (.inl (2, [(0, .ref 61), (1, .int a1), (2, .int a2), (3, .int a3), (4, .int a4), (5, .int (a5 + (1 : Int32)))], zmk I J X))
      else if zix 0 60 0 a5 then
        if decide (a3 < (I 86 a5.toNatClampNeg)) = true then
          some (.inl (2, [(0, .ref 61), (1, .int a1), (2, .int a2), (3, .int a3), (4, .int a4), (5, .int (a5 + (1 : Int32)))], zmk I J X))
          else if zix 0 60 0 a5 then
            if decide (a2 < (I 85 a5.toNatClampNeg)) = true then
              some (.inl (2, [(0, .ref 61), (1, .int a1), (2, .int a2), (3, .int a3), (4, .int a4), (5, .int (a5 + (1 : Int32)))], zmk I J X))
              else if zix 1 60 1 a5 then
                some (.inl (2, [(0, .ref 61), (1, .int a1), (2, .int a2), (3, .int a3), (4, .int (I 91 a5.toNatClampNeg)), (5, .int (a5 + (1 : Int32)))], zmk I J X))
                else none
            else none
        else none
    else none := by
  refine zite_congr ?_ ?_
  · refine zite_congr ?_ ?_
    · rfl
    · rfl
  · refine zite_congr ?_ ?_
    · refine zite_congr ?_ ?_
      · rfl
      · refine zite_congr ?_ ?_
        · refine zite_congr ?_ ?_
          · rfl
          · refine zite_congr ?_ ?_
            · refine zite_congr ?_ ?_
              · rfl
              · refine zite_congr ?_ ?_
                · rfl
                · rfl
            · rfl
        · rfl
    · rfl
/-! 200 TollTagsModel.due (IIII)J -/
theorem S200_0 (xs : Nat → Int32) (L d : Nat) (I : Nat → Nat → Int32) (J : Nat → Nat → Int64) (X : XH) (a1 : Int32) (a2 : Int32) (a3 : Int32) (a4 : Int32) : zseg (zE xs L (d + 5) 200) (zC 200) 700 (zC 200 0) [(0, .ref 61), (1, .int a1), (2, .int a2), (3, .int a3), (4, .int a4)] [] (zmk I J X) = if decide (a1 < 0) = true then
  some (.inr (.inr (some (.long ((0 : Int32).toInt64))), zmk (zup (zup I 61 1 (0 : Int32)) 61 1 (1 : Int32)) J X))
  else if decide ((I 61 5) ≤ a1) = true then
    some (.inr (.inr (some (.long ((0 : Int32).toInt64))), zmk (zup (zup I 61 1 (0 : Int32)) 61 1 (1 : Int32)) J X))
    else if decide ((zbi (¬ a2 < 0 ∧ ¬ I 61 3 ≤ a2)) = 0) = true then
      some (.inr (.inr (some (.long ((0 : Int32).toInt64))), zmk (zup (zup I 61 1 (0 : Int32)) 61 1 (1 : Int32)) J X))
      else if decide (a3 < 0) = true then
        some (.inr (.inr (some (.long ((0 : Int32).toInt64))), zmk (zup (zup I 61 1 (0 : Int32)) 61 1 (1 : Int32)) J X))
        else if decide (a3 < (3 : Int32)) = true then
          if decide (¬ (zbi (¬ a4 < 0 ∧ ¬ I 61 2 < a4)) = 0) = true then
            zcw (zE xs L (d + 5) 200) (zev xs L (d + 5) 184 [.ref 61, .int a4] (zmk (zup I 61 1 (0 : Int32)) J X)) (fun h => zseg (zE xs L (d + 5) 200) (zC 200) 675 (zB200_3.drop 3) [(0, .ref 61), (1, .int a1), (2, .int a2), (3, .int a3), (4, .int a4)] [] h)
            else some (.inr (.inr (some (.long ((0 : Int32).toInt64))), zmk (zup (zup I 61 1 (0 : Int32)) 61 1 (2 : Int32)) J X))
          else some (.inr (.inr (some (.long ((0 : Int32).toInt64))), zmk (zup (zup I 61 1 (0 : Int32)) 61 1 (1 : Int32)) J X)) := by
  refine zite_congr ?_ ?_
  · rfl
  · refine zite_congr ?_ ?_
    · rfl
    · refine zite_congr ?_ ?_
      · rfl
      · refine zite_congr ?_ ?_
        · rfl
        · refine zite_congr ?_ ?_
          · refine zite_congr ?_ ?_
            · rfl
            · rfl
          · rfl
theorem T200_3_3_675 (xs : Nat → Int32) (L d : Nat) (I : Nat → Nat → Int32) (J : Nat → Nat → Int64) (X : XH) (a1 : Int32) (a2 : Int32) (a3 : Int32) (a4 : Int32) : zseg (zE xs L (d + 5) 200) (zC 200) 675 (zB200_3.drop 3) [(0, .ref 61), (1, .int a1), (2, .int a2), (3, .int a3), (4, .int a4)] [] (zmk I J X) = zcl (zE xs L (d + 5) 200) (zev xs L (d + 5) 201 [.ref 61, .int a1, .int a2, .int a3, .int a4] (zmk I J X)) (fun r h => zseg (zE xs L (d + 5) 200) (zC 200) 669 (zB200_3.drop 9) [(0, .ref 61), (1, .int a1), (2, .int a2), (3, .int a3), (4, .int a4)] [.long r] h) := by
  rfl
theorem T200_3_9_669 (xs : Nat → Int32) (L d : Nat) (I : Nat → Nat → Int32) (J : Nat → Nat → Int64) (X : XH) (a1 : Int32) (a2 : Int32) (a3 : Int32) (a4 : Int32) (b0 : Int64) : zseg (zE xs L (d + 5) 200) (zC 200) 669 (zB200_3.drop 9) [(0, .ref 61), (1, .int a1), (2, .int a2), (3, .int a3), (4, .int a4)] [.long b0] (zmk I J X) = some (.inr (.inr (some (.long b0)), zmk I J X)) := by
  rfl
/-! 201 TollTagsModel.dueOf (IIII)J -/
theorem S201_0 (xs : Nat → Int32) (L d : Nat) (I : Nat → Nat → Int32) (J : Nat → Nat → Int64) (X : XH) (a1 : Int32) (a2 : Int32) (a3 : Int32) (a4 : Int32) : zseg (zE xs L (d + 5) 201) (zC 201) 700 (zC 201 0) [(0, .ref 61), (1, .int a1), (2, .int a2), (3, .int a3), (4, .int a4)] [] (zmk I J X) = some (.inl (2, [(0, .ref 61), (1, .int a1), (2, .int a2), (3, .int a3), (4, .int a4), (5, .long (Int64.ofNat 0)), (7, .int (0 : Int32))], zmk I J X)) := by
  rfl
theorem S201_2 (xs : Nat → Int32) (L d : Nat) (I : Nat → Nat → Int32) (J : Nat → Nat → Int64) (X : XH) (a1 : Int32) (a2 : Int32) (a3 : Int32) (a4 : Int32) (a5 : Int64) (a7 : Int32) : zseg (zE xs L (d + 5) 201) (zC 201) 700 (zC 201 2) [(0, .ref 61), (1, .int a1), (2, .int a2), (3, .int a3), (4, .int a4), (5, .long a5), (7, .int a7)] [] (zmk I J X) = if decide ((I 61 7) ≤ a7) = true then
  zcl (zE xs L (d + 5) 201) (zev xs L (d + 5) 203 [.ref 61, .int a2, .int a3, .int a4] (zmk I J X)) (fun r h => zseg (zE xs L (d + 5) 201) (zC 201) 690 (zB201_3.drop 6) [(0, .ref 61), (1, .int a1), (2, .int a2), (3, .int a3), (4, .int a4), (5, .long a5), (7, .int a7)] [.long r, .long a5] h)
  else if zix 0 24 0 a7 then
    if decide ((I 72 a7.toNatClampNeg) = a1) = true then
      zcw (zE xs L (d + 5) 201) (zev xs L (d + 5) 189 [.ref 61, .int a7, .int a4] (zmk I J X)) (fun h => zseg (zE xs L (d + 5) 201) (zC 201) 686 (zB201_4.drop 4) [(0, .ref 61), (1, .int a1), (2, .int a2), (3, .int a3), (4, .int a4), (5, .long a5), (7, .int a7)] [] h)
      else some (.inl (2, [(0, .ref 61), (1, .int a1), (2, .int a2), (3, .int a3), (4, .int a4), (5, .long a5), (7, .int (a7 + (1 : Int32)))], zmk I J X))
    else none := by
  refine zite_congr ?_ ?_
  · rfl
  · refine zite_congr ?_ ?_
    · refine zite_congr ?_ ?_
      · rfl
      · rfl
    · rfl
theorem T201_3_6_690 (xs : Nat → Int32) (L d : Nat) (I : Nat → Nat → Int32) (J : Nat → Nat → Int64) (X : XH) (a1 : Int32) (a2 : Int32) (a3 : Int32) (a4 : Int32) (a5 : Int64) (a7 : Int32) (b0 : Int64) (b1 : Int64) : zseg (zE xs L (d + 5) 201) (zC 201) 690 (zB201_3.drop 6) [(0, .ref 61), (1, .int a1), (2, .int a2), (3, .int a3), (4, .int a4), (5, .long a5), (7, .int a7)] [.long b1, .long b0] (zmk I J X) = some (.inr (.inr (some (.long ((b0 * b1) / (Int64.ofNat 1000)))), zmk I J X)) := by
  rfl
theorem T201_4_4_686 (xs : Nat → Int32) (L d : Nat) (I : Nat → Nat → Int32) (J : Nat → Nat → Int64) (X : XH) (a1 : Int32) (a2 : Int32) (a3 : Int32) (a4 : Int32) (a5 : Int64) (a7 : Int32) : zseg (zE xs L (d + 5) 201) (zC 201) 686 (zB201_4.drop 4) [(0, .ref 61), (1, .int a1), (2, .int a2), (3, .int a3), (4, .int a4), (5, .long a5), (7, .int a7)] [] (zmk I J X) = zcl (zE xs L (d + 5) 201) (zev xs L (d + 5) 202 [.ref 61, .int a7, .int a2, .int a3, .int a4, .int (0 : Int32)] (zmk I J X)) (fun r h => zseg (zE xs L (d + 5) 201) (zC 201) 678 (zB201_4.drop 12) [(0, .ref 61), (1, .int a1), (2, .int a2), (3, .int a3), (4, .int a4), (5, .long a5), (7, .int a7)] [.long r, .long a5] h) := by
  rfl
theorem T201_4_12_678 (xs : Nat → Int32) (L d : Nat) (I : Nat → Nat → Int32) (J : Nat → Nat → Int64) (X : XH) (a1 : Int32) (a2 : Int32) (a3 : Int32) (a4 : Int32) (a5 : Int64) (a7 : Int32) (b0 : Int64) (b1 : Int64) : zseg (zE xs L (d + 5) 201) (zC 201) 678 (zB201_4.drop 12) [(0, .ref 61), (1, .int a1), (2, .int a2), (3, .int a3), (4, .int a4), (5, .long a5), (7, .int a7)] [.long b1, .long b0] (zmk I J X) = some (.inl (2, [(0, .ref 61), (1, .int a1), (2, .int a2), (3, .int a3), (4, .int a4), (5, .long (b0 + b1)), (7, .int (a7 + (1 : Int32)))], zmk I J X)) := by
  rfl
/-! 202 TollTagsModel.chargesIn (IIIIZ)J -/
theorem S202_0 (xs : Nat → Int32) (L d : Nat) (I : Nat → Nat → Int32) (J : Nat → Nat → Int64) (X : XH) (a1 : Int32) (a2 : Int32) (a3 : Int32) (a4 : Int32) (a5 : Int32) : zseg (zE xs L (d + 5) 202) (zC 202) 700 (zC 202 0) [(0, .ref 61), (1, .int a1), (2, .int a2), (3, .int a3), (4, .int a4), (5, .int a5)] [] (zmk I J X) = some (.inl (2, [(0, .ref 61), (1, .int a1), (2, .int a2), (3, .int a3), (4, .int a4), (5, .int a5), (6, .long (Int64.ofNat 0)), (8, .int (0 : Int32))], zmk I J X)) := by
  rfl
theorem S202_2 (xs : Nat → Int32) (L d : Nat) (I : Nat → Nat → Int32) (J : Nat → Nat → Int64) (X : XH) (a1 : Int32) (a2 : Int32) (a3 : Int32) (a4 : Int32) (a5 : Int32) (a6 : Int64) (a8 : Int32) : zseg (zE xs L (d + 5) 202) (zC 202) 700 (zC 202 2) [(0, .ref 61), (1, .int a1), (2, .int a2), (3, .int a3), (4, .int a4), (5, .int a5), (6, .long a6), (8, .int a8)] [] (zmk I J X) = if decide ((I 61 76) ≤ a8) = true then
  some (.inr (.inr (some (.long a6)), zmk I J X))
  else if zix 0 8000 0 a8 then
    if zix 0 40 0 (I 112 a8.toNatClampNeg) then
      if decide (¬ (I 65 ((I 112 a8.toNatClampNeg).toNatClampNeg)) = a2) = true then
        some (.inl (2, [(0, .ref 61), (1, .int a1), (2, .int a2), (3, .int a3), (4, .int a4), (5, .int a5), (6, .long a6), (8, .int (a8 + (1 : Int32)))], zmk I J X))
        else if zix 0 8000 0 a8 then
          if decide (¬ ((I 113 a8.toNatClampNeg) / (43200 : Int32)) = a3) = true then
            some (.inl (2, [(0, .ref 61), (1, .int a1), (2, .int a2), (3, .int a3), (4, .int a4), (5, .int a5), (6, .long a6), (8, .int (a8 + (1 : Int32)))], zmk I J X))
            else if zix 0 8000 0 a8 then
              zci (zE xs L (d + 5) 202) (zev xs L (d + 5) 199 [.ref 61, .int a1, .int (I 113 a8.toNatClampNeg), .int a4] (zmk I J X)) (fun r h => zseg (zE xs L (d + 5) 202) (zC 202) 671 (zB202_2.drop 29) [(0, .ref 61), (1, .int a1), (2, .int a2), (3, .int a3), (4, .int a4), (5, .int a5), (6, .long a6), (8, .int a8)] [.int r] h)
              else none
          else none
      else none
    else none := by
  refine zite_congr ?_ ?_
  · rfl
  · refine zite_congr ?_ ?_
    · refine zite_congr ?_ ?_
      · refine zite_congr ?_ ?_
        · rfl
        · refine zite_congr ?_ ?_
          · refine zite_congr ?_ ?_
            · rfl
            · refine zite_congr ?_ ?_
              · rfl
              · rfl
          · rfl
      · rfl
    · rfl
theorem T202_2_29_671 (xs : Nat → Int32) (L d : Nat) (I : Nat → Nat → Int32) (J : Nat → Nat → Int64) (X : XH) (a1 : Int32) (a2 : Int32) (a3 : Int32) (a4 : Int32) (a5 : Int32) (a6 : Int64) (a8 : Int32) (b0 : Int32) : zseg (zE xs L (d + 5) 202) (zC 202) 671 (zB202_2.drop 29) [(0, .ref 61), (1, .int a1), (2, .int a2), (3, .int a3), (4, .int a4), (5, .int a5), (6, .long a6), (8, .int a8)] [.int b0] (zmk I J X) = if decide (¬ b0 = a5) = true then
  some (.inl (2, [(0, .ref 61), (1, .int a1), (2, .int a2), (3, .int a3), (4, .int a4), (5, .int a5), (6, .long a6), (8, .int (a8 + (1 : Int32)))], zmk I J X))
  else if zix 0 8000 0 a8 then
    some (.inl (2, [(0, .ref 61), (1, .int a1), (2, .int a2), (3, .int a3), (4, .int a4), (5, .int a5), (6, .long (a6 + ((I 115 a8.toNatClampNeg).toInt64))), (8, .int (a8 + (1 : Int32)))], zmk I J X))
    else none := by
  refine zite_congr ?_ ?_
  · rfl
  · refine zite_congr ?_ ?_
    · rfl
    · rfl
/-! 203 TollTagsModel.rateOf (III)J -/
theorem S203_0 (xs : Nat → Int32) (L d : Nat) (I : Nat → Nat → Int32) (J : Nat → Nat → Int64) (X : XH) (a1 : Int32) (a2 : Int32) (a3 : Int32) : zseg (zE xs L (d + 5) 203) (zC 203) 700 (zC 203 0) [(0, .ref 61), (1, .int a1), (2, .int a2), (3, .int a3)] [] (zmk I J X) = some (.inl (2, [(0, .ref 61), (1, .int a1), (2, .int a2), (3, .int a3), (4, .long (Int64.ofNat 1000)), (6, .int (0 : Int32))], zmk I J X)) := by
  rfl
theorem S203_2 (xs : Nat → Int32) (L d : Nat) (I : Nat → Nat → Int32) (J : Nat → Nat → Int64) (X : XH) (a1 : Int32) (a2 : Int32) (a3 : Int32) (a4 : Int64) (a6 : Int32) : zseg (zE xs L (d + 5) 203) (zC 203) 700 (zC 203 2) [(0, .ref 61), (1, .int a1), (2, .int a2), (3, .int a3), (4, .long a4), (6, .int a6)] [] (zmk I J X) = if decide ((I 61 23) ≤ a6) = true then
  some (.inr (.inr (some (.long a4)), zmk I J X))
  else if zix 0 60 0 a6 then
    if decide (¬ (I 87 a6.toNatClampNeg) = a1) = true then
      some (.inl (2, [(0, .ref 61), (1, .int a1), (2, .int a2), (3, .int a3), (4, .long a4), (6, .int (a6 + (1 : Int32)))], zmk I J X))
      else if zix 0 60 0 a6 then
        if decide (¬ (I 88 a6.toNatClampNeg) = a2) = true then
          some (.inl (2, [(0, .ref 61), (1, .int a1), (2, .int a2), (3, .int a3), (4, .long a4), (6, .int (a6 + (1 : Int32)))], zmk I J X))
          else if zix 0 60 0 a6 then
            if decide (a3 < (I 90 a6.toNatClampNeg)) = true then
              some (.inl (2, [(0, .ref 61), (1, .int a1), (2, .int a2), (3, .int a3), (4, .long a4), (6, .int (a6 + (1 : Int32)))], zmk I J X))
              else if zix 0 60 0 a6 then
                some (.inl (2, [(0, .ref 61), (1, .int a1), (2, .int a2), (3, .int a3), (4, .long ((I 89 a6.toNatClampNeg).toInt64)), (6, .int (a6 + (1 : Int32)))], zmk I J X))
                else none
            else none
        else none
    else none := by
  refine zite_congr ?_ ?_
  · rfl
  · refine zite_congr ?_ ?_
    · refine zite_congr ?_ ?_
      · rfl
      · refine zite_congr ?_ ?_
        · refine zite_congr ?_ ?_
          · rfl
          · refine zite_congr ?_ ?_
            · refine zite_congr ?_ ?_
              · rfl
              · refine zite_congr ?_ ?_
                · rfl
                · rfl
            · rfl
        · rfl
    · rfl
/-! 204 TollTagsModel.unpaid (III)I -/
theorem S204_0 (xs : Nat → Int32) (L d : Nat) (I : Nat → Nat → Int32) (J : Nat → Nat → Int64) (X : XH) (a1 : Int32) (a2 : Int32) (a3 : Int32) : zseg (zE xs L (d + 5) 204) (zC 204) 700 (zC 204 0) [(0, .ref 61), (1, .int a1), (2, .int a2), (3, .int a3)] [] (zmk I J X) = if decide ((zbi (¬ a1 < 0 ∧ ¬ I 61 3 ≤ a1)) = 0) = true then
  some (.inr (.inr (some (.int (0 : Int32))), zmk (zup (zup I 61 1 (0 : Int32)) 61 1 (1 : Int32)) J X))
  else if decide (a2 < 0) = true then
    some (.inr (.inr (some (.int (0 : Int32))), zmk (zup (zup I 61 1 (0 : Int32)) 61 1 (1 : Int32)) J X))
    else if decide (a2 < (3 : Int32)) = true then
      if decide (¬ (zbi (¬ a3 < 0 ∧ ¬ I 61 2 < a3)) = 0) = true then
        zcw (zE xs L (d + 5) 204) (zev xs L (d + 5) 184 [.ref 61, .int a3] (zmk (zup I 61 1 (0 : Int32)) J X)) (fun h => zseg (zE xs L (d + 5) 204) (zC 204) 681 (zB204_3.drop 3) [(0, .ref 61), (1, .int a1), (2, .int a2), (3, .int a3)] [] h)
        else some (.inr (.inr (some (.int (0 : Int32))), zmk (zup (zup I 61 1 (0 : Int32)) 61 1 (2 : Int32)) J X))
      else some (.inr (.inr (some (.int (0 : Int32))), zmk (zup (zup I 61 1 (0 : Int32)) 61 1 (1 : Int32)) J X)) := by
  refine zite_congr ?_ ?_
  · rfl
  · refine zite_congr ?_ ?_
    · rfl
    · refine zite_congr ?_ ?_
      · refine zite_congr ?_ ?_
        · rfl
        · rfl
      · rfl
theorem T204_3_3_681 (xs : Nat → Int32) (L d : Nat) (I : Nat → Nat → Int32) (J : Nat → Nat → Int64) (X : XH) (a1 : Int32) (a2 : Int32) (a3 : Int32) : zseg (zE xs L (d + 5) 204) (zC 204) 681 (zB204_3.drop 3) [(0, .ref 61), (1, .int a1), (2, .int a2), (3, .int a3)] [] (zmk I J X) = some (.inl (5, [(0, .ref 61), (1, .int a1), (2, .int a2), (3, .int a3), (4, .long (Int64.ofNat 0)), (6, .int (0 : Int32))], zmk I J X)) := by
  rfl
theorem S204_5 (xs : Nat → Int32) (L d : Nat) (I : Nat → Nat → Int32) (J : Nat → Nat → Int64) (X : XH) (a1 : Int32) (a2 : Int32) (a3 : Int32) (a4 : Int64) (a6 : Int32) : zseg (zE xs L (d + 5) 204) (zC 204) 700 (zC 204 5) [(0, .ref 61), (1, .int a1), (2, .int a2), (3, .int a3), (4, .long a4), (6, .int a6)] [] (zmk I J X) = if decide ((I 61 7) ≤ a6) = true then
  some (.inr (.inr (some (.int a4.toInt32)), zmk I J X))
  else zcw (zE xs L (d + 5) 204) (zev xs L (d + 5) 189 [.ref 61, .int a6, .int a3] (zmk I J X)) (fun h => zseg (zE xs L (d + 5) 204) (zC 204) 692 (zB204_5.drop 8) [(0, .ref 61), (1, .int a1), (2, .int a2), (3, .int a3), (4, .long a4), (6, .int a6)] [] h) := by
  refine zite_congr ?_ ?_
  · rfl
  · rfl
theorem T204_5_8_692 (xs : Nat → Int32) (L d : Nat) (I : Nat → Nat → Int32) (J : Nat → Nat → Int64) (X : XH) (a1 : Int32) (a2 : Int32) (a3 : Int32) (a4 : Int64) (a6 : Int32) : zseg (zE xs L (d + 5) 204) (zC 204) 692 (zB204_5.drop 8) [(0, .ref 61), (1, .int a1), (2, .int a2), (3, .int a3), (4, .long a4), (6, .int a6)] [] (zmk I J X) = zcl (zE xs L (d + 5) 204) (zev xs L (d + 5) 202 [.ref 61, .int a6, .int a1, .int a2, .int a3, .int (1 : Int32)] (zmk I J X)) (fun r h => zseg (zE xs L (d + 5) 204) (zC 204) 684 (zB204_5.drop 16) [(0, .ref 61), (1, .int a1), (2, .int a2), (3, .int a3), (4, .long a4), (6, .int a6)] [.long r, .long a4] h) := by
  rfl
theorem T204_5_16_684 (xs : Nat → Int32) (L d : Nat) (I : Nat → Nat → Int32) (J : Nat → Nat → Int64) (X : XH) (a1 : Int32) (a2 : Int32) (a3 : Int32) (a4 : Int64) (a6 : Int32) (b0 : Int64) (b1 : Int64) : zseg (zE xs L (d + 5) 204) (zC 204) 684 (zB204_5.drop 16) [(0, .ref 61), (1, .int a1), (2, .int a2), (3, .int a3), (4, .long a4), (6, .int a6)] [.long b1, .long b0] (zmk I J X) = some (.inl (5, [(0, .ref 61), (1, .int a1), (2, .int a2), (3, .int a3), (4, .long (b0 + b1)), (6, .int (a6 + (1 : Int32)))], zmk I J X)) := by
  rfl
/-! 205 TollTagsModel.falls (III)J -/
theorem S205_0 (xs : Nat → Int32) (L d : Nat) (I : Nat → Nat → Int32) (J : Nat → Nat → Int64) (X : XH) (a1 : Int32) (a2 : Int32) (a3 : Int32) : zseg (zE xs L (d + 5) 205) (zC 205) 700 (zC 205 0) [(0, .ref 61), (1, .int a1), (2, .int a2), (3, .int a3)] [] (zmk I J X) = if decide (a1 < 0) = true then
  some (.inr (.inr (some (.long ((0 : Int32).toInt64))), zmk (zup (zup I 61 1 (0 : Int32)) 61 1 (1 : Int32)) J X))
  else if decide ((I 61 5) ≤ a1) = true then
    some (.inr (.inr (some (.long ((0 : Int32).toInt64))), zmk (zup (zup I 61 1 (0 : Int32)) 61 1 (1 : Int32)) J X))
    else if decide (¬ (zbi (¬ a2 < 0 ∧ ¬ I 61 3 ≤ a2)) = 0) = true then
      if decide (¬ (zbi (¬ a3 < 0 ∧ ¬ I 61 2 < a3)) = 0) = true then
        zcw (zE xs L (d + 5) 205) (zev xs L (d + 5) 184 [.ref 61, .int a3] (zmk (zup I 61 1 (0 : Int32)) J X)) (fun h => zseg (zE xs L (d + 5) 205) (zC 205) 680 (zB205_3.drop 3) [(0, .ref 61), (1, .int a1), (2, .int a2), (3, .int a3)] [] h)
        else some (.inr (.inr (some (.long ((0 : Int32).toInt64))), zmk (zup (zup I 61 1 (0 : Int32)) 61 1 (2 : Int32)) J X))
      else some (.inr (.inr (some (.long ((0 : Int32).toInt64))), zmk (zup (zup I 61 1 (0 : Int32)) 61 1 (1 : Int32)) J X)) := by
  refine zite_congr ?_ ?_
  · rfl
  · refine zite_congr ?_ ?_
    · rfl
    · refine zite_congr ?_ ?_
      · refine zite_congr ?_ ?_
        · rfl
        · rfl
      · rfl
theorem T205_3_3_680 (xs : Nat → Int32) (L d : Nat) (I : Nat → Nat → Int32) (J : Nat → Nat → Int64) (X : XH) (a1 : Int32) (a2 : Int32) (a3 : Int32) : zseg (zE xs L (d + 5) 205) (zC 205) 680 (zB205_3.drop 3) [(0, .ref 61), (1, .int a1), (2, .int a2), (3, .int a3)] [] (zmk I J X) = some (.inl (5, [(0, .ref 61), (1, .int a1), (2, .int a2), (3, .int a3), (4, .long (Int64.ofNat 0)), (6, .int (0 : Int32))], zmk I J X)) := by
  rfl
theorem S205_5 (xs : Nat → Int32) (L d : Nat) (I : Nat → Nat → Int32) (J : Nat → Nat → Int64) (X : XH) (a1 : Int32) (a2 : Int32) (a3 : Int32) (a4 : Int64) (a6 : Int32) : zseg (zE xs L (d + 5) 205) (zC 205) 700 (zC 205 5) [(0, .ref 61), (1, .int a1), (2, .int a2), (3, .int a3), (4, .long a4), (6, .int a6)] [] (zmk I J X) = if decide ((I 61 3) ≤ a6) = true then
  if zix 0 6 0 a1 then
    if decide (0 < (lg_cmp a4 ((I 68 a1.toNatClampNeg).toInt64))) = true then
      if zix 0 6 0 a1 then
        some (.inl (12, [(0, .ref 61), (1, .int a1), (2, .int a2), (3, .int a3), (4, .long a4), (6, .long ((I 68 a1.toNatClampNeg).toInt64)), (8, .int (0 : Int32))], zmk I J X))
        else none
      else if zix 2 9 2 a2 then
        some (.inr (.inr (some (.long (J 119 a2.toNatClampNeg))), zmk I J X))
        else none
    else none
  else if zix 2 9 2 a6 then
    some (.inl (9, [(0, .ref 61), (1, .int a1), (2, .int a2), (3, .int a3), (4, .long a4), (6, .int a6), (7, .int (0 : Int32))], zmk I (zup J 119 a6.toNatClampNeg (Int64.ofNat 0)) X))
    else none := by
  refine zite_congr ?_ ?_
  · refine zite_congr ?_ ?_
    · refine zite_congr ?_ ?_
      · refine zite_congr ?_ ?_
        · rfl
        · rfl
      · refine zite_congr ?_ ?_
        · rfl
        · rfl
    · rfl
  · refine zite_congr ?_ ?_
    · rfl
    · rfl
theorem S205_9 (xs : Nat → Int32) (L d : Nat) (I : Nat → Nat → Int32) (J : Nat → Nat → Int64) (X : XH) (a1 : Int32) (a2 : Int32) (a3 : Int32) (a4 : Int64) (a6 : Int32) (a7 : Int32) : zseg (zE xs L (d + 5) 205) (zC 205) 700 (zC 205 9) [(0, .ref 61), (1, .int a1), (2, .int a2), (3, .int a3), (4, .long a4), (6, .int a6), (7, .int a7)] [] (zmk I J X) = if decide ((3 : Int32) ≤ a7) = true then
  if zix 2 9 2 a6 then
    some (.inl (5, [(0, .ref 61), (1, .int a1), (2, .int a2), (3, .int a3), (4, .long (a4 + (J 119 a6.toNatClampNeg))), (6, .int (a6 + (1 : Int32)))], zmk I J X))
    else none
  else if zix 2 9 2 a6 then
    zcl (zE xs L (d + 5) 205) (zev xs L (d + 5) 201 [.ref 61, .int a1, .int a6, .int a7, .int a3] (zmk I J X)) (fun r h => zseg (zE xs L (d + 5) 205) (zC 205) 686 (zB205_9.drop 14) [(0, .ref 61), (1, .int a1), (2, .int a2), (3, .int a3), (4, .long a4), (6, .int a6), (7, .int a7)] [.long r, .long (J 119 a6.toNatClampNeg), .int a6, .ref 119] h)
    else none := by
  refine zite_congr ?_ ?_
  · refine zite_congr ?_ ?_
    · rfl
    · rfl
  · refine zite_congr ?_ ?_
    · rfl
    · rfl
theorem T205_9_14_686 (xs : Nat → Int32) (L d : Nat) (I : Nat → Nat → Int32) (J : Nat → Nat → Int64) (X : XH) (a1 : Int32) (a2 : Int32) (a3 : Int32) (a4 : Int64) (a6 : Int32) (a7 : Int32) (b1 : Int32) (b2 : Int64) (b3 : Int64) : zseg (zE xs L (d + 5) 205) (zC 205) 686 (zB205_9.drop 14) [(0, .ref 61), (1, .int a1), (2, .int a2), (3, .int a3), (4, .long a4), (6, .int a6), (7, .int a7)] [.long b3, .long b2, .int b1, .ref 119] (zmk I J X) = if zix 2 9 2 b1 then
  some (.inl (9, [(0, .ref 61), (1, .int a1), (2, .int a2), (3, .int a3), (4, .long a4), (6, .int a6), (7, .int (a7 + (1 : Int32)))], zmk I (zup J 119 b1.toNatClampNeg (b2 + b3)) X))
  else none := by
  refine zite_congr ?_ ?_
  · rfl
  · rfl
theorem S205_12 (xs : Nat → Int32) (L d : Nat) (I : Nat → Nat → Int32) (J : Nat → Nat → Int64) (X : XH) (a1 : Int32) (a2 : Int32) (a3 : Int32) (a4 : Int64) (a6 : Int64) (a8 : Int32) : zseg (zE xs L (d + 5) 205) (zC 205) 700 (zC 205 12) [(0, .ref 61), (1, .int a1), (2, .int a2), (3, .int a3), (4, .long a4), (6, .long a6), (8, .int a8)] [] (zmk I J X) = if decide ((I 61 3) ≤ a8) = true then
  some (.inl (14, [(0, .ref 61), (1, .int a1), (2, .int a2), (3, .int a3), (4, .long a4), (6, .long a6), (8, .int a8)], zmk I J X))
  else if zix 0 6 0 a1 then
    if zix 2 9 2 a8 then
      if a4 = 0 then
        none
        else if zix 2 9 2 a8 then
          if zix 0 6 0 a1 then
            if zix 2 9 2 a8 then
              if a4 = 0 then
                none
                else if zix 2 9 2 a8 then
                  if zix 2 9 2 a8 then
                    some (.inl (12, [(0, .ref 61), (1, .int a1), (2, .int a2), (3, .int a3), (4, .long a4), (6, .long (a6 - ((zup J 120 a8.toNatClampNeg ((((I 68 a1.toNatClampNeg).toInt64) * (J 119 a8.toNatClampNeg)) / a4)) 120 a8.toNatClampNeg))), (8, .int (a8 + (1 : Int32)))], zmk I (zup (zup J 120 a8.toNatClampNeg ((((I 68 a1.toNatClampNeg).toInt64) * (J 119 a8.toNatClampNeg)) / a4)) 121 a8.toNatClampNeg ((((I 68 a1.toNatClampNeg).toInt64) * (J 119 a8.toNatClampNeg)) - (((I 68 a1.toNatClampNeg).toInt64) * (J 119 a8.toNatClampNeg)) / a4 * a4)) X))
                    else none
                  else none
              else none
            else none
          else none
      else none
    else none := by
  refine zite_congr ?_ ?_
  · rfl
  · refine zite_congr ?_ ?_
    · refine zite_congr ?_ ?_
      · refine zite_congr ?_ ?_
        · rfl
        · refine zite_congr ?_ ?_
          · refine zite_congr ?_ ?_
            · refine zite_congr ?_ ?_
              · refine zite_congr ?_ ?_
                · rfl
                · refine zite_congr ?_ ?_
                  · refine zite_congr ?_ ?_
                    · rfl
                    · rfl
                  · rfl
              · rfl
            · rfl
          · rfl
      · rfl
    · rfl
theorem S205_14 (xs : Nat → Int32) (L d : Nat) (I : Nat → Nat → Int32) (J : Nat → Nat → Int64) (X : XH) (a1 : Int32) (a2 : Int32) (a3 : Int32) (a4 : Int64) (a6 : Int64) (a8 : Int32) : zseg (zE xs L (d + 5) 205) (zC 205) 700 (zC 205 14) [(0, .ref 61), (1, .int a1), (2, .int a2), (3, .int a3), (4, .long a4), (6, .long a6), (8, .int a8)] [] (zmk I J X) = if decide ((lg_cmp a6 (Int64.ofNat 0)) ≤ 0) = true then
  if zix 2 9 2 a2 then
    some (.inr (.inr (some (.long (J 120 a2.toNatClampNeg))), zmk I J X))
    else none
  else some (.inl (17, [(0, .ref 61), (1, .int a1), (2, .int a2), (3, .int a3), (4, .long a4), (6, .long a6), (8, .int (0 : Int32)), (9, .int (1 : Int32))], zmk I J X)) := by
  refine zite_congr ?_ ?_
  · refine zite_congr ?_ ?_
    · rfl
    · rfl
  · rfl
theorem S205_17 (xs : Nat → Int32) (L d : Nat) (I : Nat → Nat → Int32) (J : Nat → Nat → Int64) (X : XH) (a1 : Int32) (a2 : Int32) (a3 : Int32) (a4 : Int64) (a6 : Int64) (a8 : Int32) (a9 : Int32) : zseg (zE xs L (d + 5) 205) (zC 205) 700 (zC 205 17) [(0, .ref 61), (1, .int a1), (2, .int a2), (3, .int a3), (4, .long a4), (6, .long a6), (8, .int a8), (9, .int a9)] [] (zmk I J X) = if decide ((I 61 3) ≤ a9) = true then
  if zix 2 9 2 a8 then
    if zix 2 9 2 a8 then
      if zix 2 9 2 a8 then
        some (.inl (14, [(0, .ref 61), (1, .int a1), (2, .int a2), (3, .int a3), (4, .long a4), (6, .long (a6 - (Int64.ofNat 1))), (8, .int a8)], zmk I (zup (zup J 120 a8.toNatClampNeg ((J 120 a8.toNatClampNeg) + (Int64.ofNat 1))) 121 a8.toNatClampNeg ((-1 : Int32).toInt64)) X))
        else none
      else none
    else none
  else if zix 2 9 2 a9 then
    if zix 2 9 2 a8 then
      if decide ((lg_cmp (J 121 a9.toNatClampNeg) (J 121 a8.toNatClampNeg)) ≤ 0) = true then
        some (.inl (17, [(0, .ref 61), (1, .int a1), (2, .int a2), (3, .int a3), (4, .long a4), (6, .long a6), (8, .int a8), (9, .int (a9 + (1 : Int32)))], zmk I J X))
        else some (.inl (17, [(0, .ref 61), (1, .int a1), (2, .int a2), (3, .int a3), (4, .long a4), (6, .long a6), (8, .int a9), (9, .int (a9 + (1 : Int32)))], zmk I J X))
      else none
    else none := by
  refine zite_congr ?_ ?_
  · refine zite_congr ?_ ?_
    · refine zite_congr ?_ ?_
      · refine zite_congr ?_ ?_
        · rfl
        · rfl
      · rfl
    · rfl
  · refine zite_congr ?_ ?_
    · refine zite_congr ?_ ?_
      · refine zite_congr ?_ ?_
        · rfl
        · rfl
      · rfl
    · rfl
/-! 206 TollTagsModel.way (IJI)I -/
theorem S206_0 (xs : Nat → Int32) (L d : Nat) (I : Nat → Nat → Int32) (J : Nat → Nat → Int64) (X : XH) (a1 : Int32) (a2 : Int64) (a4 : Int32) : zseg (zE xs L (d + 5) 206) (zC 206) 700 (zC 206 0) [(0, .ref 61), (1, .int a1), (2, .long a2), (4, .int a4)] [] (zmk I J X) = if decide ((I 61 69) = (20 : Int32)) = true then
  some (.inr (.inr (some (.int (-1 : Int32))), zmk (zup I 61 1 (0 : Int32)) J X))
  else if decide (a1 < (1 : Int32)) = true then
    some (.inr (.inr (some (.int (-1 : Int32))), zmk (zup I 61 1 (0 : Int32)) J X))
    else if decide ((6 : Int32) < a1) = true then
      some (.inr (.inr (some (.int (-1 : Int32))), zmk (zup I 61 1 (0 : Int32)) J X))
      else if decide (a4 < (1 : Int32)) = true then
        some (.inr (.inr (some (.int (-1 : Int32))), zmk (zup I 61 1 (0 : Int32)) J X))
        else if decide (a4 ≤ (999 : Int32)) = true then
          some (.inl (4, [(0, .ref 61), (1, .int a1), (2, .long a2), (4, .int a4), (5, .int (0 : Int32))], zmk (zup I 61 1 (0 : Int32)) J X))
          else some (.inr (.inr (some (.int (-1 : Int32))), zmk (zup I 61 1 (0 : Int32)) J X)) := by
  refine zite_congr ?_ ?_
  · rfl
  · refine zite_congr ?_ ?_
    · rfl
    · refine zite_congr ?_ ?_
      · rfl
      · refine zite_congr ?_ ?_
        · rfl
        · refine zite_congr ?_ ?_
          · rfl
          · rfl
theorem S206_4 (xs : Nat → Int32) (L d : Nat) (I : Nat → Nat → Int32) (J : Nat → Nat → Int64) (X : XH) (a1 : Int32) (a2 : Int64) (a4 : Int32) (a5 : Int32) : zseg (zE xs L (d + 5) 206) (zC 206) 700 (zC 206 4) [(0, .ref 61), (1, .int a1), (2, .long a2), (4, .int a4), (5, .int a5)] [] (zmk I J X) = if decide (a1 ≤ a5) = true then
  if zix 0 20 0 (I 61 69) then
    if zix 0 20 0 (I 61 69) then
      some (.inr (.inr (some (.int (((I 61 69) + (1 : Int32)) - (1 : Int32)))), zmk (zup (zup (zup I 105 ((I 61 69).toNatClampNeg) a1) 106 ((I 61 69).toNatClampNeg) a4) 61 69 ((I 61 69) + (1 : Int32))) J X))
      else none
    else none
  else if decide (¬ (zbi (¬ ((a2 >>> (((6 : Int32) * a5).toInt64 &&& 63)) &&& (Int64.ofNat 63)).toInt32 < 0 ∧ ¬ I 61 4 ≤ ((a2 >>> (((6 : Int32) * a5).toInt64 &&& 63)) &&& (Int64.ofNat 63)).toInt32)) = 0) = true then
    if zix 0 120 0 (((6 : Int32) * (I 61 69)) + a5) then
      some (.inl (4, [(0, .ref 61), (1, .int a1), (2, .long a2), (4, .int a4), (5, .int (a5 + (1 : Int32)))], zmk (zup I 107 ((((6 : Int32) * (I 61 69)) + a5).toNatClampNeg) (((a2 >>> (((6 : Int32) * a5).toInt64 &&& 63)) &&& (Int64.ofNat 63)).toInt32)) J X))
      else none
    else some (.inr (.inr (some (.int (0 : Int32))), zmk (zup I 61 1 (1 : Int32)) J X)) := by
  refine zite_congr ?_ ?_
  · refine zite_congr ?_ ?_
    · refine zite_congr ?_ ?_
      · rfl
      · rfl
    · rfl
  · refine zite_congr ?_ ?_
    · refine zite_congr ?_ ?_
      · rfl
      · rfl
    · rfl
/-! 207 TollTagsModel.sees (I)I -/
theorem S207_0 (xs : Nat → Int32) (L d : Nat) (I : Nat → Nat → Int32) (J : Nat → Nat → Int64) (X : XH) (a1 : Int32) : zseg (zE xs L (d + 5) 207) (zC 207) 700 (zC 207 0) [(0, .ref 61), (1, .int a1)] [] (zmk I J X) = zci (zE xs L (d + 5) 207) (zev xs L (d + 5) 208 [.ref 61, .int a1] (zmk (zup I 61 1 (0 : Int32)) J X)) (fun r h => zseg (zE xs L (d + 5) 207) (zC 207) 694 (zB207_0.drop 6) [(0, .ref 61), (1, .int a1)] [.int r] h) := by
  rfl
theorem T207_0_6_694 (xs : Nat → Int32) (L d : Nat) (I : Nat → Nat → Int32) (J : Nat → Nat → Int64) (X : XH) (a1 : Int32) (b0 : Int32) : zseg (zE xs L (d + 5) 207) (zC 207) 694 (zB207_0.drop 6) [(0, .ref 61), (1, .int a1)] [.int b0] (zmk I J X) = some (.inr (.inr (some (.int b0)), zmk I J X)) := by
  rfl
/-! 208 TollTagsModel.seen (I)I -/
theorem S208_0 (xs : Nat → Int32) (L d : Nat) (I : Nat → Nat → Int32) (J : Nat → Nat → Int64) (X : XH) (a1 : Int32) : zseg (zE xs L (d + 5) 208) (zC 208) 700 (zC 208 0) [(0, .ref 61), (1, .int a1)] [] (zmk I J X) = some (.inl (2, [(0, .ref 61), (1, .int a1), (2, .int (0 : Int32)), (3, .int (0 : Int32))], zmk I J X)) := by
  rfl
theorem S208_2 (xs : Nat → Int32) (L d : Nat) (I : Nat → Nat → Int32) (J : Nat → Nat → Int64) (X : XH) (a1 : Int32) (a2 : Int32) (a3 : Int32) : zseg (zE xs L (d + 5) 208) (zC 208) 700 (zC 208 2) [(0, .ref 61), (1, .int a1), (2, .int a2), (3, .int a3)] [] (zmk I J X) = if decide ((I 61 69) ≤ a3) = true then
  some (.inr (.inr (some (.int a2)), zmk I J X))
  else some (.inl (5, [(0, .ref 61), (1, .int a1), (2, .int a2), (3, .int a3), (4, .int (0 : Int32)), (5, .int (0 : Int32))], zmk I J X)) := by
  refine zite_congr ?_ ?_
  · rfl
  · rfl
theorem S208_5 (xs : Nat → Int32) (L d : Nat) (I : Nat → Nat → Int32) (J : Nat → Nat → Int64) (X : XH) (a1 : Int32) (a2 : Int32) (a3 : Int32) (a4 : Int32) (a5 : Int32) : zseg (zE xs L (d + 5) 208) (zC 208) 700 (zC 208 5) [(0, .ref 61), (1, .int a1), (2, .int a2), (3, .int a3), (4, .int a4), (5, .int a5)] [] (zmk I J X) = if zix 0 20 0 a3 then
  if decide ((I 105 a3.toNatClampNeg) ≤ a5) = true then
    if decide (a4 = 0) = true then
      some (.inl (2, [(0, .ref 61), (1, .int a1), (2, .int (a2 + (0 : Int32))), (3, .int (a3 + (1 : Int32)))], zmk I J X))
      else if zix 0 20 0 a3 then
        some (.inl (2, [(0, .ref 61), (1, .int a1), (2, .int (a2 + (I 106 a3.toNatClampNeg))), (3, .int (a3 + (1 : Int32)))], zmk I J X))
        else none
    else if zix 0 120 0 (((6 : Int32) * a3) + a5) then
      if decide (¬ a4 = 0) = true then
        some (.inl (5, [(0, .ref 61), (1, .int a1), (2, .int a2), (3, .int a3), (4, .int (1 : Int32)), (5, .int (a5 + (1 : Int32)))], zmk I J X))
        else if decide ((12 : Int32) ≤ (I 107 ((((6 : Int32) * a3) + a5).toNatClampNeg))) = true then
          some (.inl (5, [(0, .ref 61), (1, .int a1), (2, .int a2), (3, .int a3), (4, .int (0 : Int32)), (5, .int (a5 + (1 : Int32)))], zmk I J X))
          else if decide (¬ ((a1 >>> ((I 107 ((((6 : Int32) * a3) + a5).toNatClampNeg)) &&& 31)) &&& (1 : Int32)) = (1 : Int32)) = true then
            some (.inl (5, [(0, .ref 61), (1, .int a1), (2, .int a2), (3, .int a3), (4, .int (0 : Int32)), (5, .int (a5 + (1 : Int32)))], zmk I J X))
            else some (.inl (5, [(0, .ref 61), (1, .int a1), (2, .int a2), (3, .int a3), (4, .int (1 : Int32)), (5, .int (a5 + (1 : Int32)))], zmk I J X))
      else none
  else none := by
  refine zite_congr ?_ ?_
  · refine zite_congr ?_ ?_
    · refine zite_congr ?_ ?_
      · rfl
      · refine zite_congr ?_ ?_
        · rfl
        · rfl
    · refine zite_congr ?_ ?_
      · refine zite_congr ?_ ?_
        · rfl
        · refine zite_congr ?_ ?_
          · rfl
          · refine zite_congr ?_ ?_
            · rfl
            · rfl
      · rfl
  · rfl
/-! 209 TollTagsModel.cameras (I)I -/
theorem S209_0 (xs : Nat → Int32) (L d : Nat) (I : Nat → Nat → Int32) (J : Nat → Nat → Int64) (X : XH) (a1 : Int32) : zseg (zE xs L (d + 5) 209) (zC 209) 700 (zC 209 0) [(0, .ref 61), (1, .int a1)] [] (zmk I J X) = if decide (a1 < 0) = true then
  some (.inr (.inr (some (.int (0 : Int32))), zmk (zup (zup I 61 1 (0 : Int32)) 61 1 (1 : Int32)) J X))
  else if decide (a1 ≤ (12 : Int32)) = true then
    some (.inl (4, [(0, .ref 61), (1, .int a1), (2, .int (zmn (12 : Int32) (I 61 4))), (3, .int (0 : Int32)), (4, .int (-1 : Int32)), (5, .int (0 : Int32)), (6, .int (((1 : Int32) <<< ((zmn (12 : Int32) (I 61 4)) &&& 31)) - (1 : Int32)))], zmk (zup I 61 1 (0 : Int32)) J X))
    else some (.inr (.inr (some (.int (0 : Int32))), zmk (zup (zup I 61 1 (0 : Int32)) 61 1 (1 : Int32)) J X)) := by
  refine zite_congr ?_ ?_
  · rfl
  · refine zite_congr ?_ ?_
    · rfl
    · rfl
theorem S209_4 (xs : Nat → Int32) (L d : Nat) (I : Nat → Nat → Int32) (J : Nat → Nat → Int64) (X : XH) (a1 : Int32) (a2 : Int32) (a3 : Int32) (a4 : Int32) (a5 : Int32) (a6 : Int32) : zseg (zE xs L (d + 5) 209) (zC 209) 700 (zC 209 4) [(0, .ref 61), (1, .int a1), (2, .int a2), (3, .int a3), (4, .int a4), (5, .int a5), (6, .int a6)] [] (zmk I J X) = if decide (a6 < 0) = true then
  some (.inr (.inr (some (.int a3)), zmk I J X))
  else some (.inl (7, [(0, .ref 61), (1, .int a1), (2, .int a2), (3, .int a3), (4, .int a4), (5, .int a5), (6, .int a6), (7, .int (0 : Int32)), (8, .int (0 : Int32)), (9, .int (0 : Int32))], zmk I J X)) := by
  refine zite_congr ?_ ?_
  · rfl
  · rfl
theorem S209_7 (xs : Nat → Int32) (L d : Nat) (I : Nat → Nat → Int32) (J : Nat → Nat → Int64) (X : XH) (a1 : Int32) (a2 : Int32) (a3 : Int32) (a4 : Int32) (a5 : Int32) (a6 : Int32) (a7 : Int32) (a8 : Int32) (a9 : Int32) : zseg (zE xs L (d + 5) 209) (zC 209) 700 (zC 209 7) [(0, .ref 61), (1, .int a1), (2, .int a2), (3, .int a3), (4, .int a4), (5, .int a5), (6, .int a6), (7, .int a7), (8, .int a8), (9, .int a9)] [] (zmk I J X) = if decide (a2 ≤ a9) = true then
  if decide (a8 ≤ a1) = true then
    zci (zE xs L (d + 5) 209) (zev xs L (d + 5) 208 [.ref 61, .int a7] (zmk I J X)) (fun r h => zseg (zE xs L (d + 5) 209) (zC 209) 691 (zB209_11.drop 3) [(0, .ref 61), (1, .int a1), (2, .int a2), (3, .int a3), (4, .int a4), (5, .int a5), (6, .int a6), (7, .int a7), (8, .int a8), (9, .int a9)] [.int r] h)
    else some (.inl (4, [(0, .ref 61), (1, .int a1), (2, .int a2), (3, .int a3), (4, .int a4), (5, .int a5), (6, .int (a6 + (-1 : Int32)))], zmk I J X))
  else if decide (¬ ((a6 >>> (((a2 - (1 : Int32)) - a9) &&& 31)) &&& (1 : Int32)) = 0) = true then
    some (.inl (7, [(0, .ref 61), (1, .int a1), (2, .int a2), (3, .int a3), (4, .int a4), (5, .int a5), (6, .int a6), (7, .int (a7 ||| ((1 : Int32) <<< (a9 &&& 31)))), (8, .int (a8 + (1 : Int32))), (9, .int (a9 + (1 : Int32)))], zmk I J X))
    else some (.inl (7, [(0, .ref 61), (1, .int a1), (2, .int a2), (3, .int a3), (4, .int a4), (5, .int a5), (6, .int a6), (7, .int a7), (8, .int a8), (9, .int (a9 + (1 : Int32)))], zmk I J X)) := by
  refine zite_congr ?_ ?_
  · refine zite_congr ?_ ?_
    · rfl
    · rfl
  · refine zite_congr ?_ ?_
    · rfl
    · rfl
theorem T209_11_3_691 (xs : Nat → Int32) (L d : Nat) (I : Nat → Nat → Int32) (J : Nat → Nat → Int64) (X : XH) (a1 : Int32) (a2 : Int32) (a3 : Int32) (a4 : Int32) (a5 : Int32) (a6 : Int32) (a7 : Int32) (a8 : Int32) (a9 : Int32) (b0 : Int32) : zseg (zE xs L (d + 5) 209) (zC 209) 691 (zB209_11.drop 3) [(0, .ref 61), (1, .int a1), (2, .int a2), (3, .int a3), (4, .int a4), (5, .int a5), (6, .int a6), (7, .int a7), (8, .int a8), (9, .int a9)] [.int b0] (zmk I J X) = if decide (b0 < a4) = true then
  some (.inl (4, [(0, .ref 61), (1, .int a1), (2, .int a2), (3, .int a3), (4, .int a4), (5, .int a5), (6, .int (a6 + (-1 : Int32)))], zmk I J X))
  else if decide (¬ b0 = a4) = true then
    some (.inl (4, [(0, .ref 61), (1, .int a1), (2, .int a2), (3, .int a7), (4, .int b0), (5, .int a8), (6, .int (a6 + (-1 : Int32)))], zmk I J X))
    else if decide (a8 < a5) = true then
      some (.inl (4, [(0, .ref 61), (1, .int a1), (2, .int a2), (3, .int a7), (4, .int b0), (5, .int a8), (6, .int (a6 + (-1 : Int32)))], zmk I J X))
      else some (.inl (4, [(0, .ref 61), (1, .int a1), (2, .int a2), (3, .int a3), (4, .int a4), (5, .int a5), (6, .int (a6 + (-1 : Int32)))], zmk I J X)) := by
  refine zite_congr ?_ ?_
  · rfl
  · refine zite_congr ?_ ?_
    · rfl
    · refine zite_congr ?_ ?_
      · rfl
      · rfl
/-! 210 TollTagsModel.attempt (III)I -/
theorem S210_0 (xs : Nat → Int32) (L d : Nat) (I : Nat → Nat → Int32) (J : Nat → Nat → Int64) (X : XH) (a1 : Int32) (a2 : Int32) (a3 : Int32) : zseg (zE xs L (d + 5) 210) (zC 210) 700 (zC 210 0) [(0, .ref 61), (1, .int a1), (2, .int a2), (3, .int a3)] [] (zmk I J X) = if decide (¬ (zbi (¬ a1 < 0 ∧ ¬ I 61 3 ≤ a1)) = 0) = true then
  if decide (a2 < 0) = true then
    some (.inr (.inr (some (.int (0 : Int32))), zmk (zup (zup I 61 1 (0 : Int32)) 61 1 (2 : Int32)) J X))
    else if decide (a2 ≤ (I 61 57)) = true then
      if decide (a3 < 0) = true then
        some (.inr (.inr (some (.int (9 : Int32))), zmk (zup (zup (zup I 61 1 (0 : Int32)) 61 57 (0 : Int32)) 61 67 (-1 : Int32)) J X))
        else if decide (a3 ≤ (129599 : Int32)) = true then
          zci (zE xs L (d + 5) 210) (zev xs L (d + 5) 160 [.ref 61, .int (36 : Int32), .int a2] (zmk (zup (zup (zup I 61 1 (0 : Int32)) 61 57 (0 : Int32)) 61 67 (-1 : Int32)) J X)) (fun r h => zseg (zE xs L (d + 5) 210) (zC 210) 670 (zB210_5.drop 6) [(4, .int (36 : Int32)), (0, .ref 61), (1, .int a1), (2, .int a2), (3, .int a3)] [.int r] h)
          else some (.inr (.inr (some (.int (9 : Int32))), zmk (zup (zup (zup I 61 1 (0 : Int32)) 61 57 (0 : Int32)) 61 67 (-1 : Int32)) J X))
      else some (.inr (.inr (some (.int (0 : Int32))), zmk (zup (zup I 61 1 (0 : Int32)) 61 1 (2 : Int32)) J X))
  else some (.inr (.inr (some (.int (0 : Int32))), zmk (zup (zup I 61 1 (0 : Int32)) 61 1 (1 : Int32)) J X)) := by
  refine zite_congr ?_ ?_
  · refine zite_congr ?_ ?_
    · rfl
    · refine zite_congr ?_ ?_
      · refine zite_congr ?_ ?_
        · rfl
        · refine zite_congr ?_ ?_
          · rfl
          · rfl
      · rfl
  · rfl
theorem T210_5_6_670 (xs : Nat → Int32) (L d : Nat) (I : Nat → Nat → Int32) (J : Nat → Nat → Int64) (X : XH) (a4 : Int32) (a1 : Int32) (a2 : Int32) (a3 : Int32) (b0 : Int32) : zseg (zE xs L (d + 5) 210) (zC 210) 670 (zB210_5.drop 6) [(4, .int a4), (0, .ref 61), (1, .int a1), (2, .int a2), (3, .int a3)] [.int b0] (zmk I J X) = if decide (b0 = 0) = true then
  if zix 0 37 0 a4 then
    zcl (zE xs L (d + 5) 210) (zev xs L (d + 5) 211 [.ref 61, .int a1] (zmk (zup (zup I 93 a4.toNatClampNeg a3) 61 54 (-1 : Int32)) J X)) (fun r h => zseg (zE xs L (d + 5) 210) (zC 210) 658 (zB210_6.drop 11) [(4, .int a4), (0, .ref 61), (1, .int a1), (2, .int a2), (3, .int a3)] [.long r] h)
    else none
  else some (.inr (.inr (some (.int (I 61 65))), zmk I J X)) := by
  refine zite_congr ?_ ?_
  · refine zite_congr ?_ ?_
    · rfl
    · rfl
  · rfl
theorem T210_6_11_658 (xs : Nat → Int32) (L d : Nat) (I : Nat → Nat → Int32) (J : Nat → Nat → Int64) (X : XH) (a4 : Int32) (a1 : Int32) (a2 : Int32) (a3 : Int32) (b0 : Int64) : zseg (zE xs L (d + 5) 210) (zC 210) 658 (zB210_6.drop 11) [(4, .int a4), (0, .ref 61), (1, .int a1), (2, .int a2), (3, .int a3)] [.long b0] (zmk I J X) = zcl (zE xs L (d + 5) 210) (zev xs L (d + 5) 211 [.ref 61, .int a1] (zmk (zup I 61 54 a1) J X)) (fun r h => zseg (zE xs L (d + 5) 210) (zC 210) 650 (zB210_6.drop 19) [(5, .long b0), (4, .int a4), (0, .ref 61), (1, .int a1), (2, .int a2), (3, .int a3)] [.long r, .ref 61] h) := by
  rfl
theorem T210_6_19_650 (xs : Nat → Int32) (L d : Nat) (I : Nat → Nat → Int32) (J : Nat → Nat → Int64) (X : XH) (a5 : Int64) (a4 : Int32) (a1 : Int32) (a2 : Int32) (a3 : Int32) (b1 : Int64) : zseg (zE xs L (d + 5) 210) (zC 210) 650 (zB210_6.drop 19) [(5, .long a5), (4, .int a4), (0, .ref 61), (1, .int a1), (2, .int a2), (3, .int a3)] [.long b1, .ref 61] (zmk I J X) = some (.inr (.inr (some (.int (0 : Int32))), zmk (zup I 61 54 (-1 : Int32)) (zup J 61 55 (b1 - a5)) X)) := by
  rfl
/-! 211 TollTagsModel.allIn (I)J -/
theorem S211_0 (xs : Nat → Int32) (L d : Nat) (I : Nat → Nat → Int32) (J : Nat → Nat → Int64) (X : XH) (a1 : Int32) : zseg (zE xs L (d + 5) 211) (zC 211) 700 (zC 211 0) [(0, .ref 61), (1, .int a1)] [] (zmk I J X) = zcw (zE xs L (d + 5) 211) (zev xs L (d + 5) 184 [.ref 61, .int (I 61 2)] (zmk I J X)) (fun h => zseg (zE xs L (d + 5) 211) (zC 211) 696 (zB211_0.drop 4) [(0, .ref 61), (1, .int a1)] [] h) := by
  rfl
theorem T211_0_4_696 (xs : Nat → Int32) (L d : Nat) (I : Nat → Nat → Int32) (J : Nat → Nat → Int64) (X : XH) (a1 : Int32) : zseg (zE xs L (d + 5) 211) (zC 211) 696 (zB211_0.drop 4) [(0, .ref 61), (1, .int a1)] [] (zmk I J X) = some (.inl (2, [(0, .ref 61), (1, .int a1), (2, .long (Int64.ofNat 0)), (4, .int (0 : Int32))], zmk I J X)) := by
  rfl
theorem S211_2 (xs : Nat → Int32) (L d : Nat) (I : Nat → Nat → Int32) (J : Nat → Nat → Int64) (X : XH) (a1 : Int32) (a2 : Int64) (a4 : Int32) : zseg (zE xs L (d + 5) 211) (zC 211) 700 (zC 211 2) [(0, .ref 61), (1, .int a1), (2, .long a2), (4, .int a4)] [] (zmk I J X) = if decide ((I 61 7) ≤ a4) = true then
  some (.inr (.inr (some (.long a2)), zmk I J X))
  else zcw (zE xs L (d + 5) 211) (zev xs L (d + 5) 189 [.ref 61, .int a4, .int (I 61 2)] (zmk I J X)) (fun h => zseg (zE xs L (d + 5) 211) (zC 211) 691 (zB211_2.drop 9) [(0, .ref 61), (1, .int a1), (2, .long a2), (4, .int a4)] [] h) := by
  refine zite_congr ?_ ?_
  · rfl
  · rfl
theorem T211_2_9_691 (xs : Nat → Int32) (L d : Nat) (I : Nat → Nat → Int32) (J : Nat → Nat → Int64) (X : XH) (a1 : Int32) (a2 : Int64) (a4 : Int32) : zseg (zE xs L (d + 5) 211) (zC 211) 691 (zB211_2.drop 9) [(0, .ref 61), (1, .int a1), (2, .long a2), (4, .int a4)] [] (zmk I J X) = some (.inl (5, [(0, .ref 61), (1, .int a1), (2, .long a2), (4, .int a4), (5, .int (0 : Int32))], zmk I J X)) := by
  rfl
theorem S211_5 (xs : Nat → Int32) (L d : Nat) (I : Nat → Nat → Int32) (J : Nat → Nat → Int64) (X : XH) (a1 : Int32) (a2 : Int64) (a4 : Int32) (a5 : Int32) : zseg (zE xs L (d + 5) 211) (zC 211) 700 (zC 211 5) [(0, .ref 61), (1, .int a1), (2, .long a2), (4, .int a4), (5, .int a5)] [] (zmk I J X) = if decide ((I 61 76) ≤ a5) = true then
  some (.inl (2, [(0, .ref 61), (1, .int a1), (2, .long a2), (4, .int (a4 + (1 : Int32)))], zmk I J X))
  else if zix 0 8000 0 a5 then
    if zix 0 40 0 (I 112 a5.toNatClampNeg) then
      if decide (¬ (I 65 ((I 112 a5.toNatClampNeg).toNatClampNeg)) = a1) = true then
        some (.inl (5, [(0, .ref 61), (1, .int a1), (2, .long (a2 + (Int64.ofNat 0))), (4, .int a4), (5, .int (a5 + (1 : Int32)))], zmk I J X))
        else if zix 0 8000 0 a5 then
          some (.inl (5, [(0, .ref 61), (1, .int a1), (2, .long (a2 + ((I 115 a5.toNatClampNeg).toInt64))), (4, .int a4), (5, .int (a5 + (1 : Int32)))], zmk I J X))
          else none
      else none
    else none := by
  refine zite_congr ?_ ?_
  · rfl
  · refine zite_congr ?_ ?_
    · refine zite_congr ?_ ?_
      · refine zite_congr ?_ ?_
        · rfl
        · refine zite_congr ?_ ?_
          · rfl
          · rfl
      · rfl
    · rfl
/-! 212 TollTagsModel.more ()I -/
theorem S212_0 (xs : Nat → Int32) (L d : Nat) (I : Nat → Nat → Int32) (J : Nat → Nat → Int64) (X : XH) : zseg (zE xs L (d + 5) 212) (zC 212) 700 (zC 212 0) [(0, .ref 61)] [] (zmk I J X) = some (.inr (.inr (some (.int ((J 61 55).toInt32))), zmk (zup I 61 1 (0 : Int32)) J X)) := by
  rfl
/-! 213 TollTagsModel.count (I)I -/
theorem S213_0 (xs : Nat → Int32) (L d : Nat) (I : Nat → Nat → Int32) (J : Nat → Nat → Int64) (X : XH) (a1 : Int32) : zseg (zE xs L (d + 5) 213) (zC 213) 700 (zC 213 0) [(0, .ref 61), (1, .int a1)] [] (zmk I J X) = if a1 = 0 then
  some (.inr (.inr (some (.int (I 61 2))), zmk (zup I 61 1 (0 : Int32)) J X))
  else if a1 = 1 then
  some (.inr (.inr (some (.int (I 61 3))), zmk (zup I 61 1 (0 : Int32)) J X))
  else if a1 = 2 then
  some (.inr (.inr (some (.int (I 61 4))), zmk (zup I 61 1 (0 : Int32)) J X))
  else if a1 = 3 then
  some (.inr (.inr (some (.int (I 61 5))), zmk (zup I 61 1 (0 : Int32)) J X))
  else if a1 = 4 then
  some (.inr (.inr (some (.int (I 61 6))), zmk (zup I 61 1 (0 : Int32)) J X))
  else if a1 = 5 then
  some (.inr (.inr (some (.int (I 61 7))), zmk (zup I 61 1 (0 : Int32)) J X))
  else if a1 = 6 then
  some (.inr (.inr (some (.int (I 61 19))), zmk (zup I 61 1 (0 : Int32)) J X))
  else if a1 = 7 then
  some (.inr (.inr (some (.int (I 61 20))), zmk (zup I 61 1 (0 : Int32)) J X))
  else if a1 = 8 then
  some (.inr (.inr (some (.int (I 61 69))), zmk (zup I 61 1 (0 : Int32)) J X))
  else if a1 = 9 then
  some (.inr (.inr (some (.int (I 61 57))), zmk (zup I 61 1 (0 : Int32)) J X))
  else some (.inr (.inr (some (.int (0 : Int32))), zmk (zup (zup I 61 1 (0 : Int32)) 61 1 (1 : Int32)) J X)) := by
  refine zite_congr ?_ ?_
  · rfl
  · refine zite_congr ?_ ?_
    · rfl
    · refine zite_congr ?_ ?_
      · rfl
      · refine zite_congr ?_ ?_
        · rfl
        · refine zite_congr ?_ ?_
          · rfl
          · refine zite_congr ?_ ?_
            · rfl
            · refine zite_congr ?_ ?_
              · rfl
              · refine zite_congr ?_ ?_
                · rfl
                · refine zite_congr ?_ ?_
                  · rfl
                  · refine zite_congr ?_ ?_
                    · rfl
                    · rfl
