/-! THE PURE PART: stretches of method 165, whatever the count. -/
theorem U165_3 (xs : Nat → Int32) (L d f : Nat) (I : Nat → Nat → Int32) (J : Nat → Nat → Int64) (X : XH) (a5 : Int32) (a4 : Int32) (a3 : Int32) (a1 : Int32) (a2 : Int32) : zseg (zE xs L (d + 5) 165) (zC 165) (f + 60) (zB165_3.drop 2) [(5, .int a5), (4, .int a4), (3, .int a3), (0, .ref 61), (1, .int a1), (2, .int a2)] [] (zmk I J X) = if decide (¬ a3 = 0) = true then
  if zix 0 37 0 a1 then
    if zix 0 37 0 a1 then
      if zix 0 37 0 a1 then
        if decide (a3 = 0) = true then
          if zix 0 592 0 (((16 : Int32) * a1) + (I 95 a1.toNatClampNeg)) then
            if zix 0 592 0 (((16 : Int32) * a1) + (I 95 a1.toNatClampNeg)) then
              zcw (zE xs L (d + 5) 165) (zev xs L (d + 5) 168 [.ref 61, .int a1, .int (0 : Int32)] (zmk (zup (zup (zup I 95 a1.toNatClampNeg ((I 95 a1.toNatClampNeg) + (1 : Int32))) 98 ((((16 : Int32) * a1) + (I 95 a1.toNatClampNeg)).toNatClampNeg) (1 : Int32)) 99 ((((16 : Int32) * a1) + (I 95 a1.toNatClampNeg)).toNatClampNeg) (I 61 68)) J X)) (fun h => zseg (zE xs L (d + 5) 165) (zC 165) (f + 23) (zB165_7.drop 11) [(6, .int (((16 : Int32) * a1) + (I 95 a1.toNatClampNeg))), (5, .int a5), (4, .int a4), (3, .int a3), (0, .ref 61), (1, .int a1), (2, .int a2)] [] h)
              else none
            else none
          else if zix 0 592 0 (((16 : Int32) * a1) + (I 95 a1.toNatClampNeg)) then
            if zix 0 592 0 (((16 : Int32) * a1) + (I 95 a1.toNatClampNeg)) then
              zcw (zE xs L (d + 5) 165) (zev xs L (d + 5) 168 [.ref 61, .int a1, .int (0 : Int32)] (zmk (zup (zup (zup I 95 a1.toNatClampNeg ((I 95 a1.toNatClampNeg) + (1 : Int32))) 98 ((((16 : Int32) * a1) + (I 95 a1.toNatClampNeg)).toNatClampNeg) (0 : Int32)) 99 ((((16 : Int32) * a1) + (I 95 a1.toNatClampNeg)).toNatClampNeg) (I 61 68)) J X)) (fun h => zseg (zE xs L (d + 5) 165) (zC 165) (f + 23) (zB165_7.drop 11) [(6, .int (((16 : Int32) * a1) + (I 95 a1.toNatClampNeg))), (5, .int a5), (4, .int a4), (3, .int a3), (0, .ref 61), (1, .int a1), (2, .int a2)] [] h)
              else none
            else none
        else none
      else none
    else none
  else if decide (a4 = 0) = true then
    zci (zE xs L (d + 5) 165) (zev xs L (d + 5) 175 [.ref 61] (zmk I J X)) (fun r h => zseg (zE xs L (d + 5) 165) (zC 165) (f + 54) (zB165_5.drop 2) [(5, .int a5), (4, .int a4), (3, .int a3), (0, .ref 61), (1, .int a1), (2, .int a2)] [.int r] h)
    else if zix 0 37 0 a1 then
      if zix 0 37 0 a1 then
        if zix 0 37 0 a1 then
          if decide (a3 = 0) = true then
            if zix 0 592 0 (((16 : Int32) * a1) + (I 95 a1.toNatClampNeg)) then
              if zix 0 592 0 (((16 : Int32) * a1) + (I 95 a1.toNatClampNeg)) then
                zcw (zE xs L (d + 5) 165) (zev xs L (d + 5) 168 [.ref 61, .int a1, .int (0 : Int32)] (zmk (zup (zup (zup I 95 a1.toNatClampNeg ((I 95 a1.toNatClampNeg) + (1 : Int32))) 98 ((((16 : Int32) * a1) + (I 95 a1.toNatClampNeg)).toNatClampNeg) (1 : Int32)) 99 ((((16 : Int32) * a1) + (I 95 a1.toNatClampNeg)).toNatClampNeg) (I 61 68)) J X)) (fun h => zseg (zE xs L (d + 5) 165) (zC 165) (f + 20) (zB165_7.drop 11) [(6, .int (((16 : Int32) * a1) + (I 95 a1.toNatClampNeg))), (5, .int a5), (4, .int a4), (3, .int a3), (0, .ref 61), (1, .int a1), (2, .int a2)] [] h)
                else none
              else none
            else if zix 0 592 0 (((16 : Int32) * a1) + (I 95 a1.toNatClampNeg)) then
              if zix 0 592 0 (((16 : Int32) * a1) + (I 95 a1.toNatClampNeg)) then
                zcw (zE xs L (d + 5) 165) (zev xs L (d + 5) 168 [.ref 61, .int a1, .int (0 : Int32)] (zmk (zup (zup (zup I 95 a1.toNatClampNeg ((I 95 a1.toNatClampNeg) + (1 : Int32))) 98 ((((16 : Int32) * a1) + (I 95 a1.toNatClampNeg)).toNatClampNeg) (0 : Int32)) 99 ((((16 : Int32) * a1) + (I 95 a1.toNatClampNeg)).toNatClampNeg) (I 61 68)) J X)) (fun h => zseg (zE xs L (d + 5) 165) (zC 165) (f + 20) (zB165_7.drop 11) [(6, .int (((16 : Int32) * a1) + (I 95 a1.toNatClampNeg))), (5, .int a5), (4, .int a4), (3, .int a3), (0, .ref 61), (1, .int a1), (2, .int a2)] [] h)
                else none
              else none
          else none
        else none
      else none := by
  refine zite_congr ?_ ?_
  · refine zite_congr ?_ ?_
    · refine zite_congr ?_ ?_
      · refine zite_congr ?_ ?_
        · refine zite_congr ?_ ?_
          · refine zite_congr ?_ ?_
            · refine zite_congr ?_ ?_
              · rfl
              · rfl
            · rfl
          · refine zite_congr ?_ ?_
            · refine zite_congr ?_ ?_
              · rfl
              · rfl
            · rfl
        · rfl
      · rfl
    · rfl
  · refine zite_congr ?_ ?_
    · rfl
    · refine zite_congr ?_ ?_
      · refine zite_congr ?_ ?_
        · refine zite_congr ?_ ?_
          · refine zite_congr ?_ ?_
            · refine zite_congr ?_ ?_
              · refine zite_congr ?_ ?_
                · rfl
                · rfl
              · rfl
            · refine zite_congr ?_ ?_
              · refine zite_congr ?_ ?_
                · rfl
                · rfl
              · rfl
          · rfl
        · rfl
      · rfl
theorem U165_1 (xs : Nat → Int32) (L d f : Nat) (I : Nat → Nat → Int32) (J : Nat → Nat → Int64) (X : XH) (a5 : Int32) (a4 : Int32) (a3 : Int32) (a1 : Int32) (a2 : Int32) : zseg (zE xs L (d + 5) 165) (zC 165) (f + 60) (zB165_1.drop 6) [(5, .int a5), (4, .int a4), (3, .int a3), (0, .ref 61), (1, .int a1), (2, .int a2)] [] (zmk I J X) = if decide ((I 61 65) = 0) = true then
  zcw (zE xs L (d + 5) 165) (zev xs L (d + 5) 161 [.ref 61] (zmk I J X)) (fun h => zseg (zE xs L (d + 5) 165) (zC 165) (f + 54) (zB165_3.drop 2) [(5, .int a5), (4, .int a4), (3, .int a3), (0, .ref 61), (1, .int a1), (2, .int a2)] [] h)
  else some (.inr (.inr none, zmk I J X)) := by
  refine zite_congr ?_ ?_
  · rfl
  · rfl
theorem U165_0 (xs : Nat → Int32) (L d f : Nat) (I : Nat → Nat → Int32) (J : Nat → Nat → Int64) (X : XH) (a5 : Int32) (a4 : Int32) (a3 : Int32) (a1 : Int32) (a2 : Int32) : zseg (zE xs L (d + 5) 165) (zC 165) (f + 60) (zB165_0.drop 25) [(5, .int a5), (4, .int a4), (3, .int a3), (0, .ref 61), (1, .int a1), (2, .int a2)] [] (zmk I J X) = if decide ((I 61 65) = 0) = true then
  zcw (zE xs L (d + 5) 165) (zev xs L (d + 5) 161 [.ref 61] (zmk I J X)) (fun h => zseg (zE xs L (d + 5) 165) (zC 165) (f + 54) (zB165_3.drop 2) [(5, .int a5), (4, .int a4), (3, .int a3), (0, .ref 61), (1, .int a1), (2, .int a2)] [] h)
  else some (.inr (.inr none, zmk I J X)) := by
  refine zite_congr ?_ ?_
  · rfl
  · rfl
theorem U165_7 (xs : Nat → Int32) (L d f : Nat) (I : Nat → Nat → Int32) (J : Nat → Nat → Int64) (X : XH) (a6 : Int32) (a5 : Int32) (a4 : Int32) (a3 : Int32) (a1 : Int32) (a2 : Int32) : zseg (zE xs L (d + 5) 165) (zC 165) (f + 60) (zB165_7.drop 11) [(6, .int a6), (5, .int a5), (4, .int a4), (3, .int a3), (0, .ref 61), (1, .int a1), (2, .int a2)] [] (zmk I J X) = if zix 0 592 0 a6 then
  zcw (zE xs L (d + 5) 165) (zev xs L (d + 5) 178 [.ref 61, .int (59 : Int32)] (zmk (zup I 100 a6.toNatClampNeg (I 61 68)) J X)) (fun h => zseg (zE xs L (d + 5) 165) (zC 165) (f + 50) (zB165_9.drop 3) [(6, .int a6), (5, .int a5), (4, .int a4), (3, .int a3), (0, .ref 61), (1, .int a1), (2, .int a2)] [] h)
  else none := by
  refine zite_congr ?_ ?_
  · rfl
  · rfl
theorem U165_5 (xs : Nat → Int32) (L d f : Nat) (I : Nat → Nat → Int32) (J : Nat → Nat → Int64) (X : XH) (a5 : Int32) (a4 : Int32) (a3 : Int32) (a1 : Int32) (a2 : Int32) (b0 : Int32) : zseg (zE xs L (d + 5) 165) (zC 165) (f + 60) (zB165_5.drop 2) [(5, .int a5), (4, .int a4), (3, .int a3), (0, .ref 61), (1, .int a1), (2, .int a2)] [.int b0] (zmk I J X) = if decide (a5 = 0) = true then
  if zix 0 37 0 a1 then
    zcw (zE xs L (d + 5) 165) (zev xs L (d + 5) 178 [.ref 61, .int (59 : Int32)] (zmk (zup I 97 a1.toNatClampNeg b0) J X)) (fun h => zseg (zE xs L (d + 5) 165) (zC 165) (f + 48) (zB165_9.drop 3) [(6, .int b0), (5, .int a5), (4, .int a4), (3, .int a3), (0, .ref 61), (1, .int a1), (2, .int a2)] [] h)
    else none
  else if zix 0 37 0 a1 then
    zcw (zE xs L (d + 5) 165) (zev xs L (d + 5) 178 [.ref 61, .int (59 : Int32)] (zmk (zup I 96 a1.toNatClampNeg b0) J X)) (fun h => zseg (zE xs L (d + 5) 165) (zC 165) (f + 48) (zB165_9.drop 3) [(6, .int b0), (5, .int a5), (4, .int a4), (3, .int a3), (0, .ref 61), (1, .int a1), (2, .int a2)] [] h)
    else none := by
  refine zite_congr ?_ ?_
  · refine zite_congr ?_ ?_
    · rfl
    · rfl
  · refine zite_congr ?_ ?_
    · rfl
    · rfl
theorem U165_9 (xs : Nat → Int32) (L d f : Nat) (I : Nat → Nat → Int32) (J : Nat → Nat → Int64) (X : XH) (a6 : Int32) (a5 : Int32) (a4 : Int32) (a3 : Int32) (a1 : Int32) (a2 : Int32) : zseg (zE xs L (d + 5) 165) (zC 165) (f + 60) (zB165_9.drop 3) [(6, .int a6), (5, .int a5), (4, .int a4), (3, .int a3), (0, .ref 61), (1, .int a1), (2, .int a2)] [] (zmk I J X) = some (.inr (.inr none, zmk I J X)) := by
  rfl
