/-! What the stretches answer: each by rfl. Written by program (wip/whole/lift.py). -/
/-! 142 TollTagsModel.land ()I -/
theorem S142_0 (xs : Nat → Int32) (L d : Nat) (I : Nat → Nat → Int32) (J : Nat → Nat → Int64) (X : XH) : zseg (zE xs L (d + 5) 142) (zC 142) 700 (zC 142 0) [(0, .ref 61)] [] (zmk I J X) = if decide (¬ (I 61 3) = (9 : Int32)) = true then
  if zix 0 9 0 (I 61 3) then
    some (.inr (.inr (some (.int (((I 61 3) + (1 : Int32)) - (1 : Int32)))), zmk (zup (zup (zup I 61 1 (0 : Int32)) 92 ((I 61 3).toNatClampNeg) (0 : Int32)) 61 3 ((I 61 3) + (1 : Int32))) J X))
    else none
  else some (.inr (.inr (some (.int (-1 : Int32))), zmk (zup I 61 1 (0 : Int32)) J X)) := by
  refine zite_congr ?_ ?_
  · refine zite_congr ?_ ?_
    · rfl
    · rfl
  · rfl
/-! 143 TollTagsModel.road (IIIIIZ)I -/
theorem S143_0 (xs : Nat → Int32) (L d : Nat) (I : Nat → Nat → Int32) (J : Nat → Nat → Int64) (X : XH) (a1 : Int32) (a2 : Int32) (a3 : Int32) (a4 : Int32) (a5 : Int32) (a6 : Int32) : zseg (zE xs L (d + 5) 143) (zC 143) 700 (zC 143 0) [(0, .ref 61), (1, .int a1), (2, .int a2), (3, .int a3), (4, .int a4), (5, .int a5), (6, .int a6)] [] (zmk I J X) = if decide (¬ (zbi (¬ a3 < 0 ∧ ¬ I 61 3 ≤ a3)) = 0) = true then
  if decide (a1 < 0) = true then
    if decide ((I 61 4) = (40 : Int32)) = true then
      some (.inr (.inr (some (.int (-1 : Int32))), zmk (zup I 61 1 (0 : Int32)) J X))
      else some (.inr (.inr (some (.int (-1 : Int32))), zmk (zup I 61 1 (0 : Int32)) J X))
    else if decide ((24 : Int32) ≤ a1) = true then
      if decide ((I 61 4) = (40 : Int32)) = true then
        some (.inr (.inr (some (.int (-1 : Int32))), zmk (zup I 61 1 (0 : Int32)) J X))
        else some (.inr (.inr (some (.int (-1 : Int32))), zmk (zup I 61 1 (0 : Int32)) J X))
      else if decide (a2 < 0) = true then
        if decide ((I 61 4) = (40 : Int32)) = true then
          some (.inr (.inr (some (.int (-1 : Int32))), zmk (zup I 61 1 (0 : Int32)) J X))
          else some (.inr (.inr (some (.int (-1 : Int32))), zmk (zup I 61 1 (0 : Int32)) J X))
        else if decide ((24 : Int32) ≤ a2) = true then
          if decide ((I 61 4) = (40 : Int32)) = true then
            some (.inr (.inr (some (.int (-1 : Int32))), zmk (zup I 61 1 (0 : Int32)) J X))
            else some (.inr (.inr (some (.int (-1 : Int32))), zmk (zup I 61 1 (0 : Int32)) J X))
          else if decide (a1 = a2) = true then
            if decide ((I 61 4) = (40 : Int32)) = true then
              some (.inr (.inr (some (.int (-1 : Int32))), zmk (zup I 61 1 (0 : Int32)) J X))
              else some (.inr (.inr (some (.int (-1 : Int32))), zmk (zup I 61 1 (0 : Int32)) J X))
            else if decide (a4 < (1 : Int32)) = true then
              if decide ((I 61 4) = (40 : Int32)) = true then
                some (.inr (.inr (some (.int (-1 : Int32))), zmk (zup I 61 1 (0 : Int32)) J X))
                else some (.inr (.inr (some (.int (-1 : Int32))), zmk (zup I 61 1 (0 : Int32)) J X))
              else if decide ((999 : Int32) < a4) = true then
                if decide ((I 61 4) = (40 : Int32)) = true then
                  some (.inr (.inr (some (.int (-1 : Int32))), zmk (zup I 61 1 (0 : Int32)) J X))
                  else some (.inr (.inr (some (.int (-1 : Int32))), zmk (zup I 61 1 (0 : Int32)) J X))
                else if decide (a5 < 0) = true then
                  if decide ((I 61 4) = (40 : Int32)) = true then
                    some (.inr (.inr (some (.int (-1 : Int32))), zmk (zup I 61 1 (0 : Int32)) J X))
                    else some (.inr (.inr (some (.int (-1 : Int32))), zmk (zup I 61 1 (0 : Int32)) J X))
                  else if decide ((3 : Int32) < a5) = true then
                    if decide ((I 61 4) = (40 : Int32)) = true then
                      some (.inr (.inr (some (.int (-1 : Int32))), zmk (zup I 61 1 (0 : Int32)) J X))
                      else some (.inr (.inr (some (.int (-1 : Int32))), zmk (zup I 61 1 (0 : Int32)) J X))
                    else if decide ((I 61 4) = (40 : Int32)) = true then
                      some (.inr (.inr (some (.int (-1 : Int32))), zmk (zup I 61 1 (0 : Int32)) J X))
                      else if zix 0 40 0 (I 61 4) then
                        if zix 0 40 0 (I 61 4) then
                          if zix 0 40 0 (I 61 4) then
                            if zix 0 40 0 (I 61 4) then
                              if zix 0 40 0 (I 61 4) then
                                if zix 1 40 1 (I 61 4) then
                                  some (.inr (.inr (some (.int (((I 61 4) + (1 : Int32)) - (1 : Int32)))), zmk (zup (zup (zup (zup (zup (zup (zup (zup I 61 1 (0 : Int32)) 63 ((I 61 4).toNatClampNeg) a1) 64 ((I 61 4).toNatClampNeg) a2) 65 ((I 61 4).toNatClampNeg) a3) 66 ((I 61 4).toNatClampNeg) a4) 67 ((I 61 4).toNatClampNeg) a5) 73 ((I 61 4).toNatClampNeg) (vp_nar .boolean a6)) 61 4 ((I 61 4) + (1 : Int32))) J X))
                                  else none
                                else none
                              else none
                            else none
                          else none
                        else none
  else some (.inr (.inr (some (.int (0 : Int32))), zmk (zup (zup I 61 1 (0 : Int32)) 61 1 (1 : Int32)) J X)) := by
  refine zite_congr ?_ ?_
  · refine zite_congr ?_ ?_
    · refine zite_congr ?_ ?_
      · rfl
      · rfl
    · refine zite_congr ?_ ?_
      · refine zite_congr ?_ ?_
        · rfl
        · rfl
      · refine zite_congr ?_ ?_
        · refine zite_congr ?_ ?_
          · rfl
          · rfl
        · refine zite_congr ?_ ?_
          · refine zite_congr ?_ ?_
            · rfl
            · rfl
          · refine zite_congr ?_ ?_
            · refine zite_congr ?_ ?_
              · rfl
              · rfl
            · refine zite_congr ?_ ?_
              · refine zite_congr ?_ ?_
                · rfl
                · rfl
              · refine zite_congr ?_ ?_
                · refine zite_congr ?_ ?_
                  · rfl
                  · rfl
                · refine zite_congr ?_ ?_
                  · refine zite_congr ?_ ?_
                    · rfl
                    · rfl
                  · refine zite_congr ?_ ?_
                    · refine zite_congr ?_ ?_
                      · rfl
                      · rfl
                    · refine zite_congr ?_ ?_
                      · rfl
                      · refine zite_congr ?_ ?_
                        · refine zite_congr ?_ ?_
                          · refine zite_congr ?_ ?_
                            · refine zite_congr ?_ ?_
                              · refine zite_congr ?_ ?_
                                · refine zite_congr ?_ ?_
                                  · rfl
                                  · rfl
                                · rfl
                              · rfl
                            · rfl
                          · rfl
                        · rfl
  · rfl
/-! 146 TollTagsModel.provider (I)I -/
theorem S146_0 (xs : Nat → Int32) (L d : Nat) (I : Nat → Nat → Int32) (J : Nat → Nat → Int64) (X : XH) (a1 : Int32) : zseg (zE xs L (d + 5) 146) (zC 146) 700 (zC 146 0) [(0, .ref 61), (1, .int a1)] [] (zmk I J X) = if decide ((I 61 5) = (6 : Int32)) = true then
  some (.inr (.inr (some (.int (-1 : Int32))), zmk (zup I 61 1 (0 : Int32)) J X))
  else if decide (a1 < 0) = true then
    some (.inr (.inr (some (.int (-1 : Int32))), zmk (zup I 61 1 (0 : Int32)) J X))
    else if decide (a1 ≤ (1000000 : Int32)) = true then
      if zix 0 6 0 (I 61 5) then
        some (.inr (.inr (some (.int (((I 61 5) + (1 : Int32)) - (1 : Int32)))), zmk (zup (zup (zup I 61 1 (0 : Int32)) 68 ((I 61 5).toNatClampNeg) a1) 61 5 ((I 61 5) + (1 : Int32))) J X))
        else none
      else some (.inr (.inr (some (.int (-1 : Int32))), zmk (zup I 61 1 (0 : Int32)) J X)) := by
  refine zite_congr ?_ ?_
  · rfl
  · refine zite_congr ?_ ?_
    · rfl
    · refine zite_congr ?_ ?_
      · refine zite_congr ?_ ?_
        · rfl
        · rfl
      · rfl
/-! 147 TollTagsModel.lorry (II)I -/
theorem S147_0 (xs : Nat → Int32) (L d : Nat) (I : Nat → Nat → Int32) (J : Nat → Nat → Int64) (X : XH) (a1 : Int32) (a2 : Int32) : zseg (zE xs L (d + 5) 147) (zC 147) 700 (zC 147 0) [(0, .ref 61), (1, .int a1), (2, .int a2)] [] (zmk I J X) = if decide ((I 61 6) = (16 : Int32)) = true then
  some (.inr (.inr (some (.int (-1 : Int32))), zmk (zup I 61 1 (0 : Int32)) J X))
  else if decide (a1 < (2 : Int32)) = true then
    some (.inr (.inr (some (.int (-1 : Int32))), zmk (zup I 61 1 (0 : Int32)) J X))
    else if decide ((9 : Int32) < a1) = true then
      some (.inr (.inr (some (.int (-1 : Int32))), zmk (zup I 61 1 (0 : Int32)) J X))
      else if decide (a2 < 0) = true then
        some (.inr (.inr (some (.int (-1 : Int32))), zmk (zup I 61 1 (0 : Int32)) J X))
        else if decide (a2 ≤ (6 : Int32)) = true then
          if zix 0 16 0 (I 61 6) then
            if zix 0 16 0 (I 61 6) then
              some (.inr (.inr (some (.int (((I 61 6) + (1 : Int32)) - (1 : Int32)))), zmk (zup (zup (zup (zup I 61 1 (0 : Int32)) 69 ((I 61 6).toNatClampNeg) a1) 70 ((I 61 6).toNatClampNeg) a2) 61 6 ((I 61 6) + (1 : Int32))) J X))
              else none
            else none
          else some (.inr (.inr (some (.int (-1 : Int32))), zmk (zup I 61 1 (0 : Int32)) J X)) := by
  refine zite_congr ?_ ?_
  · rfl
  · refine zite_congr ?_ ?_
    · rfl
    · refine zite_congr ?_ ?_
      · rfl
      · refine zite_congr ?_ ?_
        · rfl
        · refine zite_congr ?_ ?_
          · refine zite_congr ?_ ?_
            · refine zite_congr ?_ ?_
              · rfl
              · rfl
            · rfl
          · rfl
/-! 148 TollTagsModel.box (II)I -/
theorem S148_0 (xs : Nat → Int32) (L d : Nat) (I : Nat → Nat → Int32) (J : Nat → Nat → Int64) (X : XH) (a1 : Int32) (a2 : Int32) : zseg (zE xs L (d + 5) 148) (zC 148) 700 (zC 148 0) [(0, .ref 61), (1, .int a1), (2, .int a2)] [] (zmk I J X) = if decide (a1 < 0) = true then
  some (.inr (.inr (some (.int (0 : Int32))), zmk (zup (zup I 61 1 (0 : Int32)) 61 1 (1 : Int32)) J X))
  else if decide ((I 61 6) ≤ a1) = true then
    some (.inr (.inr (some (.int (0 : Int32))), zmk (zup (zup I 61 1 (0 : Int32)) 61 1 (1 : Int32)) J X))
    else if decide (a2 < 0) = true then
      some (.inr (.inr (some (.int (0 : Int32))), zmk (zup (zup I 61 1 (0 : Int32)) 61 1 (1 : Int32)) J X))
      else if decide (a2 < (I 61 5)) = true then
        if decide (¬ (I 61 7) = (24 : Int32)) = true then
          if zix 0 24 0 (I 61 7) then
            if zix 0 24 0 (I 61 7) then
              some (.inr (.inr (some (.int (((I 61 7) + (1 : Int32)) - (1 : Int32)))), zmk (zup (zup (zup (zup I 61 1 (0 : Int32)) 71 ((I 61 7).toNatClampNeg) a1) 72 ((I 61 7).toNatClampNeg) a2) 61 7 ((I 61 7) + (1 : Int32))) J X))
              else none
            else none
          else some (.inr (.inr (some (.int (-1 : Int32))), zmk (zup I 61 1 (0 : Int32)) J X))
        else some (.inr (.inr (some (.int (0 : Int32))), zmk (zup (zup I 61 1 (0 : Int32)) 61 1 (1 : Int32)) J X)) := by
  refine zite_congr ?_ ?_
  · rfl
  · refine zite_congr ?_ ?_
    · rfl
    · refine zite_congr ?_ ?_
      · rfl
      · refine zite_congr ?_ ?_
        · refine zite_congr ?_ ?_
          · refine zite_congr ?_ ?_
            · refine zite_congr ?_ ?_
              · rfl
              · rfl
            · rfl
          · rfl
        · rfl
/-! 149 TollTagsModel.go (I)I -/
theorem S149_0 (xs : Nat → Int32) (L d : Nat) (I : Nat → Nat → Int32) (J : Nat → Nat → Int64) (X : XH) (a1 : Int32) : zseg (zE xs L (d + 5) 149) (zC 149) 700 (zC 149 0) [(0, .ref 61), (1, .int a1)] [] (zmk I J X) = if decide (a1 < 0) = true then
  some (.inr (.inr (some (.int (0 : Int32))), zmk (zup (zup I 61 1 (0 : Int32)) 61 1 (1 : Int32)) J X))
  else if decide ((129599 : Int32) < a1) = true then
    some (.inr (.inr (some (.int (0 : Int32))), zmk (zup (zup I 61 1 (0 : Int32)) 61 1 (1 : Int32)) J X))
    else if decide (((I 61 2) + a1) ≤ (129599 : Int32)) = true then
      some (.inr (.inr (some (.int ((I 61 2) + a1))), zmk (zup (zup I 61 1 (0 : Int32)) 61 2 ((I 61 2) + a1)) J X))
      else some (.inr (.inr (some (.int (0 : Int32))), zmk (zup (zup I 61 1 (0 : Int32)) 61 1 (1 : Int32)) J X)) := by
  refine zite_congr ?_ ?_
  · rfl
  · refine zite_congr ?_ ?_
    · rfl
    · refine zite_congr ?_ ?_
      · rfl
      · rfl
/-! 150 TollTagsModel.signal (III)I -/
theorem S150_0 (xs : Nat → Int32) (L d : Nat) (I : Nat → Nat → Int32) (J : Nat → Nat → Int64) (X : XH) (a1 : Int32) (a2 : Int32) (a3 : Int32) : zseg (zE xs L (d + 5) 150) (zC 150) 700 (zC 150 0) [(0, .ref 61), (1, .int a1), (2, .int a2), (3, .int a3)] [] (zmk I J X) = if decide ((zbi (¬ a1 < 0 ∧ ¬ I 61 7 ≤ a1)) = 0) = true then
  some (.inr (.inr (some (.int (0 : Int32))), zmk (zup (zup I 61 1 (0 : Int32)) 61 1 (1 : Int32)) J X))
  else if decide (¬ (zbi (¬ a2 < 0 ∧ ¬ I 61 4 ≤ a2)) = 0) = true then
    if decide ((I 61 19) = (300 : Int32)) = true then
      some (.inr (.inr (some (.int (-1 : Int32))), zmk (zup I 61 1 (0 : Int32)) J X))
      else if zix 1 40 1 a2 then
        if decide ((I 73 a2.toNatClampNeg) = 0) = true then
          some (.inr (.inr (some (.int (-1 : Int32))), zmk (zup I 61 1 (0 : Int32)) J X))
          else if decide (a3 < 0) = true then
            some (.inr (.inr (some (.int (-1 : Int32))), zmk (zup I 61 1 (0 : Int32)) J X))
            else if decide (a3 ≤ (I 61 2)) = true then
              if zix 0 300 0 (I 61 19) then
                if zix 0 300 0 (I 61 19) then
                  if zix 0 300 0 (I 61 19) then
                    if zix 0 300 0 (I 61 19) then
                      if zix 0 300 0 (I 61 19) then
                        some (.inr (.inr (some (.int (((I 61 19) + (1 : Int32)) - (1 : Int32)))), zmk (zup (zup (zup (zup (zup (zup (zup I 61 1 (0 : Int32)) 74 ((I 61 19).toNatClampNeg) a1) 75 ((I 61 19).toNatClampNeg) a2) 76 ((I 61 19).toNatClampNeg) a3) 77 ((I 61 19).toNatClampNeg) (I 61 2)) 78 ((I 61 19).toNatClampNeg) (-1 : Int32)) 61 19 ((I 61 19) + (1 : Int32))) J X))
                        else none
                      else none
                    else none
                  else none
                else none
              else some (.inr (.inr (some (.int (-1 : Int32))), zmk (zup I 61 1 (0 : Int32)) J X))
        else none
    else some (.inr (.inr (some (.int (0 : Int32))), zmk (zup (zup I 61 1 (0 : Int32)) 61 1 (1 : Int32)) J X)) := by
  refine zite_congr ?_ ?_
  · rfl
  · refine zite_congr ?_ ?_
    · refine zite_congr ?_ ?_
      · rfl
      · refine zite_congr ?_ ?_
        · refine zite_congr ?_ ?_
          · rfl
          · refine zite_congr ?_ ?_
            · rfl
            · refine zite_congr ?_ ?_
              · refine zite_congr ?_ ?_
                · refine zite_congr ?_ ?_
                  · refine zite_congr ?_ ?_
                    · refine zite_congr ?_ ?_
                      · refine zite_congr ?_ ?_
                        · rfl
                        · rfl
                      · rfl
                    · rfl
                  · rfl
                · rfl
              · rfl
        · rfl
    · rfl
/-! 153 TollTagsModel.back (I)Z -/
theorem S153_0 (xs : Nat → Int32) (L d : Nat) (I : Nat → Nat → Int32) (J : Nat → Nat → Int64) (X : XH) (a1 : Int32) : zseg (zE xs L (d + 5) 153) (zC 153) 700 (zC 153 0) [(0, .ref 61), (1, .int a1)] [] (zmk I J X) = if decide (¬ (zbi (¬ a1 < 0 ∧ ¬ I 61 19 ≤ a1)) = 0) = true then
  if zix 0 300 0 a1 then
    if decide ((I 78 a1.toNatClampNeg) = (-1 : Int32)) = true then
      if zix 0 300 0 a1 then
        some (.inr (.inr (some (.int (1 : Int32))), zmk (zup (zup I 61 1 (0 : Int32)) 78 a1.toNatClampNeg (I 61 2)) J X))
        else none
      else some (.inr (.inr (some (.int (0 : Int32))), zmk (zup I 61 1 (0 : Int32)) J X))
    else none
  else some (.inr (.inr (some (.int (0 : Int32))), zmk (zup (zup I 61 1 (0 : Int32)) 61 1 (1 : Int32)) J X)) := by
  refine zite_congr ?_ ?_
  · refine zite_congr ?_ ?_
    · refine zite_congr ?_ ?_
      · refine zite_congr ?_ ?_
        · rfl
        · rfl
      · rfl
    · rfl
  · rfl
/-! 156 TollTagsModel.dispute (I)I -/
theorem S156_0 (xs : Nat → Int32) (L d : Nat) (I : Nat → Nat → Int32) (J : Nat → Nat → Int64) (X : XH) (a1 : Int32) : zseg (zE xs L (d + 5) 156) (zC 156) 700 (zC 156 0) [(0, .ref 61), (1, .int a1)] [] (zmk I J X) = if decide (¬ (zbi (¬ a1 < 0 ∧ ¬ I 61 19 ≤ a1)) = 0) = true then
  if decide (¬ (I 61 20) = (40 : Int32)) = true then
    if zix 0 40 0 (I 61 20) then
      if zix 0 40 0 (I 61 20) then
        some (.inr (.inr (some (.int (((I 61 20) + (1 : Int32)) - (1 : Int32)))), zmk (zup (zup (zup (zup I 61 1 (0 : Int32)) 79 ((I 61 20).toNatClampNeg) a1) 80 ((I 61 20).toNatClampNeg) (-1 : Int32)) 61 20 ((I 61 20) + (1 : Int32))) J X))
        else none
      else none
    else some (.inr (.inr (some (.int (-1 : Int32))), zmk (zup I 61 1 (0 : Int32)) J X))
  else some (.inr (.inr (some (.int (0 : Int32))), zmk (zup (zup I 61 1 (0 : Int32)) 61 1 (1 : Int32)) J X)) := by
  refine zite_congr ?_ ?_
  · refine zite_congr ?_ ?_
    · refine zite_congr ?_ ?_
      · refine zite_congr ?_ ?_
        · rfl
        · rfl
      · rfl
    · rfl
  · rfl
/-! 157 TollTagsModel.decide (III)Z -/
theorem S157_0 (xs : Nat → Int32) (L d : Nat) (I : Nat → Nat → Int32) (J : Nat → Nat → Int64) (X : XH) (a1 : Int32) (a2 : Int32) (a3 : Int32) : zseg (zE xs L (d + 5) 157) (zC 157) 700 (zC 157 0) [(0, .ref 61), (1, .int a1), (2, .int a2), (3, .int a3)] [] (zmk I J X) = if decide (a1 < 0) = true then
  some (.inr (.inr (some (.int (0 : Int32))), zmk (zup (zup I 61 1 (0 : Int32)) 61 1 (1 : Int32)) J X))
  else if decide ((I 61 20) ≤ a1) = true then
    some (.inr (.inr (some (.int (0 : Int32))), zmk (zup (zup I 61 1 (0 : Int32)) 61 1 (1 : Int32)) J X))
    else if decide (¬ a2 = (2 : Int32)) = true then
      if zix 0 40 0 a1 then
        if decide (¬ (I 80 a1.toNatClampNeg) = (-1 : Int32)) = true then
          some (.inr (.inr (some (.int (0 : Int32))), zmk (zup I 61 1 (0 : Int32)) J X))
          else if decide (a2 < 0) = true then
            some (.inr (.inr (some (.int (0 : Int32))), zmk (zup I 61 1 (0 : Int32)) J X))
            else if decide ((2 : Int32) < a2) = true then
              some (.inr (.inr (some (.int (0 : Int32))), zmk (zup I 61 1 (0 : Int32)) J X))
              else if decide (¬ a2 = (2 : Int32)) = true then
                if zix 0 40 0 a1 then
                  if zix 0 40 0 a1 then
                    if zix 0 40 0 a1 then
                      if zix 0 40 0 a1 then
                        some (.inr (.inr (some (.int (1 : Int32))), zmk (zup (zup (zup (zup (zup (zup I 61 1 (0 : Int32)) 80 a1.toNatClampNeg (I 61 2)) 82 a1.toNatClampNeg a2) 83 a1.toNatClampNeg a3) 61 21 ((I 61 21) + (1 : Int32))) 81 a1.toNatClampNeg ((I 61 21) + (1 : Int32))) J X))
                        else none
                      else none
                    else none
                  else none
                else if zix 1 40 1 a3 then
                  if decide (¬ (I 73 a3.toNatClampNeg) = 0) = true then
                    if zix 0 40 0 a1 then
                      if zix 0 40 0 a1 then
                        if zix 0 40 0 a1 then
                          if zix 0 40 0 a1 then
                            some (.inr (.inr (some (.int (1 : Int32))), zmk (zup (zup (zup (zup (zup (zup I 61 1 (0 : Int32)) 80 a1.toNatClampNeg (I 61 2)) 82 a1.toNatClampNeg a2) 83 a1.toNatClampNeg a3) 61 21 ((I 61 21) + (1 : Int32))) 81 a1.toNatClampNeg ((I 61 21) + (1 : Int32))) J X))
                            else none
                          else none
                        else none
                      else none
                    else some (.inr (.inr (some (.int (0 : Int32))), zmk (zup I 61 1 (0 : Int32)) J X))
                  else none
        else none
      else if decide (¬ (zbi (¬ a3 < 0 ∧ ¬ I 61 4 ≤ a3)) = 0) = true then
        if zix 0 40 0 a1 then
          if decide (¬ (I 80 a1.toNatClampNeg) = (-1 : Int32)) = true then
            some (.inr (.inr (some (.int (0 : Int32))), zmk (zup I 61 1 (0 : Int32)) J X))
            else if decide (a2 < 0) = true then
              some (.inr (.inr (some (.int (0 : Int32))), zmk (zup I 61 1 (0 : Int32)) J X))
              else if decide ((2 : Int32) < a2) = true then
                some (.inr (.inr (some (.int (0 : Int32))), zmk (zup I 61 1 (0 : Int32)) J X))
                else if decide (¬ a2 = (2 : Int32)) = true then
                  if zix 0 40 0 a1 then
                    if zix 0 40 0 a1 then
                      if zix 0 40 0 a1 then
                        if zix 0 40 0 a1 then
                          some (.inr (.inr (some (.int (1 : Int32))), zmk (zup (zup (zup (zup (zup (zup I 61 1 (0 : Int32)) 80 a1.toNatClampNeg (I 61 2)) 82 a1.toNatClampNeg a2) 83 a1.toNatClampNeg a3) 61 21 ((I 61 21) + (1 : Int32))) 81 a1.toNatClampNeg ((I 61 21) + (1 : Int32))) J X))
                          else none
                        else none
                      else none
                    else none
                  else if zix 1 40 1 a3 then
                    if decide (¬ (I 73 a3.toNatClampNeg) = 0) = true then
                      if zix 0 40 0 a1 then
                        if zix 0 40 0 a1 then
                          if zix 0 40 0 a1 then
                            if zix 0 40 0 a1 then
                              some (.inr (.inr (some (.int (1 : Int32))), zmk (zup (zup (zup (zup (zup (zup I 61 1 (0 : Int32)) 80 a1.toNatClampNeg (I 61 2)) 82 a1.toNatClampNeg a2) 83 a1.toNatClampNeg a3) 61 21 ((I 61 21) + (1 : Int32))) 81 a1.toNatClampNeg ((I 61 21) + (1 : Int32))) J X))
                              else none
                            else none
                          else none
                        else none
                      else some (.inr (.inr (some (.int (0 : Int32))), zmk (zup I 61 1 (0 : Int32)) J X))
                    else none
          else none
        else some (.inr (.inr (some (.int (0 : Int32))), zmk (zup (zup I 61 1 (0 : Int32)) 61 1 (1 : Int32)) J X)) := by
  refine zite_congr ?_ ?_
  · rfl
  · refine zite_congr ?_ ?_
    · rfl
    · refine zite_congr ?_ ?_
      · refine zite_congr ?_ ?_
        · refine zite_congr ?_ ?_
          · rfl
          · refine zite_congr ?_ ?_
            · rfl
            · refine zite_congr ?_ ?_
              · rfl
              · refine zite_congr ?_ ?_
                · refine zite_congr ?_ ?_
                  · refine zite_congr ?_ ?_
                    · refine zite_congr ?_ ?_
                      · refine zite_congr ?_ ?_
                        · rfl
                        · rfl
                      · rfl
                    · rfl
                  · rfl
                · refine zite_congr ?_ ?_
                  · refine zite_congr ?_ ?_
                    · refine zite_congr ?_ ?_
                      · refine zite_congr ?_ ?_
                        · refine zite_congr ?_ ?_
                          · refine zite_congr ?_ ?_
                            · rfl
                            · rfl
                          · rfl
                        · rfl
                      · rfl
                    · rfl
                  · rfl
        · rfl
      · refine zite_congr ?_ ?_
        · refine zite_congr ?_ ?_
          · refine zite_congr ?_ ?_
            · rfl
            · refine zite_congr ?_ ?_
              · rfl
              · refine zite_congr ?_ ?_
                · rfl
                · refine zite_congr ?_ ?_
                  · refine zite_congr ?_ ?_
                    · refine zite_congr ?_ ?_
                      · refine zite_congr ?_ ?_
                        · refine zite_congr ?_ ?_
                          · rfl
                          · rfl
                        · rfl
                      · rfl
                    · rfl
                  · refine zite_congr ?_ ?_
                    · refine zite_congr ?_ ?_
                      · refine zite_congr ?_ ?_
                        · refine zite_congr ?_ ?_
                          · refine zite_congr ?_ ?_
                            · refine zite_congr ?_ ?_
                              · rfl
                              · rfl
                            · rfl
                          · rfl
                        · rfl
                      · rfl
                    · rfl
          · rfl
        · rfl
/-! 158 TollTagsModel.feed (IIIII)I -/
theorem S158_0 (xs : Nat → Int32) (L d : Nat) (I : Nat → Nat → Int32) (J : Nat → Nat → Int64) (X : XH) (a1 : Int32) (a2 : Int32) (a3 : Int32) (a4 : Int32) (a5 : Int32) : zseg (zE xs L (d + 5) 158) (zC 158) 700 (zC 158 0) [(0, .ref 61), (1, .int a1), (2, .int a2), (3, .int a3), (4, .int a4), (5, .int a5)] [] (zmk I J X) = if decide (((I 61 57) + (20 : Int32)) ≤ (400 : Int32)) = true then
  some (.inl (3, [(0, .ref 61), (1, .int a1), (2, .int a2), (3, .int a3), (4, .int a4), (5, .int a5), (6, .int (0 : Int32))], zmk (zup I 61 1 (0 : Int32)) J X))
  else some (.inr (.inr (some (.int (-1 : Int32))), zmk (zup I 61 1 (0 : Int32)) J X)) := by
  refine zite_congr ?_ ?_
  · rfl
  · rfl
theorem S158_3 (xs : Nat → Int32) (L d : Nat) (I : Nat → Nat → Int32) (J : Nat → Nat → Int64) (X : XH) (a1 : Int32) (a2 : Int32) (a3 : Int32) (a4 : Int32) (a5 : Int32) (a6 : Int32) : zseg (zE xs L (d + 5) 158) (zC 158) 700 (zC 158 3) [(0, .ref 61), (1, .int a1), (2, .int a2), (3, .int a3), (4, .int a4), (5, .int a5), (6, .int a6)] [] (zmk I J X) = if decide ((20 : Int32) ≤ a6) = true then
  some (.inr (.inr (some (.int (I 61 57))), zmk I J X))
  else if decide ((4 : Int32) ≤ a6) = true then
    if decide ((8 : Int32) ≤ a6) = true then
      if decide ((12 : Int32) ≤ a6) = true then
        if decide ((16 : Int32) ≤ a6) = true then
          if zix 0 400 0 (I 61 57) then
            some (.inl (3, [(0, .ref 61), (1, .int a1), (2, .int a2), (3, .int a3), (4, .int a4), (5, .int a5), (6, .int (a6 + (1 : Int32)))], zmk (zup (zup I 104 ((I 61 57).toNatClampNeg) ((a5 >>> (((24 : Int32) - ((8 : Int32) * (a6 - a6 / (4 : Int32) * (4 : Int32)))) &&& 31)) &&& (255 : Int32))) 61 57 ((I 61 57) + (1 : Int32))) J X))
            else none
          else if zix 0 400 0 (I 61 57) then
            some (.inl (3, [(0, .ref 61), (1, .int a1), (2, .int a2), (3, .int a3), (4, .int a4), (5, .int a5), (6, .int (a6 + (1 : Int32)))], zmk (zup (zup I 104 ((I 61 57).toNatClampNeg) ((a4 >>> (((24 : Int32) - ((8 : Int32) * (a6 - a6 / (4 : Int32) * (4 : Int32)))) &&& 31)) &&& (255 : Int32))) 61 57 ((I 61 57) + (1 : Int32))) J X))
            else none
        else if zix 0 400 0 (I 61 57) then
          some (.inl (3, [(0, .ref 61), (1, .int a1), (2, .int a2), (3, .int a3), (4, .int a4), (5, .int a5), (6, .int (a6 + (1 : Int32)))], zmk (zup (zup I 104 ((I 61 57).toNatClampNeg) ((a3 >>> (((24 : Int32) - ((8 : Int32) * (a6 - a6 / (4 : Int32) * (4 : Int32)))) &&& 31)) &&& (255 : Int32))) 61 57 ((I 61 57) + (1 : Int32))) J X))
          else none
      else if zix 0 400 0 (I 61 57) then
        some (.inl (3, [(0, .ref 61), (1, .int a1), (2, .int a2), (3, .int a3), (4, .int a4), (5, .int a5), (6, .int (a6 + (1 : Int32)))], zmk (zup (zup I 104 ((I 61 57).toNatClampNeg) ((a2 >>> (((24 : Int32) - ((8 : Int32) * (a6 - a6 / (4 : Int32) * (4 : Int32)))) &&& 31)) &&& (255 : Int32))) 61 57 ((I 61 57) + (1 : Int32))) J X))
        else none
    else if zix 0 400 0 (I 61 57) then
      some (.inl (3, [(0, .ref 61), (1, .int a1), (2, .int a2), (3, .int a3), (4, .int a4), (5, .int a5), (6, .int (a6 + (1 : Int32)))], zmk (zup (zup I 104 ((I 61 57).toNatClampNeg) ((a1 >>> (((24 : Int32) - ((8 : Int32) * (a6 - a6 / (4 : Int32) * (4 : Int32)))) &&& 31)) &&& (255 : Int32))) 61 57 ((I 61 57) + (1 : Int32))) J X))
      else none := by
  refine zite_congr ?_ ?_
  · rfl
  · refine zite_congr ?_ ?_
    · refine zite_congr ?_ ?_
      · refine zite_congr ?_ ?_
        · refine zite_congr ?_ ?_
          · refine zite_congr ?_ ?_
            · rfl
            · rfl
          · refine zite_congr ?_ ?_
            · rfl
            · rfl
        · refine zite_congr ?_ ?_
          · rfl
          · rfl
      · refine zite_congr ?_ ?_
        · rfl
        · rfl
    · refine zite_congr ?_ ?_
      · rfl
      · rfl
/-! 159 TollTagsModel.terms (III)I -/
theorem S159_0 (xs : Nat → Int32) (L d : Nat) (I : Nat → Nat → Int32) (J : Nat → Nat → Int64) (X : XH) (a1 : Int32) (a2 : Int32) (a3 : Int32) : zseg (zE xs L (d + 5) 159) (zC 159) 700 (zC 159 0) [(0, .ref 61), (1, .int a1), (2, .int a2), (3, .int a3)] [] (zmk I J X) = if decide (¬ (zbi (¬ a1 < 0 ∧ ¬ I 61 3 ≤ a1)) = 0) = true then
  if decide (a2 < 0) = true then
    some (.inr (.inr (some (.int (0 : Int32))), zmk (zup (zup I 61 1 (0 : Int32)) 61 1 (2 : Int32)) J X))
    else if decide (a2 ≤ (I 61 57)) = true then
      if zix 0 9 0 a1 then
        if decide ((I 92 a1.toNatClampNeg) = (4 : Int32)) = true then
          some (.inr (.inr (some (.int (9 : Int32))), zmk (zup (zup (zup I 61 1 (0 : Int32)) 61 57 (0 : Int32)) 61 67 (-1 : Int32)) J X))
          else if decide (a3 < 0) = true then
            some (.inr (.inr (some (.int (9 : Int32))), zmk (zup (zup (zup I 61 1 (0 : Int32)) 61 57 (0 : Int32)) 61 67 (-1 : Int32)) J X))
            else if decide (a3 ≤ (129599 : Int32)) = true then
              if zix 0 9 0 a1 then
                zci (zE xs L (d + 5) 159) (zev xs L (d + 5) 160 [.ref 61, .int (((4 : Int32) * a1) + (I 92 a1.toNatClampNeg)), .int a2] (zmk (zup (zup (zup I 61 1 (0 : Int32)) 61 57 (0 : Int32)) 61 67 (-1 : Int32)) J X)) (fun r h => zseg (zE xs L (d + 5) 159) (zC 159) 657 (zB159_5.drop 13) [(4, .int (((4 : Int32) * a1) + (I 92 a1.toNatClampNeg))), (0, .ref 61), (1, .int a1), (2, .int a2), (3, .int a3)] [.int r] h)
                else none
              else some (.inr (.inr (some (.int (9 : Int32))), zmk (zup (zup (zup I 61 1 (0 : Int32)) 61 57 (0 : Int32)) 61 67 (-1 : Int32)) J X))
        else none
      else some (.inr (.inr (some (.int (0 : Int32))), zmk (zup (zup I 61 1 (0 : Int32)) 61 1 (2 : Int32)) J X))
  else some (.inr (.inr (some (.int (0 : Int32))), zmk (zup (zup I 61 1 (0 : Int32)) 61 1 (1 : Int32)) J X)) := by
  refine zite_congr ?_ ?_
  · refine zite_congr ?_ ?_
    · rfl
    · refine zite_congr ?_ ?_
      · refine zite_congr ?_ ?_
        · refine zite_congr ?_ ?_
          · rfl
          · refine zite_congr ?_ ?_
            · rfl
            · refine zite_congr ?_ ?_
              · refine zite_congr ?_ ?_
                · rfl
                · rfl
              · rfl
        · rfl
      · rfl
  · rfl
theorem T159_5_13_657 (xs : Nat → Int32) (L d : Nat) (I : Nat → Nat → Int32) (J : Nat → Nat → Int64) (X : XH) (a4 : Int32) (a1 : Int32) (a2 : Int32) (a3 : Int32) (b0 : Int32) : zseg (zE xs L (d + 5) 159) (zC 159) 657 (zB159_5.drop 13) [(4, .int a4), (0, .ref 61), (1, .int a1), (2, .int a2), (3, .int a3)] [.int b0] (zmk I J X) = if decide (b0 = 0) = true then
  if zix 0 37 0 a4 then
    if zix 0 37 0 a4 then
      if zix 0 9 0 a1 then
        if zix 0 9 0 a1 then
          some (.inr (.inr (some (.int (0 : Int32))), zmk (zup (zup (zup I 93 a4.toNatClampNeg a3) 94 a4.toNatClampNeg (I 61 2)) 92 a1.toNatClampNeg ((I 92 a1.toNatClampNeg) + (1 : Int32))) J X))
          else none
        else none
      else none
    else none
  else some (.inr (.inr (some (.int (I 61 65))), zmk I J X)) := by
  refine zite_congr ?_ ?_
  · refine zite_congr ?_ ?_
    · refine zite_congr ?_ ?_
      · refine zite_congr ?_ ?_
        · refine zite_congr ?_ ?_
          · rfl
          · rfl
        · rfl
      · rfl
    · rfl
  · rfl
/-! 160 TollTagsModel.readTerms (II)I -/
theorem S160_0 (xs : Nat → Int32) (L d : Nat) (I : Nat → Nat → Int32) (J : Nat → Nat → Int64) (X : XH) (a1 : Int32) (a2 : Int32) : zseg (zE xs L (d + 5) 160) (zC 160) 700 (zC 160 0) [(0, .ref 61), (1, .int a1), (2, .int a2)] [] (zmk I J X) = if zix 0 37 0 a1 then
  if zix 0 37 0 a1 then
    if zix 0 37 0 a1 then
      zcw (zE xs L (d + 5) 160) (zev xs L (d + 5) 161 [.ref 61] (zmk (zup (zup (zup (zup (zup (zup (zup I 61 59 a2) 61 58 (0 : Int32)) 61 65 (0 : Int32)) 61 68 (0 : Int32)) 95 a1.toNatClampNeg (0 : Int32)) 96 a1.toNatClampNeg (10080 : Int32)) 97 a1.toNatClampNeg (30 : Int32)) J X)) (fun h => zseg (zE xs L (d + 5) 160) (zC 160) 671 (zB160_0.drop 29) [(0, .ref 61), (1, .int a1), (2, .int a2)] [] h)
      else none
    else none
  else none := by
  refine zite_congr ?_ ?_
  · refine zite_congr ?_ ?_
    · refine zite_congr ?_ ?_
      · rfl
      · rfl
    · rfl
  · rfl
theorem T160_0_29_671 (xs : Nat → Int32) (L d : Nat) (I : Nat → Nat → Int32) (J : Nat → Nat → Int64) (X : XH) (a1 : Int32) (a2 : Int32) : zseg (zE xs L (d + 5) 160) (zC 160) 671 (zB160_0.drop 29) [(0, .ref 61), (1, .int a1), (2, .int a2)] [] (zmk I J X) = some (.inl (2, [(0, .ref 61), (1, .int a1), (2, .int a2), (3, .int (0 : Int32))], zmk I J X)) := by
  rfl
theorem S160_2 (xs : Nat → Int32) (L d : Nat) (I : Nat → Nat → Int32) (J : Nat → Nat → Int64) (X : XH) (a1 : Int32) (a2 : Int32) (a3 : Int32) : zseg (zE xs L (d + 5) 160) (zC 160) 700 (zC 160 2) [(0, .ref 61), (1, .int a1), (2, .int a2), (3, .int a3)] [] (zmk I J X) = if decide (¬ (I 61 65) = 0) = true then
  if decide (¬ (I 61 65) = 0) = true then
    some (.inr (.inr (some (.int (I 61 65))), zmk (zup I 61 67 (I 61 66)) J X))
    else some (.inr (.inr (some (.int (I 61 65))), zmk (zup I 61 67 (-1 : Int32)) J X))
  else if decide ((I 61 60) = 0) = true then
    if decide (¬ (I 61 65) = 0) = true then
      some (.inr (.inr (some (.int (I 61 65))), zmk (zup I 61 67 (I 61 66)) J X))
      else some (.inr (.inr (some (.int (I 61 65))), zmk (zup I 61 67 (-1 : Int32)) J X))
    else zcw (zE xs L (d + 5) 160) (zev xs L (d + 5) 165 [.ref 61, .int a1, .int a3] (zmk I J X)) (fun h => zseg (zE xs L (d + 5) 160) (zC 160) 690 (zB160_2.drop 10) [(0, .ref 61), (1, .int a1), (2, .int a2), (3, .int a3)] [] h) := by
  refine zite_congr ?_ ?_
  · refine zite_congr ?_ ?_
    · rfl
    · rfl
  · refine zite_congr ?_ ?_
    · refine zite_congr ?_ ?_
      · rfl
      · rfl
    · rfl
theorem T160_2_10_690 (xs : Nat → Int32) (L d : Nat) (I : Nat → Nat → Int32) (J : Nat → Nat → Int64) (X : XH) (a1 : Int32) (a2 : Int32) (a3 : Int32) : zseg (zE xs L (d + 5) 160) (zC 160) 690 (zB160_2.drop 10) [(0, .ref 61), (1, .int a1), (2, .int a2), (3, .int a3)] [] (zmk I J X) = some (.inl (2, [(0, .ref 61), (1, .int a1), (2, .int a2), (3, .int (a3 + (1 : Int32)))], zmk I J X)) := by
  rfl
/-! 161 TollTagsModel.step ()V -/
theorem S161_0 (xs : Nat → Int32) (L d : Nat) (I : Nat → Nat → Int32) (J : Nat → Nat → Int64) (X : XH) : zseg (zE xs L (d + 5) 161) (zC 161) 700 (zC 161 0) [(0, .ref 61)] [] (zmk I J X) = some (.inl (1, [(0, .ref 61)], zmk I J X)) := by
  rfl
theorem S161_1 (xs : Nat → Int32) (L d : Nat) (I : Nat → Nat → Int32) (J : Nat → Nat → Int64) (X : XH) : zseg (zE xs L (d + 5) 161) (zC 161) 700 (zC 161 1) [(0, .ref 61)] [] (zmk I J X) = zci (zE xs L (d + 5) 161) (zev xs L (d + 5) 162 [.ref 61, .int (I 61 58)] (zmk I J X)) (fun r h => zseg (zE xs L (d + 5) 161) (zC 161) 696 (zB161_1.drop 4) [(0, .ref 61)] [.int r] h) := by
  rfl
theorem T161_1_4_696 (xs : Nat → Int32) (L d : Nat) (I : Nat → Nat → Int32) (J : Nat → Nat → Int64) (X : XH) (b0 : Int32) : zseg (zE xs L (d + 5) 161) (zC 161) 696 (zB161_1.drop 4) [(0, .ref 61)] [.int b0] (zmk I J X) = if decide (b0 = (32 : Int32)) = true then
  some (.inl (1, [(0, .ref 61)], zmk (zup I 61 58 ((I 61 58) + (1 : Int32))) J X))
  else zci (zE xs L (d + 5) 161) (zev xs L (d + 5) 162 [.ref 61, .int (I 61 58)] (zmk I J X)) (fun r h => zseg (zE xs L (d + 5) 161) (zC 161) 690 (zB161_1.drop 10) [(0, .ref 61)] [.int r] h) := by
  refine zite_congr ?_ ?_
  · rfl
  · rfl
theorem T161_1_10_690 (xs : Nat → Int32) (L d : Nat) (I : Nat → Nat → Int32) (J : Nat → Nat → Int64) (X : XH) (b0 : Int32) : zseg (zE xs L (d + 5) 161) (zC 161) 690 (zB161_1.drop 10) [(0, .ref 61)] [.int b0] (zmk I J X) = if decide (¬ b0 = (10 : Int32)) = true then
  zci (zE xs L (d + 5) 161) (zev xs L (d + 5) 162 [.ref 61, .int (I 61 58)] (zmk (zup (zup I 61 63 (I 61 58)) 61 61 (0 : Int32)) J X)) (fun r h => zseg (zE xs L (d + 5) 161) (zC 161) 677 (zB161_3.drop 11) [(0, .ref 61)] [.int r] h)
  else some (.inl (1, [(0, .ref 61)], zmk (zup I 61 58 ((I 61 58) + (1 : Int32))) J X)) := by
  refine zite_congr ?_ ?_
  · rfl
  · rfl
theorem T161_3_11_677 (xs : Nat → Int32) (L d : Nat) (I : Nat → Nat → Int32) (J : Nat → Nat → Int64) (X : XH) (b0 : Int32) : zseg (zE xs L (d + 5) 161) (zC 161) 677 (zB161_3.drop 11) [(0, .ref 61)] [.int b0] (zmk I J X) = if decide (¬ b0 = (-1 : Int32)) = true then
  if decide ((zbi (¬ b0 < 97 ∧ ¬ 122 < b0)) = 0) = true then
    if decide ((zbi (¬ b0 < 48 ∧ ¬ 57 < b0)) = 0) = true then
      if decide (b0 = (59 : Int32)) = true then
        some (.inr (.inr none, zmk (zup (zup (zup (zup I 61 58 ((I 61 58) + (1 : Int32))) 61 60 (3 : Int32)) 61 61 b0) 61 64 ((I 61 58) + (1 : Int32))) J X))
        else if decide (b0 = (40 : Int32)) = true then
          some (.inr (.inr none, zmk (zup (zup (zup (zup I 61 58 ((I 61 58) + (1 : Int32))) 61 60 (3 : Int32)) 61 61 b0) 61 64 ((I 61 58) + (1 : Int32))) J X))
          else if decide (b0 = (41 : Int32)) = true then
            some (.inr (.inr none, zmk (zup (zup (zup (zup I 61 58 ((I 61 58) + (1 : Int32))) 61 60 (3 : Int32)) 61 61 b0) 61 64 ((I 61 58) + (1 : Int32))) J X))
            else if decide (b0 = (43 : Int32)) = true then
              some (.inr (.inr none, zmk (zup (zup (zup (zup I 61 58 ((I 61 58) + (1 : Int32))) 61 60 (3 : Int32)) 61 61 b0) 61 64 ((I 61 58) + (1 : Int32))) J X))
              else if decide (b0 = (45 : Int32)) = true then
                some (.inr (.inr none, zmk (zup (zup (zup (zup I 61 58 ((I 61 58) + (1 : Int32))) 61 60 (3 : Int32)) 61 61 b0) 61 64 ((I 61 58) + (1 : Int32))) J X))
                else if decide (b0 = (42 : Int32)) = true then
                  some (.inr (.inr none, zmk (zup (zup (zup (zup I 61 58 ((I 61 58) + (1 : Int32))) 61 60 (3 : Int32)) 61 61 b0) 61 64 ((I 61 58) + (1 : Int32))) J X))
                  else if decide (b0 = (47 : Int32)) = true then
                    some (.inr (.inr none, zmk (zup (zup (zup (zup I 61 58 ((I 61 58) + (1 : Int32))) 61 60 (3 : Int32)) 61 61 b0) 61 64 ((I 61 58) + (1 : Int32))) J X))
                    else if decide (b0 = (60 : Int32)) = true then
                      some (.inr (.inr none, zmk (zup (zup (zup (zup I 61 58 ((I 61 58) + (1 : Int32))) 61 60 (3 : Int32)) 61 61 b0) 61 64 ((I 61 58) + (1 : Int32))) J X))
                      else if decide (¬ b0 = (61 : Int32)) = true then
                        some (.inr (.inr none, zmk (zup (zup (zup (zup I 61 58 ((I 61 58) + (1 : Int32))) 61 60 (4 : Int32)) 61 61 b0) 61 64 ((I 61 58) + (1 : Int32))) J X))
                        else some (.inr (.inr none, zmk (zup (zup (zup (zup I 61 58 ((I 61 58) + (1 : Int32))) 61 60 (3 : Int32)) 61 61 b0) 61 64 ((I 61 58) + (1 : Int32))) J X))
      else some (.inl (13, [(0, .ref 61), (1, .int b0)], zmk (zup I 61 62 (0 : Int32)) J X))
    else some (.inl (10, [(0, .ref 61), (1, .int b0)], zmk I J X))
  else some (.inr (.inr none, zmk (zup (zup I 61 60 (0 : Int32)) 61 64 (I 61 58)) J X)) := by
  refine zite_congr ?_ ?_
  · refine zite_congr ?_ ?_
    · refine zite_congr ?_ ?_
      · refine zite_congr ?_ ?_
        · rfl
        · refine zite_congr ?_ ?_
          · rfl
          · refine zite_congr ?_ ?_
            · rfl
            · refine zite_congr ?_ ?_
              · rfl
              · refine zite_congr ?_ ?_
                · rfl
                · refine zite_congr ?_ ?_
                  · rfl
                  · refine zite_congr ?_ ?_
                    · rfl
                    · refine zite_congr ?_ ?_
                      · rfl
                      · refine zite_congr ?_ ?_
                        · rfl
                        · rfl
      · rfl
    · rfl
  · rfl
theorem S161_10 (xs : Nat → Int32) (L d : Nat) (I : Nat → Nat → Int32) (J : Nat → Nat → Int64) (X : XH) (a1 : Int32) : zseg (zE xs L (d + 5) 161) (zC 161) 700 (zC 161 10) [(0, .ref 61), (1, .int a1)] [] (zmk I J X) = zci (zE xs L (d + 5) 161) (zev xs L (d + 5) 162 [.ref 61, .int (I 61 58)] (zmk I J X)) (fun r h => zseg (zE xs L (d + 5) 161) (zC 161) 696 (zB161_10.drop 4) [(0, .ref 61), (1, .int a1)] [.int r] h) := by
  rfl
theorem T161_10_4_696 (xs : Nat → Int32) (L d : Nat) (I : Nat → Nat → Int32) (J : Nat → Nat → Int64) (X : XH) (a1 : Int32) (b0 : Int32) : zseg (zE xs L (d + 5) 161) (zC 161) 696 (zB161_10.drop 4) [(0, .ref 61), (1, .int a1)] [.int b0] (zmk I J X) = if decide ((zbi (¬ b0 < 97 ∧ ¬ 122 < b0)) = 0) = true then
  some (.inr (.inr none, zmk (zup (zup I 61 60 (1 : Int32)) 61 64 (I 61 58)) J X))
  else some (.inl (10, [(0, .ref 61), (1, .int a1)], zmk (zup I 61 58 ((I 61 58) + (1 : Int32))) J X)) := by
  refine zite_congr ?_ ?_
  · rfl
  · rfl
theorem S161_13 (xs : Nat → Int32) (L d : Nat) (I : Nat → Nat → Int32) (J : Nat → Nat → Int64) (X : XH) (a1 : Int32) : zseg (zE xs L (d + 5) 161) (zC 161) 700 (zC 161 13) [(0, .ref 61), (1, .int a1)] [] (zmk I J X) = zci (zE xs L (d + 5) 161) (zev xs L (d + 5) 162 [.ref 61, .int (I 61 58)] (zmk I J X)) (fun r h => zseg (zE xs L (d + 5) 161) (zC 161) 696 (zB161_13.drop 4) [(0, .ref 61), (1, .int a1)] [.int r] h) := by
  rfl
theorem T161_13_4_696 (xs : Nat → Int32) (L d : Nat) (I : Nat → Nat → Int32) (J : Nat → Nat → Int64) (X : XH) (a1 : Int32) (b0 : Int32) : zseg (zE xs L (d + 5) 161) (zC 161) 696 (zB161_13.drop 4) [(0, .ref 61), (1, .int a1)] [.int b0] (zmk I J X) = if decide ((zbi (¬ b0 < 48 ∧ ¬ 57 < b0)) = 0) = true then
  some (.inr (.inr none, zmk (zup (zup I 61 60 (2 : Int32)) 61 64 (I 61 58)) J X))
  else zci (zE xs L (d + 5) 161) (zev xs L (d + 5) 162 [.ref 61, .int (I 61 58)] (zmk I J X)) (fun r h => zseg (zE xs L (d + 5) 161) (zC 161) 684 (zB161_13.drop 16) [(0, .ref 61), (1, .int a1)] [.int r, .int ((10 : Int32) * (I 61 62)), .int (1000000 : Int32), .ref 61] h) := by
  refine zite_congr ?_ ?_
  · rfl
  · rfl
theorem T161_13_16_684 (xs : Nat → Int32) (L d : Nat) (I : Nat → Nat → Int32) (J : Nat → Nat → Int64) (X : XH) (a1 : Int32) (b1 : Int32) (b2 : Int32) (b3 : Int32) : zseg (zE xs L (d + 5) 161) (zC 161) 684 (zB161_13.drop 16) [(0, .ref 61), (1, .int a1)] [.int b3, .int b2, .int b1, .ref 61] (zmk I J X) = some (.inl (13, [(0, .ref 61), (1, .int a1)], zmk (zup (zup I 61 62 (zmn b1 ((b2 + b3) - (48 : Int32)))) 61 58 ((I 61 58) + (1 : Int32))) J X)) := by
  rfl
/-! 162 TollTagsModel.byteAt (I)I -/
theorem S162_0 (xs : Nat → Int32) (L d : Nat) (I : Nat → Nat → Int32) (J : Nat → Nat → Int64) (X : XH) (a1 : Int32) : zseg (zE xs L (d + 5) 162) (zC 162) 700 (zC 162 0) [(0, .ref 61), (1, .int a1)] [] (zmk I J X) = if decide ((I 61 59) ≤ a1) = true then
  some (.inr (.inr (some (.int (-1 : Int32))), zmk I J X))
  else if zix 0 400 0 a1 then
    some (.inr (.inr (some (.int (I 104 a1.toNatClampNeg))), zmk I J X))
    else none := by
  refine zite_congr ?_ ?_
  · rfl
  · refine zite_congr ?_ ?_
    · rfl
    · rfl
/-! 165 TollTagsModel.readClause (II)V -/
theorem S165_0 (xs : Nat → Int32) (L d : Nat) (I : Nat → Nat → Int32) (J : Nat → Nat → Int64) (X : XH) (a1 : Int32) (a2 : Int32) : zseg (zE xs L (d + 5) 165) (zC 165) 700 (zC 165 0) [(0, .ref 61), (1, .int a1), (2, .int a2)] [] (zmk I J X) = zci (zE xs L (d + 5) 165) (zev xs L (d + 5) 166 [.ref 61, .float (UInt32.ofNat 9)] (zmk I J X)) (fun r h => zseg (zE xs L (d + 5) 165) (zC 165) 697 (zB165_0.drop 3) [(0, .ref 61), (1, .int a1), (2, .int a2)] [.int r] h) := by
  rfl
theorem T165_0_3_697 (xs : Nat → Int32) (L d : Nat) (I : Nat → Nat → Int32) (J : Nat → Nat → Int64) (X : XH) (a1 : Int32) (a2 : Int32) (b0 : Int32) : zseg (zE xs L (d + 5) 165) (zC 165) 697 (zB165_0.drop 3) [(0, .ref 61), (1, .int a1), (2, .int a2)] [.int b0] (zmk I J X) = zci (zE xs L (d + 5) 165) (zev xs L (d + 5) 166 [.ref 61, .float (UInt32.ofNat 10)] (zmk I J X)) (fun r h => zseg (zE xs L (d + 5) 165) (zC 165) 693 (zB165_0.drop 7) [(3, .int b0), (0, .ref 61), (1, .int a1), (2, .int a2)] [.int r] h) := by
  rfl
theorem T165_0_7_693 (xs : Nat → Int32) (L d : Nat) (I : Nat → Nat → Int32) (J : Nat → Nat → Int64) (X : XH) (a3 : Int32) (a1 : Int32) (a2 : Int32) (b0 : Int32) : zseg (zE xs L (d + 5) 165) (zC 165) 693 (zB165_0.drop 7) [(3, .int a3), (0, .ref 61), (1, .int a1), (2, .int a2)] [.int b0] (zmk I J X) = zci (zE xs L (d + 5) 165) (zev xs L (d + 5) 166 [.ref 61, .float (UInt32.ofNat 11)] (zmk I J X)) (fun r h => zseg (zE xs L (d + 5) 165) (zC 165) 689 (zB165_0.drop 11) [(4, .int b0), (3, .int a3), (0, .ref 61), (1, .int a1), (2, .int a2)] [.int r] h) := by
  rfl
theorem T165_0_11_689 (xs : Nat → Int32) (L d : Nat) (I : Nat → Nat → Int32) (J : Nat → Nat → Int64) (X : XH) (a4 : Int32) (a3 : Int32) (a1 : Int32) (a2 : Int32) (b0 : Int32) : zseg (zE xs L (d + 5) 165) (zC 165) 689 (zB165_0.drop 11) [(4, .int a4), (3, .int a3), (0, .ref 61), (1, .int a1), (2, .int a2)] [.int b0] (zmk I J X) = if decide (¬ a3 = 0) = true then
  if decide (¬ a2 = (16 : Int32)) = true then
    if decide ((I 61 65) = 0) = true then
      zcw (zE xs L (d + 5) 165) (zev xs L (d + 5) 161 [.ref 61] (zmk I J X)) (fun h => zseg (zE xs L (d + 5) 165) (zC 165) 678 (zB165_3.drop 2) [(5, .int b0), (4, .int a4), (3, .int a3), (0, .ref 61), (1, .int a1), (2, .int a2)] [] h)
      else some (.inr (.inr none, zmk I J X))
    else zcw (zE xs L (d + 5) 165) (zev xs L (d + 5) 167 [.ref 61, .int (2 : Int32)] (zmk I J X)) (fun h => zseg (zE xs L (d + 5) 165) (zC 165) 680 (zB165_1.drop 6) [(5, .int b0), (4, .int a4), (3, .int a3), (0, .ref 61), (1, .int a1), (2, .int a2)] [] h)
  else if decide (¬ a4 = 0) = true then
    if decide (¬ a2 = (16 : Int32)) = true then
      if decide ((I 61 65) = 0) = true then
        zcw (zE xs L (d + 5) 165) (zev xs L (d + 5) 161 [.ref 61] (zmk I J X)) (fun h => zseg (zE xs L (d + 5) 165) (zC 165) 676 (zB165_3.drop 2) [(5, .int b0), (4, .int a4), (3, .int a3), (0, .ref 61), (1, .int a1), (2, .int a2)] [] h)
        else some (.inr (.inr none, zmk I J X))
      else zcw (zE xs L (d + 5) 165) (zev xs L (d + 5) 167 [.ref 61, .int (2 : Int32)] (zmk I J X)) (fun h => zseg (zE xs L (d + 5) 165) (zC 165) 678 (zB165_1.drop 6) [(5, .int b0), (4, .int a4), (3, .int a3), (0, .ref 61), (1, .int a1), (2, .int a2)] [] h)
    else if decide (¬ b0 = 0) = true then
      if decide (¬ a2 = (16 : Int32)) = true then
        if decide ((I 61 65) = 0) = true then
          zcw (zE xs L (d + 5) 165) (zev xs L (d + 5) 161 [.ref 61] (zmk I J X)) (fun h => zseg (zE xs L (d + 5) 165) (zC 165) 674 (zB165_3.drop 2) [(5, .int b0), (4, .int a4), (3, .int a3), (0, .ref 61), (1, .int a1), (2, .int a2)] [] h)
          else some (.inr (.inr none, zmk I J X))
        else zcw (zE xs L (d + 5) 165) (zev xs L (d + 5) 167 [.ref 61, .int (2 : Int32)] (zmk I J X)) (fun h => zseg (zE xs L (d + 5) 165) (zC 165) 676 (zB165_1.drop 6) [(5, .int b0), (4, .int a4), (3, .int a3), (0, .ref 61), (1, .int a1), (2, .int a2)] [] h)
      else zci (zE xs L (d + 5) 165) (zev xs L (d + 5) 166 [.ref 61, .float (UInt32.ofNat 12)] (zmk I J X)) (fun r h => zseg (zE xs L (d + 5) 165) (zC 165) 679 (zB165_0.drop 21) [(5, .int b0), (4, .int a4), (3, .int a3), (0, .ref 61), (1, .int a1), (2, .int a2)] [.int r] h) := by
  refine zite_congr ?_ ?_
  · refine zite_congr ?_ ?_
    · refine zite_congr ?_ ?_
      · rfl
      · rfl
    · rfl
  · refine zite_congr ?_ ?_
    · refine zite_congr ?_ ?_
      · refine zite_congr ?_ ?_
        · rfl
        · rfl
      · rfl
    · refine zite_congr ?_ ?_
      · refine zite_congr ?_ ?_
        · refine zite_congr ?_ ?_
          · rfl
          · rfl
        · rfl
      · rfl
theorem T165_3_2_678 (xs : Nat → Int32) (L d : Nat) (I : Nat → Nat → Int32) (J : Nat → Nat → Int64) (X : XH) (a5 : Int32) (a4 : Int32) (a3 : Int32) (a1 : Int32) (a2 : Int32) : zseg (zE xs L (d + 5) 165) (zC 165) 678 (zB165_3.drop 2) [(5, .int a5), (4, .int a4), (3, .int a3), (0, .ref 61), (1, .int a1), (2, .int a2)] [] (zmk I J X) = if decide (¬ a3 = 0) = true then
  if zix 0 37 0 a1 then
    if zix 0 37 0 a1 then
      if zix 0 37 0 a1 then
        if decide (a3 = 0) = true then
          if zix 0 592 0 (((16 : Int32) * a1) + (I 95 a1.toNatClampNeg)) then
            if zix 0 592 0 (((16 : Int32) * a1) + (I 95 a1.toNatClampNeg)) then
              zcw (zE xs L (d + 5) 165) (zev xs L (d + 5) 168 [.ref 61, .int a1, .int (0 : Int32)] (zmk (zup (zup (zup I 95 a1.toNatClampNeg ((I 95 a1.toNatClampNeg) + (1 : Int32))) 98 ((((16 : Int32) * a1) + (I 95 a1.toNatClampNeg)).toNatClampNeg) (1 : Int32)) 99 ((((16 : Int32) * a1) + (I 95 a1.toNatClampNeg)).toNatClampNeg) (I 61 68)) J X)) (fun h => zseg (zE xs L (d + 5) 165) (zC 165) 641 (zB165_7.drop 11) [(6, .int (((16 : Int32) * a1) + (I 95 a1.toNatClampNeg))), (5, .int a5), (4, .int a4), (3, .int a3), (0, .ref 61), (1, .int a1), (2, .int a2)] [] h)
              else none
            else none
          else if zix 0 592 0 (((16 : Int32) * a1) + (I 95 a1.toNatClampNeg)) then
            if zix 0 592 0 (((16 : Int32) * a1) + (I 95 a1.toNatClampNeg)) then
              zcw (zE xs L (d + 5) 165) (zev xs L (d + 5) 168 [.ref 61, .int a1, .int (0 : Int32)] (zmk (zup (zup (zup I 95 a1.toNatClampNeg ((I 95 a1.toNatClampNeg) + (1 : Int32))) 98 ((((16 : Int32) * a1) + (I 95 a1.toNatClampNeg)).toNatClampNeg) (0 : Int32)) 99 ((((16 : Int32) * a1) + (I 95 a1.toNatClampNeg)).toNatClampNeg) (I 61 68)) J X)) (fun h => zseg (zE xs L (d + 5) 165) (zC 165) 641 (zB165_7.drop 11) [(6, .int (((16 : Int32) * a1) + (I 95 a1.toNatClampNeg))), (5, .int a5), (4, .int a4), (3, .int a3), (0, .ref 61), (1, .int a1), (2, .int a2)] [] h)
              else none
            else none
        else none
      else none
    else none
  else if decide (a4 = 0) = true then
    zci (zE xs L (d + 5) 165) (zev xs L (d + 5) 175 [.ref 61] (zmk I J X)) (fun r h => zseg (zE xs L (d + 5) 165) (zC 165) 672 (zB165_5.drop 2) [(5, .int a5), (4, .int a4), (3, .int a3), (0, .ref 61), (1, .int a1), (2, .int a2)] [.int r] h)
    else if zix 0 37 0 a1 then
      if zix 0 37 0 a1 then
        if zix 0 37 0 a1 then
          if decide (a3 = 0) = true then
            if zix 0 592 0 (((16 : Int32) * a1) + (I 95 a1.toNatClampNeg)) then
              if zix 0 592 0 (((16 : Int32) * a1) + (I 95 a1.toNatClampNeg)) then
                zcw (zE xs L (d + 5) 165) (zev xs L (d + 5) 168 [.ref 61, .int a1, .int (0 : Int32)] (zmk (zup (zup (zup I 95 a1.toNatClampNeg ((I 95 a1.toNatClampNeg) + (1 : Int32))) 98 ((((16 : Int32) * a1) + (I 95 a1.toNatClampNeg)).toNatClampNeg) (1 : Int32)) 99 ((((16 : Int32) * a1) + (I 95 a1.toNatClampNeg)).toNatClampNeg) (I 61 68)) J X)) (fun h => zseg (zE xs L (d + 5) 165) (zC 165) 638 (zB165_7.drop 11) [(6, .int (((16 : Int32) * a1) + (I 95 a1.toNatClampNeg))), (5, .int a5), (4, .int a4), (3, .int a3), (0, .ref 61), (1, .int a1), (2, .int a2)] [] h)
                else none
              else none
            else if zix 0 592 0 (((16 : Int32) * a1) + (I 95 a1.toNatClampNeg)) then
              if zix 0 592 0 (((16 : Int32) * a1) + (I 95 a1.toNatClampNeg)) then
                zcw (zE xs L (d + 5) 165) (zev xs L (d + 5) 168 [.ref 61, .int a1, .int (0 : Int32)] (zmk (zup (zup (zup I 95 a1.toNatClampNeg ((I 95 a1.toNatClampNeg) + (1 : Int32))) 98 ((((16 : Int32) * a1) + (I 95 a1.toNatClampNeg)).toNatClampNeg) (0 : Int32)) 99 ((((16 : Int32) * a1) + (I 95 a1.toNatClampNeg)).toNatClampNeg) (I 61 68)) J X)) (fun h => zseg (zE xs L (d + 5) 165) (zC 165) 638 (zB165_7.drop 11) [(6, .int (((16 : Int32) * a1) + (I 95 a1.toNatClampNeg))), (5, .int a5), (4, .int a4), (3, .int a3), (0, .ref 61), (1, .int a1), (2, .int a2)] [] h)
                else none
              else none
          else none
        else none
      else none := by
  refine zite_congr ?_ ?_
  · refine zite_congr ?_ ?_
    · refine zite_congr ?_ ?_
      · refine zite_congr ?_ ?_
        · refine zite_congr ?_ ?_
          · refine zite_congr ?_ ?_
            · refine zite_congr ?_ ?_
              · rfl
              · rfl
            · rfl
          · refine zite_congr ?_ ?_
            · refine zite_congr ?_ ?_
              · rfl
              · rfl
            · rfl
        · rfl
      · rfl
    · rfl
  · refine zite_congr ?_ ?_
    · rfl
    · refine zite_congr ?_ ?_
      · refine zite_congr ?_ ?_
        · refine zite_congr ?_ ?_
          · refine zite_congr ?_ ?_
            · refine zite_congr ?_ ?_
              · refine zite_congr ?_ ?_
                · rfl
                · rfl
              · rfl
            · refine zite_congr ?_ ?_
              · refine zite_congr ?_ ?_
                · rfl
                · rfl
              · rfl
          · rfl
        · rfl
      · rfl
theorem T165_1_6_680 (xs : Nat → Int32) (L d : Nat) (I : Nat → Nat → Int32) (J : Nat → Nat → Int64) (X : XH) (a5 : Int32) (a4 : Int32) (a3 : Int32) (a1 : Int32) (a2 : Int32) : zseg (zE xs L (d + 5) 165) (zC 165) 680 (zB165_1.drop 6) [(5, .int a5), (4, .int a4), (3, .int a3), (0, .ref 61), (1, .int a1), (2, .int a2)] [] (zmk I J X) = if decide ((I 61 65) = 0) = true then
  zcw (zE xs L (d + 5) 165) (zev xs L (d + 5) 161 [.ref 61] (zmk I J X)) (fun h => zseg (zE xs L (d + 5) 165) (zC 165) 674 (zB165_3.drop 2) [(5, .int a5), (4, .int a4), (3, .int a3), (0, .ref 61), (1, .int a1), (2, .int a2)] [] h)
  else some (.inr (.inr none, zmk I J X)) := by
  refine zite_congr ?_ ?_
  · rfl
  · rfl
theorem T165_3_2_676 (xs : Nat → Int32) (L d : Nat) (I : Nat → Nat → Int32) (J : Nat → Nat → Int64) (X : XH) (a5 : Int32) (a4 : Int32) (a3 : Int32) (a1 : Int32) (a2 : Int32) : zseg (zE xs L (d + 5) 165) (zC 165) 676 (zB165_3.drop 2) [(5, .int a5), (4, .int a4), (3, .int a3), (0, .ref 61), (1, .int a1), (2, .int a2)] [] (zmk I J X) = if decide (¬ a3 = 0) = true then
  if zix 0 37 0 a1 then
    if zix 0 37 0 a1 then
      if zix 0 37 0 a1 then
        if decide (a3 = 0) = true then
          if zix 0 592 0 (((16 : Int32) * a1) + (I 95 a1.toNatClampNeg)) then
            if zix 0 592 0 (((16 : Int32) * a1) + (I 95 a1.toNatClampNeg)) then
              zcw (zE xs L (d + 5) 165) (zev xs L (d + 5) 168 [.ref 61, .int a1, .int (0 : Int32)] (zmk (zup (zup (zup I 95 a1.toNatClampNeg ((I 95 a1.toNatClampNeg) + (1 : Int32))) 98 ((((16 : Int32) * a1) + (I 95 a1.toNatClampNeg)).toNatClampNeg) (1 : Int32)) 99 ((((16 : Int32) * a1) + (I 95 a1.toNatClampNeg)).toNatClampNeg) (I 61 68)) J X)) (fun h => zseg (zE xs L (d + 5) 165) (zC 165) 639 (zB165_7.drop 11) [(6, .int (((16 : Int32) * a1) + (I 95 a1.toNatClampNeg))), (5, .int a5), (4, .int a4), (3, .int a3), (0, .ref 61), (1, .int a1), (2, .int a2)] [] h)
              else none
            else none
          else if zix 0 592 0 (((16 : Int32) * a1) + (I 95 a1.toNatClampNeg)) then
            if zix 0 592 0 (((16 : Int32) * a1) + (I 95 a1.toNatClampNeg)) then
              zcw (zE xs L (d + 5) 165) (zev xs L (d + 5) 168 [.ref 61, .int a1, .int (0 : Int32)] (zmk (zup (zup (zup I 95 a1.toNatClampNeg ((I 95 a1.toNatClampNeg) + (1 : Int32))) 98 ((((16 : Int32) * a1) + (I 95 a1.toNatClampNeg)).toNatClampNeg) (0 : Int32)) 99 ((((16 : Int32) * a1) + (I 95 a1.toNatClampNeg)).toNatClampNeg) (I 61 68)) J X)) (fun h => zseg (zE xs L (d + 5) 165) (zC 165) 639 (zB165_7.drop 11) [(6, .int (((16 : Int32) * a1) + (I 95 a1.toNatClampNeg))), (5, .int a5), (4, .int a4), (3, .int a3), (0, .ref 61), (1, .int a1), (2, .int a2)] [] h)
              else none
            else none
        else none
      else none
    else none
  else if decide (a4 = 0) = true then
    zci (zE xs L (d + 5) 165) (zev xs L (d + 5) 175 [.ref 61] (zmk I J X)) (fun r h => zseg (zE xs L (d + 5) 165) (zC 165) 670 (zB165_5.drop 2) [(5, .int a5), (4, .int a4), (3, .int a3), (0, .ref 61), (1, .int a1), (2, .int a2)] [.int r] h)
    else if zix 0 37 0 a1 then
      if zix 0 37 0 a1 then
        if zix 0 37 0 a1 then
          if decide (a3 = 0) = true then
            if zix 0 592 0 (((16 : Int32) * a1) + (I 95 a1.toNatClampNeg)) then
              if zix 0 592 0 (((16 : Int32) * a1) + (I 95 a1.toNatClampNeg)) then
                zcw (zE xs L (d + 5) 165) (zev xs L (d + 5) 168 [.ref 61, .int a1, .int (0 : Int32)] (zmk (zup (zup (zup I 95 a1.toNatClampNeg ((I 95 a1.toNatClampNeg) + (1 : Int32))) 98 ((((16 : Int32) * a1) + (I 95 a1.toNatClampNeg)).toNatClampNeg) (1 : Int32)) 99 ((((16 : Int32) * a1) + (I 95 a1.toNatClampNeg)).toNatClampNeg) (I 61 68)) J X)) (fun h => zseg (zE xs L (d + 5) 165) (zC 165) 636 (zB165_7.drop 11) [(6, .int (((16 : Int32) * a1) + (I 95 a1.toNatClampNeg))), (5, .int a5), (4, .int a4), (3, .int a3), (0, .ref 61), (1, .int a1), (2, .int a2)] [] h)
                else none
              else none
            else if zix 0 592 0 (((16 : Int32) * a1) + (I 95 a1.toNatClampNeg)) then
              if zix 0 592 0 (((16 : Int32) * a1) + (I 95 a1.toNatClampNeg)) then
                zcw (zE xs L (d + 5) 165) (zev xs L (d + 5) 168 [.ref 61, .int a1, .int (0 : Int32)] (zmk (zup (zup (zup I 95 a1.toNatClampNeg ((I 95 a1.toNatClampNeg) + (1 : Int32))) 98 ((((16 : Int32) * a1) + (I 95 a1.toNatClampNeg)).toNatClampNeg) (0 : Int32)) 99 ((((16 : Int32) * a1) + (I 95 a1.toNatClampNeg)).toNatClampNeg) (I 61 68)) J X)) (fun h => zseg (zE xs L (d + 5) 165) (zC 165) 636 (zB165_7.drop 11) [(6, .int (((16 : Int32) * a1) + (I 95 a1.toNatClampNeg))), (5, .int a5), (4, .int a4), (3, .int a3), (0, .ref 61), (1, .int a1), (2, .int a2)] [] h)
                else none
              else none
          else none
        else none
      else none := by
  refine zite_congr ?_ ?_
  · refine zite_congr ?_ ?_
    · refine zite_congr ?_ ?_
      · refine zite_congr ?_ ?_
        · refine zite_congr ?_ ?_
          · refine zite_congr ?_ ?_
            · refine zite_congr ?_ ?_
              · rfl
              · rfl
            · rfl
          · refine zite_congr ?_ ?_
            · refine zite_congr ?_ ?_
              · rfl
              · rfl
            · rfl
        · rfl
      · rfl
    · rfl
  · refine zite_congr ?_ ?_
    · rfl
    · refine zite_congr ?_ ?_
      · refine zite_congr ?_ ?_
        · refine zite_congr ?_ ?_
          · refine zite_congr ?_ ?_
            · refine zite_congr ?_ ?_
              · refine zite_congr ?_ ?_
                · rfl
                · rfl
              · rfl
            · refine zite_congr ?_ ?_
              · refine zite_congr ?_ ?_
                · rfl
                · rfl
              · rfl
          · rfl
        · rfl
      · rfl
theorem T165_1_6_678 (xs : Nat → Int32) (L d : Nat) (I : Nat → Nat → Int32) (J : Nat → Nat → Int64) (X : XH) (a5 : Int32) (a4 : Int32) (a3 : Int32) (a1 : Int32) (a2 : Int32) : zseg (zE xs L (d + 5) 165) (zC 165) 678 (zB165_1.drop 6) [(5, .int a5), (4, .int a4), (3, .int a3), (0, .ref 61), (1, .int a1), (2, .int a2)] [] (zmk I J X) = if decide ((I 61 65) = 0) = true then
  zcw (zE xs L (d + 5) 165) (zev xs L (d + 5) 161 [.ref 61] (zmk I J X)) (fun h => zseg (zE xs L (d + 5) 165) (zC 165) 672 (zB165_3.drop 2) [(5, .int a5), (4, .int a4), (3, .int a3), (0, .ref 61), (1, .int a1), (2, .int a2)] [] h)
  else some (.inr (.inr none, zmk I J X)) := by
  refine zite_congr ?_ ?_
  · rfl
  · rfl
theorem T165_3_2_674 (xs : Nat → Int32) (L d : Nat) (I : Nat → Nat → Int32) (J : Nat → Nat → Int64) (X : XH) (a5 : Int32) (a4 : Int32) (a3 : Int32) (a1 : Int32) (a2 : Int32) : zseg (zE xs L (d + 5) 165) (zC 165) 674 (zB165_3.drop 2) [(5, .int a5), (4, .int a4), (3, .int a3), (0, .ref 61), (1, .int a1), (2, .int a2)] [] (zmk I J X) = if decide (¬ a3 = 0) = true then
  if zix 0 37 0 a1 then
    if zix 0 37 0 a1 then
      if zix 0 37 0 a1 then
        if decide (a3 = 0) = true then
          if zix 0 592 0 (((16 : Int32) * a1) + (I 95 a1.toNatClampNeg)) then
            if zix 0 592 0 (((16 : Int32) * a1) + (I 95 a1.toNatClampNeg)) then
              zcw (zE xs L (d + 5) 165) (zev xs L (d + 5) 168 [.ref 61, .int a1, .int (0 : Int32)] (zmk (zup (zup (zup I 95 a1.toNatClampNeg ((I 95 a1.toNatClampNeg) + (1 : Int32))) 98 ((((16 : Int32) * a1) + (I 95 a1.toNatClampNeg)).toNatClampNeg) (1 : Int32)) 99 ((((16 : Int32) * a1) + (I 95 a1.toNatClampNeg)).toNatClampNeg) (I 61 68)) J X)) (fun h => zseg (zE xs L (d + 5) 165) (zC 165) 637 (zB165_7.drop 11) [(6, .int (((16 : Int32) * a1) + (I 95 a1.toNatClampNeg))), (5, .int a5), (4, .int a4), (3, .int a3), (0, .ref 61), (1, .int a1), (2, .int a2)] [] h)
              else none
            else none
          else if zix 0 592 0 (((16 : Int32) * a1) + (I 95 a1.toNatClampNeg)) then
            if zix 0 592 0 (((16 : Int32) * a1) + (I 95 a1.toNatClampNeg)) then
              zcw (zE xs L (d + 5) 165) (zev xs L (d + 5) 168 [.ref 61, .int a1, .int (0 : Int32)] (zmk (zup (zup (zup I 95 a1.toNatClampNeg ((I 95 a1.toNatClampNeg) + (1 : Int32))) 98 ((((16 : Int32) * a1) + (I 95 a1.toNatClampNeg)).toNatClampNeg) (0 : Int32)) 99 ((((16 : Int32) * a1) + (I 95 a1.toNatClampNeg)).toNatClampNeg) (I 61 68)) J X)) (fun h => zseg (zE xs L (d + 5) 165) (zC 165) 637 (zB165_7.drop 11) [(6, .int (((16 : Int32) * a1) + (I 95 a1.toNatClampNeg))), (5, .int a5), (4, .int a4), (3, .int a3), (0, .ref 61), (1, .int a1), (2, .int a2)] [] h)
              else none
            else none
        else none
      else none
    else none
  else if decide (a4 = 0) = true then
    zci (zE xs L (d + 5) 165) (zev xs L (d + 5) 175 [.ref 61] (zmk I J X)) (fun r h => zseg (zE xs L (d + 5) 165) (zC 165) 668 (zB165_5.drop 2) [(5, .int a5), (4, .int a4), (3, .int a3), (0, .ref 61), (1, .int a1), (2, .int a2)] [.int r] h)
    else if zix 0 37 0 a1 then
      if zix 0 37 0 a1 then
        if zix 0 37 0 a1 then
          if decide (a3 = 0) = true then
            if zix 0 592 0 (((16 : Int32) * a1) + (I 95 a1.toNatClampNeg)) then
              if zix 0 592 0 (((16 : Int32) * a1) + (I 95 a1.toNatClampNeg)) then
                zcw (zE xs L (d + 5) 165) (zev xs L (d + 5) 168 [.ref 61, .int a1, .int (0 : Int32)] (zmk (zup (zup (zup I 95 a1.toNatClampNeg ((I 95 a1.toNatClampNeg) + (1 : Int32))) 98 ((((16 : Int32) * a1) + (I 95 a1.toNatClampNeg)).toNatClampNeg) (1 : Int32)) 99 ((((16 : Int32) * a1) + (I 95 a1.toNatClampNeg)).toNatClampNeg) (I 61 68)) J X)) (fun h => zseg (zE xs L (d + 5) 165) (zC 165) 634 (zB165_7.drop 11) [(6, .int (((16 : Int32) * a1) + (I 95 a1.toNatClampNeg))), (5, .int a5), (4, .int a4), (3, .int a3), (0, .ref 61), (1, .int a1), (2, .int a2)] [] h)
                else none
              else none
            else if zix 0 592 0 (((16 : Int32) * a1) + (I 95 a1.toNatClampNeg)) then
              if zix 0 592 0 (((16 : Int32) * a1) + (I 95 a1.toNatClampNeg)) then
                zcw (zE xs L (d + 5) 165) (zev xs L (d + 5) 168 [.ref 61, .int a1, .int (0 : Int32)] (zmk (zup (zup (zup I 95 a1.toNatClampNeg ((I 95 a1.toNatClampNeg) + (1 : Int32))) 98 ((((16 : Int32) * a1) + (I 95 a1.toNatClampNeg)).toNatClampNeg) (0 : Int32)) 99 ((((16 : Int32) * a1) + (I 95 a1.toNatClampNeg)).toNatClampNeg) (I 61 68)) J X)) (fun h => zseg (zE xs L (d + 5) 165) (zC 165) 634 (zB165_7.drop 11) [(6, .int (((16 : Int32) * a1) + (I 95 a1.toNatClampNeg))), (5, .int a5), (4, .int a4), (3, .int a3), (0, .ref 61), (1, .int a1), (2, .int a2)] [] h)
                else none
              else none
          else none
        else none
      else none := by
  refine zite_congr ?_ ?_
  · refine zite_congr ?_ ?_
    · refine zite_congr ?_ ?_
      · refine zite_congr ?_ ?_
        · refine zite_congr ?_ ?_
          · refine zite_congr ?_ ?_
            · refine zite_congr ?_ ?_
              · rfl
              · rfl
            · rfl
          · refine zite_congr ?_ ?_
            · refine zite_congr ?_ ?_
              · rfl
              · rfl
            · rfl
        · rfl
      · rfl
    · rfl
  · refine zite_congr ?_ ?_
    · rfl
    · refine zite_congr ?_ ?_
      · refine zite_congr ?_ ?_
        · refine zite_congr ?_ ?_
          · refine zite_congr ?_ ?_
            · refine zite_congr ?_ ?_
              · refine zite_congr ?_ ?_
                · rfl
                · rfl
              · rfl
            · refine zite_congr ?_ ?_
              · refine zite_congr ?_ ?_
                · rfl
                · rfl
              · rfl
          · rfl
        · rfl
      · rfl
theorem T165_1_6_676 (xs : Nat → Int32) (L d : Nat) (I : Nat → Nat → Int32) (J : Nat → Nat → Int64) (X : XH) (a5 : Int32) (a4 : Int32) (a3 : Int32) (a1 : Int32) (a2 : Int32) : zseg (zE xs L (d + 5) 165) (zC 165) 676 (zB165_1.drop 6) [(5, .int a5), (4, .int a4), (3, .int a3), (0, .ref 61), (1, .int a1), (2, .int a2)] [] (zmk I J X) = if decide ((I 61 65) = 0) = true then
  zcw (zE xs L (d + 5) 165) (zev xs L (d + 5) 161 [.ref 61] (zmk I J X)) (fun h => zseg (zE xs L (d + 5) 165) (zC 165) 670 (zB165_3.drop 2) [(5, .int a5), (4, .int a4), (3, .int a3), (0, .ref 61), (1, .int a1), (2, .int a2)] [] h)
  else some (.inr (.inr none, zmk I J X)) := by
  refine zite_congr ?_ ?_
  · rfl
  · rfl
theorem T165_0_21_679 (xs : Nat → Int32) (L d : Nat) (I : Nat → Nat → Int32) (J : Nat → Nat → Int64) (X : XH) (a5 : Int32) (a4 : Int32) (a3 : Int32) (a1 : Int32) (a2 : Int32) (b0 : Int32) : zseg (zE xs L (d + 5) 165) (zC 165) 679 (zB165_0.drop 21) [(5, .int a5), (4, .int a4), (3, .int a3), (0, .ref 61), (1, .int a1), (2, .int a2)] [.int b0] (zmk I J X) = if decide (¬ b0 = 0) = true then
  if decide (¬ a2 = (16 : Int32)) = true then
    if decide ((I 61 65) = 0) = true then
      zcw (zE xs L (d + 5) 165) (zev xs L (d + 5) 161 [.ref 61] (zmk I J X)) (fun h => zseg (zE xs L (d + 5) 165) (zC 165) 670 (zB165_3.drop 2) [(5, .int a5), (4, .int a4), (3, .int a3), (0, .ref 61), (1, .int a1), (2, .int a2)] [] h)
      else some (.inr (.inr none, zmk I J X))
    else zcw (zE xs L (d + 5) 165) (zev xs L (d + 5) 167 [.ref 61, .int (2 : Int32)] (zmk I J X)) (fun h => zseg (zE xs L (d + 5) 165) (zC 165) 672 (zB165_1.drop 6) [(5, .int a5), (4, .int a4), (3, .int a3), (0, .ref 61), (1, .int a1), (2, .int a2)] [] h)
  else zcw (zE xs L (d + 5) 165) (zev xs L (d + 5) 167 [.ref 61, .int (1 : Int32)] (zmk I J X)) (fun h => zseg (zE xs L (d + 5) 165) (zC 165) 675 (zB165_0.drop 25) [(5, .int a5), (4, .int a4), (3, .int a3), (0, .ref 61), (1, .int a1), (2, .int a2)] [] h) := by
  refine zite_congr ?_ ?_
  · refine zite_congr ?_ ?_
    · refine zite_congr ?_ ?_
      · rfl
      · rfl
    · rfl
  · rfl
theorem T165_7_11_641 (xs : Nat → Int32) (L d : Nat) (I : Nat → Nat → Int32) (J : Nat → Nat → Int64) (X : XH) (a6 : Int32) (a5 : Int32) (a4 : Int32) (a3 : Int32) (a1 : Int32) (a2 : Int32) : zseg (zE xs L (d + 5) 165) (zC 165) 641 (zB165_7.drop 11) [(6, .int a6), (5, .int a5), (4, .int a4), (3, .int a3), (0, .ref 61), (1, .int a1), (2, .int a2)] [] (zmk I J X) = if zix 0 592 0 a6 then
  zcw (zE xs L (d + 5) 165) (zev xs L (d + 5) 178 [.ref 61, .int (59 : Int32)] (zmk (zup I 100 a6.toNatClampNeg (I 61 68)) J X)) (fun h => zseg (zE xs L (d + 5) 165) (zC 165) 631 (zB165_9.drop 3) [(6, .int a6), (5, .int a5), (4, .int a4), (3, .int a3), (0, .ref 61), (1, .int a1), (2, .int a2)] [] h)
  else none := by
  refine zite_congr ?_ ?_
  · rfl
  · rfl
theorem T165_5_2_672 (xs : Nat → Int32) (L d : Nat) (I : Nat → Nat → Int32) (J : Nat → Nat → Int64) (X : XH) (a5 : Int32) (a4 : Int32) (a3 : Int32) (a1 : Int32) (a2 : Int32) (b0 : Int32) : zseg (zE xs L (d + 5) 165) (zC 165) 672 (zB165_5.drop 2) [(5, .int a5), (4, .int a4), (3, .int a3), (0, .ref 61), (1, .int a1), (2, .int a2)] [.int b0] (zmk I J X) = if decide (a5 = 0) = true then
  if zix 0 37 0 a1 then
    zcw (zE xs L (d + 5) 165) (zev xs L (d + 5) 178 [.ref 61, .int (59 : Int32)] (zmk (zup I 97 a1.toNatClampNeg b0) J X)) (fun h => zseg (zE xs L (d + 5) 165) (zC 165) 660 (zB165_9.drop 3) [(6, .int b0), (5, .int a5), (4, .int a4), (3, .int a3), (0, .ref 61), (1, .int a1), (2, .int a2)] [] h)
    else none
  else if zix 0 37 0 a1 then
    zcw (zE xs L (d + 5) 165) (zev xs L (d + 5) 178 [.ref 61, .int (59 : Int32)] (zmk (zup I 96 a1.toNatClampNeg b0) J X)) (fun h => zseg (zE xs L (d + 5) 165) (zC 165) 660 (zB165_9.drop 3) [(6, .int b0), (5, .int a5), (4, .int a4), (3, .int a3), (0, .ref 61), (1, .int a1), (2, .int a2)] [] h)
    else none := by
  refine zite_congr ?_ ?_
  · refine zite_congr ?_ ?_
    · rfl
    · rfl
  · refine zite_congr ?_ ?_
    · rfl
    · rfl
theorem T165_7_11_638 (xs : Nat → Int32) (L d : Nat) (I : Nat → Nat → Int32) (J : Nat → Nat → Int64) (X : XH) (a6 : Int32) (a5 : Int32) (a4 : Int32) (a3 : Int32) (a1 : Int32) (a2 : Int32) : zseg (zE xs L (d + 5) 165) (zC 165) 638 (zB165_7.drop 11) [(6, .int a6), (5, .int a5), (4, .int a4), (3, .int a3), (0, .ref 61), (1, .int a1), (2, .int a2)] [] (zmk I J X) = if zix 0 592 0 a6 then
  zcw (zE xs L (d + 5) 165) (zev xs L (d + 5) 178 [.ref 61, .int (59 : Int32)] (zmk (zup I 100 a6.toNatClampNeg (I 61 68)) J X)) (fun h => zseg (zE xs L (d + 5) 165) (zC 165) 628 (zB165_9.drop 3) [(6, .int a6), (5, .int a5), (4, .int a4), (3, .int a3), (0, .ref 61), (1, .int a1), (2, .int a2)] [] h)
  else none := by
  refine zite_congr ?_ ?_
  · rfl
  · rfl
theorem T165_7_11_639 (xs : Nat → Int32) (L d : Nat) (I : Nat → Nat → Int32) (J : Nat → Nat → Int64) (X : XH) (a6 : Int32) (a5 : Int32) (a4 : Int32) (a3 : Int32) (a1 : Int32) (a2 : Int32) : zseg (zE xs L (d + 5) 165) (zC 165) 639 (zB165_7.drop 11) [(6, .int a6), (5, .int a5), (4, .int a4), (3, .int a3), (0, .ref 61), (1, .int a1), (2, .int a2)] [] (zmk I J X) = if zix 0 592 0 a6 then
  zcw (zE xs L (d + 5) 165) (zev xs L (d + 5) 178 [.ref 61, .int (59 : Int32)] (zmk (zup I 100 a6.toNatClampNeg (I 61 68)) J X)) (fun h => zseg (zE xs L (d + 5) 165) (zC 165) 629 (zB165_9.drop 3) [(6, .int a6), (5, .int a5), (4, .int a4), (3, .int a3), (0, .ref 61), (1, .int a1), (2, .int a2)] [] h)
  else none := by
  refine zite_congr ?_ ?_
  · rfl
  · rfl
theorem T165_5_2_670 (xs : Nat → Int32) (L d : Nat) (I : Nat → Nat → Int32) (J : Nat → Nat → Int64) (X : XH) (a5 : Int32) (a4 : Int32) (a3 : Int32) (a1 : Int32) (a2 : Int32) (b0 : Int32) : zseg (zE xs L (d + 5) 165) (zC 165) 670 (zB165_5.drop 2) [(5, .int a5), (4, .int a4), (3, .int a3), (0, .ref 61), (1, .int a1), (2, .int a2)] [.int b0] (zmk I J X) = if decide (a5 = 0) = true then
  if zix 0 37 0 a1 then
    zcw (zE xs L (d + 5) 165) (zev xs L (d + 5) 178 [.ref 61, .int (59 : Int32)] (zmk (zup I 97 a1.toNatClampNeg b0) J X)) (fun h => zseg (zE xs L (d + 5) 165) (zC 165) 658 (zB165_9.drop 3) [(6, .int b0), (5, .int a5), (4, .int a4), (3, .int a3), (0, .ref 61), (1, .int a1), (2, .int a2)] [] h)
    else none
  else if zix 0 37 0 a1 then
    zcw (zE xs L (d + 5) 165) (zev xs L (d + 5) 178 [.ref 61, .int (59 : Int32)] (zmk (zup I 96 a1.toNatClampNeg b0) J X)) (fun h => zseg (zE xs L (d + 5) 165) (zC 165) 658 (zB165_9.drop 3) [(6, .int b0), (5, .int a5), (4, .int a4), (3, .int a3), (0, .ref 61), (1, .int a1), (2, .int a2)] [] h)
    else none := by
  refine zite_congr ?_ ?_
  · refine zite_congr ?_ ?_
    · rfl
    · rfl
  · refine zite_congr ?_ ?_
    · rfl
    · rfl
theorem T165_7_11_636 (xs : Nat → Int32) (L d : Nat) (I : Nat → Nat → Int32) (J : Nat → Nat → Int64) (X : XH) (a6 : Int32) (a5 : Int32) (a4 : Int32) (a3 : Int32) (a1 : Int32) (a2 : Int32) : zseg (zE xs L (d + 5) 165) (zC 165) 636 (zB165_7.drop 11) [(6, .int a6), (5, .int a5), (4, .int a4), (3, .int a3), (0, .ref 61), (1, .int a1), (2, .int a2)] [] (zmk I J X) = if zix 0 592 0 a6 then
  zcw (zE xs L (d + 5) 165) (zev xs L (d + 5) 178 [.ref 61, .int (59 : Int32)] (zmk (zup I 100 a6.toNatClampNeg (I 61 68)) J X)) (fun h => zseg (zE xs L (d + 5) 165) (zC 165) 626 (zB165_9.drop 3) [(6, .int a6), (5, .int a5), (4, .int a4), (3, .int a3), (0, .ref 61), (1, .int a1), (2, .int a2)] [] h)
  else none := by
  refine zite_congr ?_ ?_
  · rfl
  · rfl
theorem T165_3_2_672 (xs : Nat → Int32) (L d : Nat) (I : Nat → Nat → Int32) (J : Nat → Nat → Int64) (X : XH) (a5 : Int32) (a4 : Int32) (a3 : Int32) (a1 : Int32) (a2 : Int32) : zseg (zE xs L (d + 5) 165) (zC 165) 672 (zB165_3.drop 2) [(5, .int a5), (4, .int a4), (3, .int a3), (0, .ref 61), (1, .int a1), (2, .int a2)] [] (zmk I J X) = if decide (¬ a3 = 0) = true then
  if zix 0 37 0 a1 then
    if zix 0 37 0 a1 then
      if zix 0 37 0 a1 then
        if decide (a3 = 0) = true then
          if zix 0 592 0 (((16 : Int32) * a1) + (I 95 a1.toNatClampNeg)) then
            if zix 0 592 0 (((16 : Int32) * a1) + (I 95 a1.toNatClampNeg)) then
              zcw (zE xs L (d + 5) 165) (zev xs L (d + 5) 168 [.ref 61, .int a1, .int (0 : Int32)] (zmk (zup (zup (zup I 95 a1.toNatClampNeg ((I 95 a1.toNatClampNeg) + (1 : Int32))) 98 ((((16 : Int32) * a1) + (I 95 a1.toNatClampNeg)).toNatClampNeg) (1 : Int32)) 99 ((((16 : Int32) * a1) + (I 95 a1.toNatClampNeg)).toNatClampNeg) (I 61 68)) J X)) (fun h => zseg (zE xs L (d + 5) 165) (zC 165) 635 (zB165_7.drop 11) [(6, .int (((16 : Int32) * a1) + (I 95 a1.toNatClampNeg))), (5, .int a5), (4, .int a4), (3, .int a3), (0, .ref 61), (1, .int a1), (2, .int a2)] [] h)
              else none
            else none
          else if zix 0 592 0 (((16 : Int32) * a1) + (I 95 a1.toNatClampNeg)) then
            if zix 0 592 0 (((16 : Int32) * a1) + (I 95 a1.toNatClampNeg)) then
              zcw (zE xs L (d + 5) 165) (zev xs L (d + 5) 168 [.ref 61, .int a1, .int (0 : Int32)] (zmk (zup (zup (zup I 95 a1.toNatClampNeg ((I 95 a1.toNatClampNeg) + (1 : Int32))) 98 ((((16 : Int32) * a1) + (I 95 a1.toNatClampNeg)).toNatClampNeg) (0 : Int32)) 99 ((((16 : Int32) * a1) + (I 95 a1.toNatClampNeg)).toNatClampNeg) (I 61 68)) J X)) (fun h => zseg (zE xs L (d + 5) 165) (zC 165) 635 (zB165_7.drop 11) [(6, .int (((16 : Int32) * a1) + (I 95 a1.toNatClampNeg))), (5, .int a5), (4, .int a4), (3, .int a3), (0, .ref 61), (1, .int a1), (2, .int a2)] [] h)
              else none
            else none
        else none
      else none
    else none
  else if decide (a4 = 0) = true then
    zci (zE xs L (d + 5) 165) (zev xs L (d + 5) 175 [.ref 61] (zmk I J X)) (fun r h => zseg (zE xs L (d + 5) 165) (zC 165) 666 (zB165_5.drop 2) [(5, .int a5), (4, .int a4), (3, .int a3), (0, .ref 61), (1, .int a1), (2, .int a2)] [.int r] h)
    else if zix 0 37 0 a1 then
      if zix 0 37 0 a1 then
        if zix 0 37 0 a1 then
          if decide (a3 = 0) = true then
            if zix 0 592 0 (((16 : Int32) * a1) + (I 95 a1.toNatClampNeg)) then
              if zix 0 592 0 (((16 : Int32) * a1) + (I 95 a1.toNatClampNeg)) then
                zcw (zE xs L (d + 5) 165) (zev xs L (d + 5) 168 [.ref 61, .int a1, .int (0 : Int32)] (zmk (zup (zup (zup I 95 a1.toNatClampNeg ((I 95 a1.toNatClampNeg) + (1 : Int32))) 98 ((((16 : Int32) * a1) + (I 95 a1.toNatClampNeg)).toNatClampNeg) (1 : Int32)) 99 ((((16 : Int32) * a1) + (I 95 a1.toNatClampNeg)).toNatClampNeg) (I 61 68)) J X)) (fun h => zseg (zE xs L (d + 5) 165) (zC 165) 632 (zB165_7.drop 11) [(6, .int (((16 : Int32) * a1) + (I 95 a1.toNatClampNeg))), (5, .int a5), (4, .int a4), (3, .int a3), (0, .ref 61), (1, .int a1), (2, .int a2)] [] h)
                else none
              else none
            else if zix 0 592 0 (((16 : Int32) * a1) + (I 95 a1.toNatClampNeg)) then
              if zix 0 592 0 (((16 : Int32) * a1) + (I 95 a1.toNatClampNeg)) then
                zcw (zE xs L (d + 5) 165) (zev xs L (d + 5) 168 [.ref 61, .int a1, .int (0 : Int32)] (zmk (zup (zup (zup I 95 a1.toNatClampNeg ((I 95 a1.toNatClampNeg) + (1 : Int32))) 98 ((((16 : Int32) * a1) + (I 95 a1.toNatClampNeg)).toNatClampNeg) (0 : Int32)) 99 ((((16 : Int32) * a1) + (I 95 a1.toNatClampNeg)).toNatClampNeg) (I 61 68)) J X)) (fun h => zseg (zE xs L (d + 5) 165) (zC 165) 632 (zB165_7.drop 11) [(6, .int (((16 : Int32) * a1) + (I 95 a1.toNatClampNeg))), (5, .int a5), (4, .int a4), (3, .int a3), (0, .ref 61), (1, .int a1), (2, .int a2)] [] h)
                else none
              else none
          else none
        else none
      else none := by
  refine zite_congr ?_ ?_
  · refine zite_congr ?_ ?_
    · refine zite_congr ?_ ?_
      · refine zite_congr ?_ ?_
        · refine zite_congr ?_ ?_
          · refine zite_congr ?_ ?_
            · refine zite_congr ?_ ?_
              · rfl
              · rfl
            · rfl
          · refine zite_congr ?_ ?_
            · refine zite_congr ?_ ?_
              · rfl
              · rfl
            · rfl
        · rfl
      · rfl
    · rfl
  · refine zite_congr ?_ ?_
    · rfl
    · refine zite_congr ?_ ?_
      · refine zite_congr ?_ ?_
        · refine zite_congr ?_ ?_
          · refine zite_congr ?_ ?_
            · refine zite_congr ?_ ?_
              · refine zite_congr ?_ ?_
                · rfl
                · rfl
              · rfl
            · refine zite_congr ?_ ?_
              · refine zite_congr ?_ ?_
                · rfl
                · rfl
              · rfl
          · rfl
        · rfl
      · rfl
theorem T165_7_11_637 (xs : Nat → Int32) (L d : Nat) (I : Nat → Nat → Int32) (J : Nat → Nat → Int64) (X : XH) (a6 : Int32) (a5 : Int32) (a4 : Int32) (a3 : Int32) (a1 : Int32) (a2 : Int32) : zseg (zE xs L (d + 5) 165) (zC 165) 637 (zB165_7.drop 11) [(6, .int a6), (5, .int a5), (4, .int a4), (3, .int a3), (0, .ref 61), (1, .int a1), (2, .int a2)] [] (zmk I J X) = if zix 0 592 0 a6 then
  zcw (zE xs L (d + 5) 165) (zev xs L (d + 5) 178 [.ref 61, .int (59 : Int32)] (zmk (zup I 100 a6.toNatClampNeg (I 61 68)) J X)) (fun h => zseg (zE xs L (d + 5) 165) (zC 165) 627 (zB165_9.drop 3) [(6, .int a6), (5, .int a5), (4, .int a4), (3, .int a3), (0, .ref 61), (1, .int a1), (2, .int a2)] [] h)
  else none := by
  refine zite_congr ?_ ?_
  · rfl
  · rfl
theorem T165_5_2_668 (xs : Nat → Int32) (L d : Nat) (I : Nat → Nat → Int32) (J : Nat → Nat → Int64) (X : XH) (a5 : Int32) (a4 : Int32) (a3 : Int32) (a1 : Int32) (a2 : Int32) (b0 : Int32) : zseg (zE xs L (d + 5) 165) (zC 165) 668 (zB165_5.drop 2) [(5, .int a5), (4, .int a4), (3, .int a3), (0, .ref 61), (1, .int a1), (2, .int a2)] [.int b0] (zmk I J X) = if decide (a5 = 0) = true then
  if zix 0 37 0 a1 then
    zcw (zE xs L (d + 5) 165) (zev xs L (d + 5) 178 [.ref 61, .int (59 : Int32)] (zmk (zup I 97 a1.toNatClampNeg b0) J X)) (fun h => zseg (zE xs L (d + 5) 165) (zC 165) 656 (zB165_9.drop 3) [(6, .int b0), (5, .int a5), (4, .int a4), (3, .int a3), (0, .ref 61), (1, .int a1), (2, .int a2)] [] h)
    else none
  else if zix 0 37 0 a1 then
    zcw (zE xs L (d + 5) 165) (zev xs L (d + 5) 178 [.ref 61, .int (59 : Int32)] (zmk (zup I 96 a1.toNatClampNeg b0) J X)) (fun h => zseg (zE xs L (d + 5) 165) (zC 165) 656 (zB165_9.drop 3) [(6, .int b0), (5, .int a5), (4, .int a4), (3, .int a3), (0, .ref 61), (1, .int a1), (2, .int a2)] [] h)
    else none := by
  refine zite_congr ?_ ?_
  · refine zite_congr ?_ ?_
    · rfl
    · rfl
  · refine zite_congr ?_ ?_
    · rfl
    · rfl
theorem T165_7_11_634 (xs : Nat → Int32) (L d : Nat) (I : Nat → Nat → Int32) (J : Nat → Nat → Int64) (X : XH) (a6 : Int32) (a5 : Int32) (a4 : Int32) (a3 : Int32) (a1 : Int32) (a2 : Int32) : zseg (zE xs L (d + 5) 165) (zC 165) 634 (zB165_7.drop 11) [(6, .int a6), (5, .int a5), (4, .int a4), (3, .int a3), (0, .ref 61), (1, .int a1), (2, .int a2)] [] (zmk I J X) = if zix 0 592 0 a6 then
  zcw (zE xs L (d + 5) 165) (zev xs L (d + 5) 178 [.ref 61, .int (59 : Int32)] (zmk (zup I 100 a6.toNatClampNeg (I 61 68)) J X)) (fun h => zseg (zE xs L (d + 5) 165) (zC 165) 624 (zB165_9.drop 3) [(6, .int a6), (5, .int a5), (4, .int a4), (3, .int a3), (0, .ref 61), (1, .int a1), (2, .int a2)] [] h)
  else none := by
  refine zite_congr ?_ ?_
  · rfl
  · rfl
theorem T165_3_2_670 (xs : Nat → Int32) (L d : Nat) (I : Nat → Nat → Int32) (J : Nat → Nat → Int64) (X : XH) (a5 : Int32) (a4 : Int32) (a3 : Int32) (a1 : Int32) (a2 : Int32) : zseg (zE xs L (d + 5) 165) (zC 165) 670 (zB165_3.drop 2) [(5, .int a5), (4, .int a4), (3, .int a3), (0, .ref 61), (1, .int a1), (2, .int a2)] [] (zmk I J X) = if decide (¬ a3 = 0) = true then
  if zix 0 37 0 a1 then
    if zix 0 37 0 a1 then
      if zix 0 37 0 a1 then
        if decide (a3 = 0) = true then
          if zix 0 592 0 (((16 : Int32) * a1) + (I 95 a1.toNatClampNeg)) then
            if zix 0 592 0 (((16 : Int32) * a1) + (I 95 a1.toNatClampNeg)) then
              zcw (zE xs L (d + 5) 165) (zev xs L (d + 5) 168 [.ref 61, .int a1, .int (0 : Int32)] (zmk (zup (zup (zup I 95 a1.toNatClampNeg ((I 95 a1.toNatClampNeg) + (1 : Int32))) 98 ((((16 : Int32) * a1) + (I 95 a1.toNatClampNeg)).toNatClampNeg) (1 : Int32)) 99 ((((16 : Int32) * a1) + (I 95 a1.toNatClampNeg)).toNatClampNeg) (I 61 68)) J X)) (fun h => zseg (zE xs L (d + 5) 165) (zC 165) 633 (zB165_7.drop 11) [(6, .int (((16 : Int32) * a1) + (I 95 a1.toNatClampNeg))), (5, .int a5), (4, .int a4), (3, .int a3), (0, .ref 61), (1, .int a1), (2, .int a2)] [] h)
              else none
            else none
          else if zix 0 592 0 (((16 : Int32) * a1) + (I 95 a1.toNatClampNeg)) then
            if zix 0 592 0 (((16 : Int32) * a1) + (I 95 a1.toNatClampNeg)) then
              zcw (zE xs L (d + 5) 165) (zev xs L (d + 5) 168 [.ref 61, .int a1, .int (0 : Int32)] (zmk (zup (zup (zup I 95 a1.toNatClampNeg ((I 95 a1.toNatClampNeg) + (1 : Int32))) 98 ((((16 : Int32) * a1) + (I 95 a1.toNatClampNeg)).toNatClampNeg) (0 : Int32)) 99 ((((16 : Int32) * a1) + (I 95 a1.toNatClampNeg)).toNatClampNeg) (I 61 68)) J X)) (fun h => zseg (zE xs L (d + 5) 165) (zC 165) 633 (zB165_7.drop 11) [(6, .int (((16 : Int32) * a1) + (I 95 a1.toNatClampNeg))), (5, .int a5), (4, .int a4), (3, .int a3), (0, .ref 61), (1, .int a1), (2, .int a2)] [] h)
              else none
            else none
        else none
      else none
    else none
  else if decide (a4 = 0) = true then
    zci (zE xs L (d + 5) 165) (zev xs L (d + 5) 175 [.ref 61] (zmk I J X)) (fun r h => zseg (zE xs L (d + 5) 165) (zC 165) 664 (zB165_5.drop 2) [(5, .int a5), (4, .int a4), (3, .int a3), (0, .ref 61), (1, .int a1), (2, .int a2)] [.int r] h)
    else if zix 0 37 0 a1 then
      if zix 0 37 0 a1 then
        if zix 0 37 0 a1 then
          if decide (a3 = 0) = true then
            if zix 0 592 0 (((16 : Int32) * a1) + (I 95 a1.toNatClampNeg)) then
              if zix 0 592 0 (((16 : Int32) * a1) + (I 95 a1.toNatClampNeg)) then
                zcw (zE xs L (d + 5) 165) (zev xs L (d + 5) 168 [.ref 61, .int a1, .int (0 : Int32)] (zmk (zup (zup (zup I 95 a1.toNatClampNeg ((I 95 a1.toNatClampNeg) + (1 : Int32))) 98 ((((16 : Int32) * a1) + (I 95 a1.toNatClampNeg)).toNatClampNeg) (1 : Int32)) 99 ((((16 : Int32) * a1) + (I 95 a1.toNatClampNeg)).toNatClampNeg) (I 61 68)) J X)) (fun h => zseg (zE xs L (d + 5) 165) (zC 165) 630 (zB165_7.drop 11) [(6, .int (((16 : Int32) * a1) + (I 95 a1.toNatClampNeg))), (5, .int a5), (4, .int a4), (3, .int a3), (0, .ref 61), (1, .int a1), (2, .int a2)] [] h)
                else none
              else none
            else if zix 0 592 0 (((16 : Int32) * a1) + (I 95 a1.toNatClampNeg)) then
              if zix 0 592 0 (((16 : Int32) * a1) + (I 95 a1.toNatClampNeg)) then
                zcw (zE xs L (d + 5) 165) (zev xs L (d + 5) 168 [.ref 61, .int a1, .int (0 : Int32)] (zmk (zup (zup (zup I 95 a1.toNatClampNeg ((I 95 a1.toNatClampNeg) + (1 : Int32))) 98 ((((16 : Int32) * a1) + (I 95 a1.toNatClampNeg)).toNatClampNeg) (0 : Int32)) 99 ((((16 : Int32) * a1) + (I 95 a1.toNatClampNeg)).toNatClampNeg) (I 61 68)) J X)) (fun h => zseg (zE xs L (d + 5) 165) (zC 165) 630 (zB165_7.drop 11) [(6, .int (((16 : Int32) * a1) + (I 95 a1.toNatClampNeg))), (5, .int a5), (4, .int a4), (3, .int a3), (0, .ref 61), (1, .int a1), (2, .int a2)] [] h)
                else none
              else none
          else none
        else none
      else none := by
  refine zite_congr ?_ ?_
  · refine zite_congr ?_ ?_
    · refine zite_congr ?_ ?_
      · refine zite_congr ?_ ?_
        · refine zite_congr ?_ ?_
          · refine zite_congr ?_ ?_
            · refine zite_congr ?_ ?_
              · rfl
              · rfl
            · rfl
          · refine zite_congr ?_ ?_
            · refine zite_congr ?_ ?_
              · rfl
              · rfl
            · rfl
        · rfl
      · rfl
    · rfl
  · refine zite_congr ?_ ?_
    · rfl
    · refine zite_congr ?_ ?_
      · refine zite_congr ?_ ?_
        · refine zite_congr ?_ ?_
          · refine zite_congr ?_ ?_
            · refine zite_congr ?_ ?_
              · refine zite_congr ?_ ?_
                · rfl
                · rfl
              · rfl
            · refine zite_congr ?_ ?_
              · refine zite_congr ?_ ?_
                · rfl
                · rfl
              · rfl
          · rfl
        · rfl
      · rfl
theorem T165_1_6_672 (xs : Nat → Int32) (L d : Nat) (I : Nat → Nat → Int32) (J : Nat → Nat → Int64) (X : XH) (a5 : Int32) (a4 : Int32) (a3 : Int32) (a1 : Int32) (a2 : Int32) : zseg (zE xs L (d + 5) 165) (zC 165) 672 (zB165_1.drop 6) [(5, .int a5), (4, .int a4), (3, .int a3), (0, .ref 61), (1, .int a1), (2, .int a2)] [] (zmk I J X) = if decide ((I 61 65) = 0) = true then
  zcw (zE xs L (d + 5) 165) (zev xs L (d + 5) 161 [.ref 61] (zmk I J X)) (fun h => zseg (zE xs L (d + 5) 165) (zC 165) 666 (zB165_3.drop 2) [(5, .int a5), (4, .int a4), (3, .int a3), (0, .ref 61), (1, .int a1), (2, .int a2)] [] h)
  else some (.inr (.inr none, zmk I J X)) := by
  refine zite_congr ?_ ?_
  · rfl
  · rfl
theorem T165_0_25_675 (xs : Nat → Int32) (L d : Nat) (I : Nat → Nat → Int32) (J : Nat → Nat → Int64) (X : XH) (a5 : Int32) (a4 : Int32) (a3 : Int32) (a1 : Int32) (a2 : Int32) : zseg (zE xs L (d + 5) 165) (zC 165) 675 (zB165_0.drop 25) [(5, .int a5), (4, .int a4), (3, .int a3), (0, .ref 61), (1, .int a1), (2, .int a2)] [] (zmk I J X) = if decide ((I 61 65) = 0) = true then
  zcw (zE xs L (d + 5) 165) (zev xs L (d + 5) 161 [.ref 61] (zmk I J X)) (fun h => zseg (zE xs L (d + 5) 165) (zC 165) 669 (zB165_3.drop 2) [(5, .int a5), (4, .int a4), (3, .int a3), (0, .ref 61), (1, .int a1), (2, .int a2)] [] h)
  else some (.inr (.inr none, zmk I J X)) := by
  refine zite_congr ?_ ?_
  · rfl
  · rfl
theorem T165_9_3_631 (xs : Nat → Int32) (L d : Nat) (I : Nat → Nat → Int32) (J : Nat → Nat → Int64) (X : XH) (a6 : Int32) (a5 : Int32) (a4 : Int32) (a3 : Int32) (a1 : Int32) (a2 : Int32) : zseg (zE xs L (d + 5) 165) (zC 165) 631 (zB165_9.drop 3) [(6, .int a6), (5, .int a5), (4, .int a4), (3, .int a3), (0, .ref 61), (1, .int a1), (2, .int a2)] [] (zmk I J X) = some (.inr (.inr none, zmk I J X)) := by
  rfl
theorem T165_9_3_660 (xs : Nat → Int32) (L d : Nat) (I : Nat → Nat → Int32) (J : Nat → Nat → Int64) (X : XH) (a6 : Int32) (a5 : Int32) (a4 : Int32) (a3 : Int32) (a1 : Int32) (a2 : Int32) : zseg (zE xs L (d + 5) 165) (zC 165) 660 (zB165_9.drop 3) [(6, .int a6), (5, .int a5), (4, .int a4), (3, .int a3), (0, .ref 61), (1, .int a1), (2, .int a2)] [] (zmk I J X) = some (.inr (.inr none, zmk I J X)) := by
  rfl
theorem T165_9_3_628 (xs : Nat → Int32) (L d : Nat) (I : Nat → Nat → Int32) (J : Nat → Nat → Int64) (X : XH) (a6 : Int32) (a5 : Int32) (a4 : Int32) (a3 : Int32) (a1 : Int32) (a2 : Int32) : zseg (zE xs L (d + 5) 165) (zC 165) 628 (zB165_9.drop 3) [(6, .int a6), (5, .int a5), (4, .int a4), (3, .int a3), (0, .ref 61), (1, .int a1), (2, .int a2)] [] (zmk I J X) = some (.inr (.inr none, zmk I J X)) := by
  rfl
theorem T165_9_3_629 (xs : Nat → Int32) (L d : Nat) (I : Nat → Nat → Int32) (J : Nat → Nat → Int64) (X : XH) (a6 : Int32) (a5 : Int32) (a4 : Int32) (a3 : Int32) (a1 : Int32) (a2 : Int32) : zseg (zE xs L (d + 5) 165) (zC 165) 629 (zB165_9.drop 3) [(6, .int a6), (5, .int a5), (4, .int a4), (3, .int a3), (0, .ref 61), (1, .int a1), (2, .int a2)] [] (zmk I J X) = some (.inr (.inr none, zmk I J X)) := by
  rfl
theorem T165_9_3_658 (xs : Nat → Int32) (L d : Nat) (I : Nat → Nat → Int32) (J : Nat → Nat → Int64) (X : XH) (a6 : Int32) (a5 : Int32) (a4 : Int32) (a3 : Int32) (a1 : Int32) (a2 : Int32) : zseg (zE xs L (d + 5) 165) (zC 165) 658 (zB165_9.drop 3) [(6, .int a6), (5, .int a5), (4, .int a4), (3, .int a3), (0, .ref 61), (1, .int a1), (2, .int a2)] [] (zmk I J X) = some (.inr (.inr none, zmk I J X)) := by
  rfl
theorem T165_9_3_626 (xs : Nat → Int32) (L d : Nat) (I : Nat → Nat → Int32) (J : Nat → Nat → Int64) (X : XH) (a6 : Int32) (a5 : Int32) (a4 : Int32) (a3 : Int32) (a1 : Int32) (a2 : Int32) : zseg (zE xs L (d + 5) 165) (zC 165) 626 (zB165_9.drop 3) [(6, .int a6), (5, .int a5), (4, .int a4), (3, .int a3), (0, .ref 61), (1, .int a1), (2, .int a2)] [] (zmk I J X) = some (.inr (.inr none, zmk I J X)) := by
  rfl
theorem T165_7_11_635 (xs : Nat → Int32) (L d : Nat) (I : Nat → Nat → Int32) (J : Nat → Nat → Int64) (X : XH) (a6 : Int32) (a5 : Int32) (a4 : Int32) (a3 : Int32) (a1 : Int32) (a2 : Int32) : zseg (zE xs L (d + 5) 165) (zC 165) 635 (zB165_7.drop 11) [(6, .int a6), (5, .int a5), (4, .int a4), (3, .int a3), (0, .ref 61), (1, .int a1), (2, .int a2)] [] (zmk I J X) = if zix 0 592 0 a6 then
  zcw (zE xs L (d + 5) 165) (zev xs L (d + 5) 178 [.ref 61, .int (59 : Int32)] (zmk (zup I 100 a6.toNatClampNeg (I 61 68)) J X)) (fun h => zseg (zE xs L (d + 5) 165) (zC 165) 625 (zB165_9.drop 3) [(6, .int a6), (5, .int a5), (4, .int a4), (3, .int a3), (0, .ref 61), (1, .int a1), (2, .int a2)] [] h)
  else none := by
  refine zite_congr ?_ ?_
  · rfl
  · rfl
theorem T165_5_2_666 (xs : Nat → Int32) (L d : Nat) (I : Nat → Nat → Int32) (J : Nat → Nat → Int64) (X : XH) (a5 : Int32) (a4 : Int32) (a3 : Int32) (a1 : Int32) (a2 : Int32) (b0 : Int32) : zseg (zE xs L (d + 5) 165) (zC 165) 666 (zB165_5.drop 2) [(5, .int a5), (4, .int a4), (3, .int a3), (0, .ref 61), (1, .int a1), (2, .int a2)] [.int b0] (zmk I J X) = if decide (a5 = 0) = true then
  if zix 0 37 0 a1 then
    zcw (zE xs L (d + 5) 165) (zev xs L (d + 5) 178 [.ref 61, .int (59 : Int32)] (zmk (zup I 97 a1.toNatClampNeg b0) J X)) (fun h => zseg (zE xs L (d + 5) 165) (zC 165) 654 (zB165_9.drop 3) [(6, .int b0), (5, .int a5), (4, .int a4), (3, .int a3), (0, .ref 61), (1, .int a1), (2, .int a2)] [] h)
    else none
  else if zix 0 37 0 a1 then
    zcw (zE xs L (d + 5) 165) (zev xs L (d + 5) 178 [.ref 61, .int (59 : Int32)] (zmk (zup I 96 a1.toNatClampNeg b0) J X)) (fun h => zseg (zE xs L (d + 5) 165) (zC 165) 654 (zB165_9.drop 3) [(6, .int b0), (5, .int a5), (4, .int a4), (3, .int a3), (0, .ref 61), (1, .int a1), (2, .int a2)] [] h)
    else none := by
  refine zite_congr ?_ ?_
  · refine zite_congr ?_ ?_
    · rfl
    · rfl
  · refine zite_congr ?_ ?_
    · rfl
    · rfl
theorem T165_7_11_632 (xs : Nat → Int32) (L d : Nat) (I : Nat → Nat → Int32) (J : Nat → Nat → Int64) (X : XH) (a6 : Int32) (a5 : Int32) (a4 : Int32) (a3 : Int32) (a1 : Int32) (a2 : Int32) : zseg (zE xs L (d + 5) 165) (zC 165) 632 (zB165_7.drop 11) [(6, .int a6), (5, .int a5), (4, .int a4), (3, .int a3), (0, .ref 61), (1, .int a1), (2, .int a2)] [] (zmk I J X) = if zix 0 592 0 a6 then
  zcw (zE xs L (d + 5) 165) (zev xs L (d + 5) 178 [.ref 61, .int (59 : Int32)] (zmk (zup I 100 a6.toNatClampNeg (I 61 68)) J X)) (fun h => zseg (zE xs L (d + 5) 165) (zC 165) 622 (zB165_9.drop 3) [(6, .int a6), (5, .int a5), (4, .int a4), (3, .int a3), (0, .ref 61), (1, .int a1), (2, .int a2)] [] h)
  else none := by
  refine zite_congr ?_ ?_
  · rfl
  · rfl
theorem T165_9_3_627 (xs : Nat → Int32) (L d : Nat) (I : Nat → Nat → Int32) (J : Nat → Nat → Int64) (X : XH) (a6 : Int32) (a5 : Int32) (a4 : Int32) (a3 : Int32) (a1 : Int32) (a2 : Int32) : zseg (zE xs L (d + 5) 165) (zC 165) 627 (zB165_9.drop 3) [(6, .int a6), (5, .int a5), (4, .int a4), (3, .int a3), (0, .ref 61), (1, .int a1), (2, .int a2)] [] (zmk I J X) = some (.inr (.inr none, zmk I J X)) := by
  rfl
theorem T165_9_3_656 (xs : Nat → Int32) (L d : Nat) (I : Nat → Nat → Int32) (J : Nat → Nat → Int64) (X : XH) (a6 : Int32) (a5 : Int32) (a4 : Int32) (a3 : Int32) (a1 : Int32) (a2 : Int32) : zseg (zE xs L (d + 5) 165) (zC 165) 656 (zB165_9.drop 3) [(6, .int a6), (5, .int a5), (4, .int a4), (3, .int a3), (0, .ref 61), (1, .int a1), (2, .int a2)] [] (zmk I J X) = some (.inr (.inr none, zmk I J X)) := by
  rfl
theorem T165_9_3_624 (xs : Nat → Int32) (L d : Nat) (I : Nat → Nat → Int32) (J : Nat → Nat → Int64) (X : XH) (a6 : Int32) (a5 : Int32) (a4 : Int32) (a3 : Int32) (a1 : Int32) (a2 : Int32) : zseg (zE xs L (d + 5) 165) (zC 165) 624 (zB165_9.drop 3) [(6, .int a6), (5, .int a5), (4, .int a4), (3, .int a3), (0, .ref 61), (1, .int a1), (2, .int a2)] [] (zmk I J X) = some (.inr (.inr none, zmk I J X)) := by
  rfl
theorem T165_7_11_633 (xs : Nat → Int32) (L d : Nat) (I : Nat → Nat → Int32) (J : Nat → Nat → Int64) (X : XH) (a6 : Int32) (a5 : Int32) (a4 : Int32) (a3 : Int32) (a1 : Int32) (a2 : Int32) : zseg (zE xs L (d + 5) 165) (zC 165) 633 (zB165_7.drop 11) [(6, .int a6), (5, .int a5), (4, .int a4), (3, .int a3), (0, .ref 61), (1, .int a1), (2, .int a2)] [] (zmk I J X) = if zix 0 592 0 a6 then
  zcw (zE xs L (d + 5) 165) (zev xs L (d + 5) 178 [.ref 61, .int (59 : Int32)] (zmk (zup I 100 a6.toNatClampNeg (I 61 68)) J X)) (fun h => zseg (zE xs L (d + 5) 165) (zC 165) 623 (zB165_9.drop 3) [(6, .int a6), (5, .int a5), (4, .int a4), (3, .int a3), (0, .ref 61), (1, .int a1), (2, .int a2)] [] h)
  else none := by
  refine zite_congr ?_ ?_
  · rfl
  · rfl
theorem T165_5_2_664 (xs : Nat → Int32) (L d : Nat) (I : Nat → Nat → Int32) (J : Nat → Nat → Int64) (X : XH) (a5 : Int32) (a4 : Int32) (a3 : Int32) (a1 : Int32) (a2 : Int32) (b0 : Int32) : zseg (zE xs L (d + 5) 165) (zC 165) 664 (zB165_5.drop 2) [(5, .int a5), (4, .int a4), (3, .int a3), (0, .ref 61), (1, .int a1), (2, .int a2)] [.int b0] (zmk I J X) = if decide (a5 = 0) = true then
  if zix 0 37 0 a1 then
    zcw (zE xs L (d + 5) 165) (zev xs L (d + 5) 178 [.ref 61, .int (59 : Int32)] (zmk (zup I 97 a1.toNatClampNeg b0) J X)) (fun h => zseg (zE xs L (d + 5) 165) (zC 165) 652 (zB165_9.drop 3) [(6, .int b0), (5, .int a5), (4, .int a4), (3, .int a3), (0, .ref 61), (1, .int a1), (2, .int a2)] [] h)
    else none
  else if zix 0 37 0 a1 then
    zcw (zE xs L (d + 5) 165) (zev xs L (d + 5) 178 [.ref 61, .int (59 : Int32)] (zmk (zup I 96 a1.toNatClampNeg b0) J X)) (fun h => zseg (zE xs L (d + 5) 165) (zC 165) 652 (zB165_9.drop 3) [(6, .int b0), (5, .int a5), (4, .int a4), (3, .int a3), (0, .ref 61), (1, .int a1), (2, .int a2)] [] h)
    else none := by
  refine zite_congr ?_ ?_
  · refine zite_congr ?_ ?_
    · rfl
    · rfl
  · refine zite_congr ?_ ?_
    · rfl
    · rfl
theorem T165_7_11_630 (xs : Nat → Int32) (L d : Nat) (I : Nat → Nat → Int32) (J : Nat → Nat → Int64) (X : XH) (a6 : Int32) (a5 : Int32) (a4 : Int32) (a3 : Int32) (a1 : Int32) (a2 : Int32) : zseg (zE xs L (d + 5) 165) (zC 165) 630 (zB165_7.drop 11) [(6, .int a6), (5, .int a5), (4, .int a4), (3, .int a3), (0, .ref 61), (1, .int a1), (2, .int a2)] [] (zmk I J X) = if zix 0 592 0 a6 then
  zcw (zE xs L (d + 5) 165) (zev xs L (d + 5) 178 [.ref 61, .int (59 : Int32)] (zmk (zup I 100 a6.toNatClampNeg (I 61 68)) J X)) (fun h => zseg (zE xs L (d + 5) 165) (zC 165) 620 (zB165_9.drop 3) [(6, .int a6), (5, .int a5), (4, .int a4), (3, .int a3), (0, .ref 61), (1, .int a1), (2, .int a2)] [] h)
  else none := by
  refine zite_congr ?_ ?_
  · rfl
  · rfl
theorem T165_3_2_666 (xs : Nat → Int32) (L d : Nat) (I : Nat → Nat → Int32) (J : Nat → Nat → Int64) (X : XH) (a5 : Int32) (a4 : Int32) (a3 : Int32) (a1 : Int32) (a2 : Int32) : zseg (zE xs L (d + 5) 165) (zC 165) 666 (zB165_3.drop 2) [(5, .int a5), (4, .int a4), (3, .int a3), (0, .ref 61), (1, .int a1), (2, .int a2)] [] (zmk I J X) = if decide (¬ a3 = 0) = true then
  if zix 0 37 0 a1 then
    if zix 0 37 0 a1 then
      if zix 0 37 0 a1 then
        if decide (a3 = 0) = true then
          if zix 0 592 0 (((16 : Int32) * a1) + (I 95 a1.toNatClampNeg)) then
            if zix 0 592 0 (((16 : Int32) * a1) + (I 95 a1.toNatClampNeg)) then
              zcw (zE xs L (d + 5) 165) (zev xs L (d + 5) 168 [.ref 61, .int a1, .int (0 : Int32)] (zmk (zup (zup (zup I 95 a1.toNatClampNeg ((I 95 a1.toNatClampNeg) + (1 : Int32))) 98 ((((16 : Int32) * a1) + (I 95 a1.toNatClampNeg)).toNatClampNeg) (1 : Int32)) 99 ((((16 : Int32) * a1) + (I 95 a1.toNatClampNeg)).toNatClampNeg) (I 61 68)) J X)) (fun h => zseg (zE xs L (d + 5) 165) (zC 165) 629 (zB165_7.drop 11) [(6, .int (((16 : Int32) * a1) + (I 95 a1.toNatClampNeg))), (5, .int a5), (4, .int a4), (3, .int a3), (0, .ref 61), (1, .int a1), (2, .int a2)] [] h)
              else none
            else none
          else if zix 0 592 0 (((16 : Int32) * a1) + (I 95 a1.toNatClampNeg)) then
            if zix 0 592 0 (((16 : Int32) * a1) + (I 95 a1.toNatClampNeg)) then
              zcw (zE xs L (d + 5) 165) (zev xs L (d + 5) 168 [.ref 61, .int a1, .int (0 : Int32)] (zmk (zup (zup (zup I 95 a1.toNatClampNeg ((I 95 a1.toNatClampNeg) + (1 : Int32))) 98 ((((16 : Int32) * a1) + (I 95 a1.toNatClampNeg)).toNatClampNeg) (0 : Int32)) 99 ((((16 : Int32) * a1) + (I 95 a1.toNatClampNeg)).toNatClampNeg) (I 61 68)) J X)) (fun h => zseg (zE xs L (d + 5) 165) (zC 165) 629 (zB165_7.drop 11) [(6, .int (((16 : Int32) * a1) + (I 95 a1.toNatClampNeg))), (5, .int a5), (4, .int a4), (3, .int a3), (0, .ref 61), (1, .int a1), (2, .int a2)] [] h)
              else none
            else none
        else none
      else none
    else none
  else if decide (a4 = 0) = true then
    zci (zE xs L (d + 5) 165) (zev xs L (d + 5) 175 [.ref 61] (zmk I J X)) (fun r h => zseg (zE xs L (d + 5) 165) (zC 165) 660 (zB165_5.drop 2) [(5, .int a5), (4, .int a4), (3, .int a3), (0, .ref 61), (1, .int a1), (2, .int a2)] [.int r] h)
    else if zix 0 37 0 a1 then
      if zix 0 37 0 a1 then
        if zix 0 37 0 a1 then
          if decide (a3 = 0) = true then
            if zix 0 592 0 (((16 : Int32) * a1) + (I 95 a1.toNatClampNeg)) then
              if zix 0 592 0 (((16 : Int32) * a1) + (I 95 a1.toNatClampNeg)) then
                zcw (zE xs L (d + 5) 165) (zev xs L (d + 5) 168 [.ref 61, .int a1, .int (0 : Int32)] (zmk (zup (zup (zup I 95 a1.toNatClampNeg ((I 95 a1.toNatClampNeg) + (1 : Int32))) 98 ((((16 : Int32) * a1) + (I 95 a1.toNatClampNeg)).toNatClampNeg) (1 : Int32)) 99 ((((16 : Int32) * a1) + (I 95 a1.toNatClampNeg)).toNatClampNeg) (I 61 68)) J X)) (fun h => zseg (zE xs L (d + 5) 165) (zC 165) 626 (zB165_7.drop 11) [(6, .int (((16 : Int32) * a1) + (I 95 a1.toNatClampNeg))), (5, .int a5), (4, .int a4), (3, .int a3), (0, .ref 61), (1, .int a1), (2, .int a2)] [] h)
                else none
              else none
            else if zix 0 592 0 (((16 : Int32) * a1) + (I 95 a1.toNatClampNeg)) then
              if zix 0 592 0 (((16 : Int32) * a1) + (I 95 a1.toNatClampNeg)) then
                zcw (zE xs L (d + 5) 165) (zev xs L (d + 5) 168 [.ref 61, .int a1, .int (0 : Int32)] (zmk (zup (zup (zup I 95 a1.toNatClampNeg ((I 95 a1.toNatClampNeg) + (1 : Int32))) 98 ((((16 : Int32) * a1) + (I 95 a1.toNatClampNeg)).toNatClampNeg) (0 : Int32)) 99 ((((16 : Int32) * a1) + (I 95 a1.toNatClampNeg)).toNatClampNeg) (I 61 68)) J X)) (fun h => zseg (zE xs L (d + 5) 165) (zC 165) 626 (zB165_7.drop 11) [(6, .int (((16 : Int32) * a1) + (I 95 a1.toNatClampNeg))), (5, .int a5), (4, .int a4), (3, .int a3), (0, .ref 61), (1, .int a1), (2, .int a2)] [] h)
                else none
              else none
          else none
        else none
      else none := by
  refine zite_congr ?_ ?_
  · refine zite_congr ?_ ?_
    · refine zite_congr ?_ ?_
      · refine zite_congr ?_ ?_
        · refine zite_congr ?_ ?_
          · refine zite_congr ?_ ?_
            · refine zite_congr ?_ ?_
              · rfl
              · rfl
            · rfl
          · refine zite_congr ?_ ?_
            · refine zite_congr ?_ ?_
              · rfl
              · rfl
            · rfl
        · rfl
      · rfl
    · rfl
  · refine zite_congr ?_ ?_
    · rfl
    · refine zite_congr ?_ ?_
      · refine zite_congr ?_ ?_
        · refine zite_congr ?_ ?_
          · refine zite_congr ?_ ?_
            · refine zite_congr ?_ ?_
              · refine zite_congr ?_ ?_
                · rfl
                · rfl
              · rfl
            · refine zite_congr ?_ ?_
              · refine zite_congr ?_ ?_
                · rfl
                · rfl
              · rfl
          · rfl
        · rfl
      · rfl
theorem T165_3_2_669 (xs : Nat → Int32) (L d : Nat) (I : Nat → Nat → Int32) (J : Nat → Nat → Int64) (X : XH) (a5 : Int32) (a4 : Int32) (a3 : Int32) (a1 : Int32) (a2 : Int32) : zseg (zE xs L (d + 5) 165) (zC 165) 669 (zB165_3.drop 2) [(5, .int a5), (4, .int a4), (3, .int a3), (0, .ref 61), (1, .int a1), (2, .int a2)] [] (zmk I J X) = if decide (¬ a3 = 0) = true then
  if zix 0 37 0 a1 then
    if zix 0 37 0 a1 then
      if zix 0 37 0 a1 then
        if decide (a3 = 0) = true then
          if zix 0 592 0 (((16 : Int32) * a1) + (I 95 a1.toNatClampNeg)) then
            if zix 0 592 0 (((16 : Int32) * a1) + (I 95 a1.toNatClampNeg)) then
              zcw (zE xs L (d + 5) 165) (zev xs L (d + 5) 168 [.ref 61, .int a1, .int (0 : Int32)] (zmk (zup (zup (zup I 95 a1.toNatClampNeg ((I 95 a1.toNatClampNeg) + (1 : Int32))) 98 ((((16 : Int32) * a1) + (I 95 a1.toNatClampNeg)).toNatClampNeg) (1 : Int32)) 99 ((((16 : Int32) * a1) + (I 95 a1.toNatClampNeg)).toNatClampNeg) (I 61 68)) J X)) (fun h => zseg (zE xs L (d + 5) 165) (zC 165) 632 (zB165_7.drop 11) [(6, .int (((16 : Int32) * a1) + (I 95 a1.toNatClampNeg))), (5, .int a5), (4, .int a4), (3, .int a3), (0, .ref 61), (1, .int a1), (2, .int a2)] [] h)
              else none
            else none
          else if zix 0 592 0 (((16 : Int32) * a1) + (I 95 a1.toNatClampNeg)) then
            if zix 0 592 0 (((16 : Int32) * a1) + (I 95 a1.toNatClampNeg)) then
              zcw (zE xs L (d + 5) 165) (zev xs L (d + 5) 168 [.ref 61, .int a1, .int (0 : Int32)] (zmk (zup (zup (zup I 95 a1.toNatClampNeg ((I 95 a1.toNatClampNeg) + (1 : Int32))) 98 ((((16 : Int32) * a1) + (I 95 a1.toNatClampNeg)).toNatClampNeg) (0 : Int32)) 99 ((((16 : Int32) * a1) + (I 95 a1.toNatClampNeg)).toNatClampNeg) (I 61 68)) J X)) (fun h => zseg (zE xs L (d + 5) 165) (zC 165) 632 (zB165_7.drop 11) [(6, .int (((16 : Int32) * a1) + (I 95 a1.toNatClampNeg))), (5, .int a5), (4, .int a4), (3, .int a3), (0, .ref 61), (1, .int a1), (2, .int a2)] [] h)
              else none
            else none
        else none
      else none
    else none
  else if decide (a4 = 0) = true then
    zci (zE xs L (d + 5) 165) (zev xs L (d + 5) 175 [.ref 61] (zmk I J X)) (fun r h => zseg (zE xs L (d + 5) 165) (zC 165) 663 (zB165_5.drop 2) [(5, .int a5), (4, .int a4), (3, .int a3), (0, .ref 61), (1, .int a1), (2, .int a2)] [.int r] h)
    else if zix 0 37 0 a1 then
      if zix 0 37 0 a1 then
        if zix 0 37 0 a1 then
          if decide (a3 = 0) = true then
            if zix 0 592 0 (((16 : Int32) * a1) + (I 95 a1.toNatClampNeg)) then
              if zix 0 592 0 (((16 : Int32) * a1) + (I 95 a1.toNatClampNeg)) then
                zcw (zE xs L (d + 5) 165) (zev xs L (d + 5) 168 [.ref 61, .int a1, .int (0 : Int32)] (zmk (zup (zup (zup I 95 a1.toNatClampNeg ((I 95 a1.toNatClampNeg) + (1 : Int32))) 98 ((((16 : Int32) * a1) + (I 95 a1.toNatClampNeg)).toNatClampNeg) (1 : Int32)) 99 ((((16 : Int32) * a1) + (I 95 a1.toNatClampNeg)).toNatClampNeg) (I 61 68)) J X)) (fun h => zseg (zE xs L (d + 5) 165) (zC 165) 629 (zB165_7.drop 11) [(6, .int (((16 : Int32) * a1) + (I 95 a1.toNatClampNeg))), (5, .int a5), (4, .int a4), (3, .int a3), (0, .ref 61), (1, .int a1), (2, .int a2)] [] h)
                else none
              else none
            else if zix 0 592 0 (((16 : Int32) * a1) + (I 95 a1.toNatClampNeg)) then
              if zix 0 592 0 (((16 : Int32) * a1) + (I 95 a1.toNatClampNeg)) then
                zcw (zE xs L (d + 5) 165) (zev xs L (d + 5) 168 [.ref 61, .int a1, .int (0 : Int32)] (zmk (zup (zup (zup I 95 a1.toNatClampNeg ((I 95 a1.toNatClampNeg) + (1 : Int32))) 98 ((((16 : Int32) * a1) + (I 95 a1.toNatClampNeg)).toNatClampNeg) (0 : Int32)) 99 ((((16 : Int32) * a1) + (I 95 a1.toNatClampNeg)).toNatClampNeg) (I 61 68)) J X)) (fun h => zseg (zE xs L (d + 5) 165) (zC 165) 629 (zB165_7.drop 11) [(6, .int (((16 : Int32) * a1) + (I 95 a1.toNatClampNeg))), (5, .int a5), (4, .int a4), (3, .int a3), (0, .ref 61), (1, .int a1), (2, .int a2)] [] h)
                else none
              else none
          else none
        else none
      else none := by
  refine zite_congr ?_ ?_
  · refine zite_congr ?_ ?_
    · refine zite_congr ?_ ?_
      · refine zite_congr ?_ ?_
        · refine zite_congr ?_ ?_
          · refine zite_congr ?_ ?_
            · refine zite_congr ?_ ?_
              · rfl
              · rfl
            · rfl
          · refine zite_congr ?_ ?_
            · refine zite_congr ?_ ?_
              · rfl
              · rfl
            · rfl
        · rfl
      · rfl
    · rfl
  · refine zite_congr ?_ ?_
    · rfl
    · refine zite_congr ?_ ?_
      · refine zite_congr ?_ ?_
        · refine zite_congr ?_ ?_
          · refine zite_congr ?_ ?_
            · refine zite_congr ?_ ?_
              · refine zite_congr ?_ ?_
                · rfl
                · rfl
              · rfl
            · refine zite_congr ?_ ?_
              · refine zite_congr ?_ ?_
                · rfl
                · rfl
              · rfl
          · rfl
        · rfl
      · rfl
theorem T165_9_3_625 (xs : Nat → Int32) (L d : Nat) (I : Nat → Nat → Int32) (J : Nat → Nat → Int64) (X : XH) (a6 : Int32) (a5 : Int32) (a4 : Int32) (a3 : Int32) (a1 : Int32) (a2 : Int32) : zseg (zE xs L (d + 5) 165) (zC 165) 625 (zB165_9.drop 3) [(6, .int a6), (5, .int a5), (4, .int a4), (3, .int a3), (0, .ref 61), (1, .int a1), (2, .int a2)] [] (zmk I J X) = some (.inr (.inr none, zmk I J X)) := by
  rfl
theorem T165_9_3_654 (xs : Nat → Int32) (L d : Nat) (I : Nat → Nat → Int32) (J : Nat → Nat → Int64) (X : XH) (a6 : Int32) (a5 : Int32) (a4 : Int32) (a3 : Int32) (a1 : Int32) (a2 : Int32) : zseg (zE xs L (d + 5) 165) (zC 165) 654 (zB165_9.drop 3) [(6, .int a6), (5, .int a5), (4, .int a4), (3, .int a3), (0, .ref 61), (1, .int a1), (2, .int a2)] [] (zmk I J X) = some (.inr (.inr none, zmk I J X)) := by
  rfl
theorem T165_9_3_622 (xs : Nat → Int32) (L d : Nat) (I : Nat → Nat → Int32) (J : Nat → Nat → Int64) (X : XH) (a6 : Int32) (a5 : Int32) (a4 : Int32) (a3 : Int32) (a1 : Int32) (a2 : Int32) : zseg (zE xs L (d + 5) 165) (zC 165) 622 (zB165_9.drop 3) [(6, .int a6), (5, .int a5), (4, .int a4), (3, .int a3), (0, .ref 61), (1, .int a1), (2, .int a2)] [] (zmk I J X) = some (.inr (.inr none, zmk I J X)) := by
  rfl
theorem T165_9_3_623 (xs : Nat → Int32) (L d : Nat) (I : Nat → Nat → Int32) (J : Nat → Nat → Int64) (X : XH) (a6 : Int32) (a5 : Int32) (a4 : Int32) (a3 : Int32) (a1 : Int32) (a2 : Int32) : zseg (zE xs L (d + 5) 165) (zC 165) 623 (zB165_9.drop 3) [(6, .int a6), (5, .int a5), (4, .int a4), (3, .int a3), (0, .ref 61), (1, .int a1), (2, .int a2)] [] (zmk I J X) = some (.inr (.inr none, zmk I J X)) := by
  rfl
theorem T165_9_3_652 (xs : Nat → Int32) (L d : Nat) (I : Nat → Nat → Int32) (J : Nat → Nat → Int64) (X : XH) (a6 : Int32) (a5 : Int32) (a4 : Int32) (a3 : Int32) (a1 : Int32) (a2 : Int32) : zseg (zE xs L (d + 5) 165) (zC 165) 652 (zB165_9.drop 3) [(6, .int a6), (5, .int a5), (4, .int a4), (3, .int a3), (0, .ref 61), (1, .int a1), (2, .int a2)] [] (zmk I J X) = some (.inr (.inr none, zmk I J X)) := by
  rfl
theorem T165_9_3_620 (xs : Nat → Int32) (L d : Nat) (I : Nat → Nat → Int32) (J : Nat → Nat → Int64) (X : XH) (a6 : Int32) (a5 : Int32) (a4 : Int32) (a3 : Int32) (a1 : Int32) (a2 : Int32) : zseg (zE xs L (d + 5) 165) (zC 165) 620 (zB165_9.drop 3) [(6, .int a6), (5, .int a5), (4, .int a4), (3, .int a3), (0, .ref 61), (1, .int a1), (2, .int a2)] [] (zmk I J X) = some (.inr (.inr none, zmk I J X)) := by
  rfl
theorem T165_7_11_629 (xs : Nat → Int32) (L d : Nat) (I : Nat → Nat → Int32) (J : Nat → Nat → Int64) (X : XH) (a6 : Int32) (a5 : Int32) (a4 : Int32) (a3 : Int32) (a1 : Int32) (a2 : Int32) : zseg (zE xs L (d + 5) 165) (zC 165) 629 (zB165_7.drop 11) [(6, .int a6), (5, .int a5), (4, .int a4), (3, .int a3), (0, .ref 61), (1, .int a1), (2, .int a2)] [] (zmk I J X) = if zix 0 592 0 a6 then
  zcw (zE xs L (d + 5) 165) (zev xs L (d + 5) 178 [.ref 61, .int (59 : Int32)] (zmk (zup I 100 a6.toNatClampNeg (I 61 68)) J X)) (fun h => zseg (zE xs L (d + 5) 165) (zC 165) 619 (zB165_9.drop 3) [(6, .int a6), (5, .int a5), (4, .int a4), (3, .int a3), (0, .ref 61), (1, .int a1), (2, .int a2)] [] h)
  else none := by
  refine zite_congr ?_ ?_
  · rfl
  · rfl
theorem T165_5_2_660 (xs : Nat → Int32) (L d : Nat) (I : Nat → Nat → Int32) (J : Nat → Nat → Int64) (X : XH) (a5 : Int32) (a4 : Int32) (a3 : Int32) (a1 : Int32) (a2 : Int32) (b0 : Int32) : zseg (zE xs L (d + 5) 165) (zC 165) 660 (zB165_5.drop 2) [(5, .int a5), (4, .int a4), (3, .int a3), (0, .ref 61), (1, .int a1), (2, .int a2)] [.int b0] (zmk I J X) = if decide (a5 = 0) = true then
  if zix 0 37 0 a1 then
    zcw (zE xs L (d + 5) 165) (zev xs L (d + 5) 178 [.ref 61, .int (59 : Int32)] (zmk (zup I 97 a1.toNatClampNeg b0) J X)) (fun h => zseg (zE xs L (d + 5) 165) (zC 165) 648 (zB165_9.drop 3) [(6, .int b0), (5, .int a5), (4, .int a4), (3, .int a3), (0, .ref 61), (1, .int a1), (2, .int a2)] [] h)
    else none
  else if zix 0 37 0 a1 then
    zcw (zE xs L (d + 5) 165) (zev xs L (d + 5) 178 [.ref 61, .int (59 : Int32)] (zmk (zup I 96 a1.toNatClampNeg b0) J X)) (fun h => zseg (zE xs L (d + 5) 165) (zC 165) 648 (zB165_9.drop 3) [(6, .int b0), (5, .int a5), (4, .int a4), (3, .int a3), (0, .ref 61), (1, .int a1), (2, .int a2)] [] h)
    else none := by
  refine zite_congr ?_ ?_
  · refine zite_congr ?_ ?_
    · rfl
    · rfl
  · refine zite_congr ?_ ?_
    · rfl
    · rfl
theorem T165_7_11_626 (xs : Nat → Int32) (L d : Nat) (I : Nat → Nat → Int32) (J : Nat → Nat → Int64) (X : XH) (a6 : Int32) (a5 : Int32) (a4 : Int32) (a3 : Int32) (a1 : Int32) (a2 : Int32) : zseg (zE xs L (d + 5) 165) (zC 165) 626 (zB165_7.drop 11) [(6, .int a6), (5, .int a5), (4, .int a4), (3, .int a3), (0, .ref 61), (1, .int a1), (2, .int a2)] [] (zmk I J X) = if zix 0 592 0 a6 then
  zcw (zE xs L (d + 5) 165) (zev xs L (d + 5) 178 [.ref 61, .int (59 : Int32)] (zmk (zup I 100 a6.toNatClampNeg (I 61 68)) J X)) (fun h => zseg (zE xs L (d + 5) 165) (zC 165) 616 (zB165_9.drop 3) [(6, .int a6), (5, .int a5), (4, .int a4), (3, .int a3), (0, .ref 61), (1, .int a1), (2, .int a2)] [] h)
  else none := by
  refine zite_congr ?_ ?_
  · rfl
  · rfl
theorem T165_5_2_663 (xs : Nat → Int32) (L d : Nat) (I : Nat → Nat → Int32) (J : Nat → Nat → Int64) (X : XH) (a5 : Int32) (a4 : Int32) (a3 : Int32) (a1 : Int32) (a2 : Int32) (b0 : Int32) : zseg (zE xs L (d + 5) 165) (zC 165) 663 (zB165_5.drop 2) [(5, .int a5), (4, .int a4), (3, .int a3), (0, .ref 61), (1, .int a1), (2, .int a2)] [.int b0] (zmk I J X) = if decide (a5 = 0) = true then
  if zix 0 37 0 a1 then
    zcw (zE xs L (d + 5) 165) (zev xs L (d + 5) 178 [.ref 61, .int (59 : Int32)] (zmk (zup I 97 a1.toNatClampNeg b0) J X)) (fun h => zseg (zE xs L (d + 5) 165) (zC 165) 651 (zB165_9.drop 3) [(6, .int b0), (5, .int a5), (4, .int a4), (3, .int a3), (0, .ref 61), (1, .int a1), (2, .int a2)] [] h)
    else none
  else if zix 0 37 0 a1 then
    zcw (zE xs L (d + 5) 165) (zev xs L (d + 5) 178 [.ref 61, .int (59 : Int32)] (zmk (zup I 96 a1.toNatClampNeg b0) J X)) (fun h => zseg (zE xs L (d + 5) 165) (zC 165) 651 (zB165_9.drop 3) [(6, .int b0), (5, .int a5), (4, .int a4), (3, .int a3), (0, .ref 61), (1, .int a1), (2, .int a2)] [] h)
    else none := by
  refine zite_congr ?_ ?_
  · refine zite_congr ?_ ?_
    · rfl
    · rfl
  · refine zite_congr ?_ ?_
    · rfl
    · rfl
theorem T165_9_3_619 (xs : Nat → Int32) (L d : Nat) (I : Nat → Nat → Int32) (J : Nat → Nat → Int64) (X : XH) (a6 : Int32) (a5 : Int32) (a4 : Int32) (a3 : Int32) (a1 : Int32) (a2 : Int32) : zseg (zE xs L (d + 5) 165) (zC 165) 619 (zB165_9.drop 3) [(6, .int a6), (5, .int a5), (4, .int a4), (3, .int a3), (0, .ref 61), (1, .int a1), (2, .int a2)] [] (zmk I J X) = some (.inr (.inr none, zmk I J X)) := by
  rfl
theorem T165_9_3_648 (xs : Nat → Int32) (L d : Nat) (I : Nat → Nat → Int32) (J : Nat → Nat → Int64) (X : XH) (a6 : Int32) (a5 : Int32) (a4 : Int32) (a3 : Int32) (a1 : Int32) (a2 : Int32) : zseg (zE xs L (d + 5) 165) (zC 165) 648 (zB165_9.drop 3) [(6, .int a6), (5, .int a5), (4, .int a4), (3, .int a3), (0, .ref 61), (1, .int a1), (2, .int a2)] [] (zmk I J X) = some (.inr (.inr none, zmk I J X)) := by
  rfl
theorem T165_9_3_616 (xs : Nat → Int32) (L d : Nat) (I : Nat → Nat → Int32) (J : Nat → Nat → Int64) (X : XH) (a6 : Int32) (a5 : Int32) (a4 : Int32) (a3 : Int32) (a1 : Int32) (a2 : Int32) : zseg (zE xs L (d + 5) 165) (zC 165) 616 (zB165_9.drop 3) [(6, .int a6), (5, .int a5), (4, .int a4), (3, .int a3), (0, .ref 61), (1, .int a1), (2, .int a2)] [] (zmk I J X) = some (.inr (.inr none, zmk I J X)) := by
  rfl
theorem T165_9_3_651 (xs : Nat → Int32) (L d : Nat) (I : Nat → Nat → Int32) (J : Nat → Nat → Int64) (X : XH) (a6 : Int32) (a5 : Int32) (a4 : Int32) (a3 : Int32) (a1 : Int32) (a2 : Int32) : zseg (zE xs L (d + 5) 165) (zC 165) 651 (zB165_9.drop 3) [(6, .int a6), (5, .int a5), (4, .int a4), (3, .int a3), (0, .ref 61), (1, .int a1), (2, .int a2)] [] (zmk I J X) = some (.inr (.inr none, zmk I J X)) := by
  rfl
/-! 166 TollTagsModel.is (Ljava/lang/String;)Z -/
theorem S166_0 (xs : Nat → Int32) (L d : Nat) (I : Nat → Nat → Int32) (J : Nat → Nat → Int64) (X : XH) (s : UInt32) : zseg (zE xs L (d + 5) 166) (zC 166) 700 (zC 166 0) [(0, .ref 61), (1, .float s)] [] (zmk I J X) = if decide (¬ (I 61 65) = 0) = true then
  some (.inl (4, [(0, .ref 61), (1, .float s), (2, .int (0 : Int32)), (3, .int (0 : Int32))], zmk I J X))
  else if decide (¬ (I 61 60) = (1 : Int32)) = true then
    some (.inl (4, [(0, .ref 61), (1, .float s), (2, .int (0 : Int32)), (3, .int (0 : Int32))], zmk I J X))
    else if s.toNat < 16 ∧ 0 ≤ 4 then
      if decide (¬ (Int32.ofNat (zlen s.toNat)) = ((I 61 64) - (I 61 63))) = true then
        some (.inl (4, [(0, .ref 61), (1, .float s), (2, .int (0 : Int32)), (3, .int (0 : Int32))], zmk I J X))
        else some (.inl (4, [(0, .ref 61), (1, .float s), (2, .int (1 : Int32)), (3, .int (0 : Int32))], zmk I J X))
      else none := by
  refine zite_congr ?_ ?_
  · rfl
  · refine zite_congr ?_ ?_
    · rfl
    · refine zite_congr ?_ ?_
      · refine zite_congr ?_ ?_
        · rfl
        · rfl
      · rfl
theorem S166_4 (xs : Nat → Int32) (L d : Nat) (I : Nat → Nat → Int32) (J : Nat → Nat → Int64) (X : XH) (s : UInt32) (a2 : Int32) (a3 : Int32) : zseg (zE xs L (d + 5) 166) (zC 166) 700 (zC 166 4) [(0, .ref 61), (1, .float s), (2, .int a2), (3, .int a3)] [] (zmk I J X) = if decide (a2 = 0) = true then
  if a2 = 0 ∨ a2 = 1 then
    some (.inr (.inr (some (.int a2)), zmk I J X))
    else none
  else if s.toNat < 16 ∧ 1 ≤ 4 then
    if decide ((Int32.ofNat (zlen s.toNat)) ≤ a3) = true then
      if a2 = 0 ∨ a2 = 1 then
        some (.inr (.inr (some (.int a2)), zmk I J X))
        else none
      else if s.toNat < 16 ∧ ¬ (a3 < 0 ∨ zlen s.toNat ≤ a3.toNatClampNeg) ∧ 0 ≤ 4 then
        if zix 0 400 0 ((I 61 63) + a3) then
          if decide (¬ (zch s.toNat a3.toNatClampNeg) = (I 104 (((I 61 63) + a3).toNatClampNeg))) = true then
            some (.inl (4, [(0, .ref 61), (1, .float s), (2, .int (0 : Int32)), (3, .int (a3 + (1 : Int32)))], zmk I J X))
            else some (.inl (4, [(0, .ref 61), (1, .float s), (2, .int (1 : Int32)), (3, .int (a3 + (1 : Int32)))], zmk I J X))
          else none
        else none
    else none := by
  refine zite_congr ?_ ?_
  · refine zite_congr ?_ ?_
    · rfl
    · rfl
  · refine zite_congr ?_ ?_
    · refine zite_congr ?_ ?_
      · refine zite_congr ?_ ?_
        · rfl
        · rfl
      · refine zite_congr ?_ ?_
        · refine zite_congr ?_ ?_
          · refine zite_congr ?_ ?_
            · rfl
            · rfl
          · rfl
        · rfl
    · rfl
/-! 167 TollTagsModel.wrong (I)V -/
theorem S167_0 (xs : Nat → Int32) (L d : Nat) (I : Nat → Nat → Int32) (J : Nat → Nat → Int64) (X : XH) (a1 : Int32) : zseg (zE xs L (d + 5) 167) (zC 167) 700 (zC 167 0) [(0, .ref 61), (1, .int a1)] [] (zmk I J X) = if decide ((I 61 65) = 0) = true then
  some (.inr (.inr none, zmk (zup (zup I 61 65 a1) 61 66 (I 61 63)) J X))
  else some (.inr (.inr none, zmk I J X)) := by
  refine zite_congr ?_ ?_
  · rfl
  · rfl
/-! 168 TollTagsModel.readExpression (II)V -/
theorem S168_0 (xs : Nat → Int32) (L d : Nat) (I : Nat → Nat → Int32) (J : Nat → Nat → Int64) (X : XH) (a1 : Int32) (a2 : Int32) : zseg (zE xs L (d + 5) 168) (zC 168) 700 (zC 168 0) [(0, .ref 61), (1, .int a1), (2, .int a2)] [] (zmk I J X) = if decide ((I 61 65) = 0) = true then
  if decide ((I 61 60) = (2 : Int32)) = true then
    if decide (¬ a2 = (6 : Int32)) = true then
      zcw (zE xs L (d + 5) 168) (zev xs L (d + 5) 170 [.ref 61, .int a1, .int a2] (zmk I J X)) (fun h => zseg (zE xs L (d + 5) 168) (zC 168) 681 (zB168_6.drop 4) [(3, .int (1 : Int32)), (0, .ref 61), (1, .int a1), (2, .int a2)] [] h)
      else zcw (zE xs L (d + 5) 168) (zev xs L (d + 5) 167 [.ref 61, .int (2 : Int32)] (zmk I J X)) (fun h => zseg (zE xs L (d + 5) 168) (zC 168) 682 (zB168_5.drop 6) [(3, .int (1 : Int32)), (0, .ref 61), (1, .int a1), (2, .int a2)] [] h)
    else if decide ((I 61 60) = (1 : Int32)) = true then
      if decide (¬ a2 = (6 : Int32)) = true then
        zcw (zE xs L (d + 5) 168) (zev xs L (d + 5) 170 [.ref 61, .int a1, .int a2] (zmk I J X)) (fun h => zseg (zE xs L (d + 5) 168) (zC 168) 677 (zB168_6.drop 4) [(3, .int (1 : Int32)), (0, .ref 61), (1, .int a1), (2, .int a2)] [] h)
        else zcw (zE xs L (d + 5) 168) (zev xs L (d + 5) 167 [.ref 61, .int (2 : Int32)] (zmk I J X)) (fun h => zseg (zE xs L (d + 5) 168) (zC 168) 678 (zB168_5.drop 6) [(3, .int (1 : Int32)), (0, .ref 61), (1, .int a1), (2, .int a2)] [] h)
      else if decide ((zbi (I 61 65 = 0 ∧ I 61 60 = 3 ∧ I 61 61 = (40 : Int32))) = 0) = true then
        zcw (zE xs L (d + 5) 168) (zev xs L (d + 5) 167 [.ref 61, .int (1 : Int32)] (zmk I J X)) (fun h => zseg (zE xs L (d + 5) 168) (zC 168) 677 (zB168_4.drop 6) [(3, .int (0 : Int32)), (0, .ref 61), (1, .int a1), (2, .int a2)] [] h)
        else if decide (¬ a2 = (6 : Int32)) = true then
          zcw (zE xs L (d + 5) 168) (zev xs L (d + 5) 170 [.ref 61, .int a1, .int a2] (zmk I J X)) (fun h => zseg (zE xs L (d + 5) 168) (zC 168) 672 (zB168_6.drop 4) [(3, .int (1 : Int32)), (0, .ref 61), (1, .int a1), (2, .int a2)] [] h)
          else zcw (zE xs L (d + 5) 168) (zev xs L (d + 5) 167 [.ref 61, .int (2 : Int32)] (zmk I J X)) (fun h => zseg (zE xs L (d + 5) 168) (zC 168) 673 (zB168_5.drop 6) [(3, .int (1 : Int32)), (0, .ref 61), (1, .int a1), (2, .int a2)] [] h)
  else some (.inr (.inr none, zmk I J X)) := by
  refine zite_congr ?_ ?_
  · refine zite_congr ?_ ?_
    · refine zite_congr ?_ ?_
      · rfl
      · rfl
    · refine zite_congr ?_ ?_
      · refine zite_congr ?_ ?_
        · rfl
        · rfl
      · refine zite_congr ?_ ?_
        · rfl
        · refine zite_congr ?_ ?_
          · rfl
          · rfl
  · rfl
theorem T168_6_4_681 (xs : Nat → Int32) (L d : Nat) (I : Nat → Nat → Int32) (J : Nat → Nat → Int64) (X : XH) (a3 : Int32) (a1 : Int32) (a2 : Int32) : zseg (zE xs L (d + 5) 168) (zC 168) 681 (zB168_6.drop 4) [(3, .int a3), (0, .ref 61), (1, .int a1), (2, .int a2)] [] (zmk I J X) = some (.inl (8, [(0, .ref 61), (1, .int a1), (2, .int a2), (3, .int a3)], zmk I J X)) := by
  rfl
theorem T168_5_6_682 (xs : Nat → Int32) (L d : Nat) (I : Nat → Nat → Int32) (J : Nat → Nat → Int64) (X : XH) (a3 : Int32) (a1 : Int32) (a2 : Int32) : zseg (zE xs L (d + 5) 168) (zC 168) 682 (zB168_5.drop 6) [(3, .int a3), (0, .ref 61), (1, .int a1), (2, .int a2)] [] (zmk I J X) = zcw (zE xs L (d + 5) 168) (zev xs L (d + 5) 170 [.ref 61, .int a1, .int a2] (zmk I J X)) (fun h => zseg (zE xs L (d + 5) 168) (zC 168) 677 (zB168_6.drop 4) [(3, .int a3), (0, .ref 61), (1, .int a1), (2, .int a2)] [] h) := by
  rfl
theorem T168_6_4_677 (xs : Nat → Int32) (L d : Nat) (I : Nat → Nat → Int32) (J : Nat → Nat → Int64) (X : XH) (a3 : Int32) (a1 : Int32) (a2 : Int32) : zseg (zE xs L (d + 5) 168) (zC 168) 677 (zB168_6.drop 4) [(3, .int a3), (0, .ref 61), (1, .int a1), (2, .int a2)] [] (zmk I J X) = some (.inl (8, [(0, .ref 61), (1, .int a1), (2, .int a2), (3, .int a3)], zmk I J X)) := by
  rfl
theorem T168_5_6_678 (xs : Nat → Int32) (L d : Nat) (I : Nat → Nat → Int32) (J : Nat → Nat → Int64) (X : XH) (a3 : Int32) (a1 : Int32) (a2 : Int32) : zseg (zE xs L (d + 5) 168) (zC 168) 678 (zB168_5.drop 6) [(3, .int a3), (0, .ref 61), (1, .int a1), (2, .int a2)] [] (zmk I J X) = zcw (zE xs L (d + 5) 168) (zev xs L (d + 5) 170 [.ref 61, .int a1, .int a2] (zmk I J X)) (fun h => zseg (zE xs L (d + 5) 168) (zC 168) 673 (zB168_6.drop 4) [(3, .int a3), (0, .ref 61), (1, .int a1), (2, .int a2)] [] h) := by
  rfl
theorem T168_4_6_677 (xs : Nat → Int32) (L d : Nat) (I : Nat → Nat → Int32) (J : Nat → Nat → Int64) (X : XH) (a3 : Int32) (a1 : Int32) (a2 : Int32) : zseg (zE xs L (d + 5) 168) (zC 168) 677 (zB168_4.drop 6) [(3, .int a3), (0, .ref 61), (1, .int a1), (2, .int a2)] [] (zmk I J X) = zcw (zE xs L (d + 5) 168) (zev xs L (d + 5) 170 [.ref 61, .int a1, .int a2] (zmk I J X)) (fun h => zseg (zE xs L (d + 5) 168) (zC 168) 672 (zB168_6.drop 4) [(3, .int a3), (0, .ref 61), (1, .int a1), (2, .int a2)] [] h) := by
  rfl
theorem T168_6_4_672 (xs : Nat → Int32) (L d : Nat) (I : Nat → Nat → Int32) (J : Nat → Nat → Int64) (X : XH) (a3 : Int32) (a1 : Int32) (a2 : Int32) : zseg (zE xs L (d + 5) 168) (zC 168) 672 (zB168_6.drop 4) [(3, .int a3), (0, .ref 61), (1, .int a1), (2, .int a2)] [] (zmk I J X) = some (.inl (8, [(0, .ref 61), (1, .int a1), (2, .int a2), (3, .int a3)], zmk I J X)) := by
  rfl
theorem T168_5_6_673 (xs : Nat → Int32) (L d : Nat) (I : Nat → Nat → Int32) (J : Nat → Nat → Int64) (X : XH) (a3 : Int32) (a1 : Int32) (a2 : Int32) : zseg (zE xs L (d + 5) 168) (zC 168) 673 (zB168_5.drop 6) [(3, .int a3), (0, .ref 61), (1, .int a1), (2, .int a2)] [] (zmk I J X) = zcw (zE xs L (d + 5) 168) (zev xs L (d + 5) 170 [.ref 61, .int a1, .int a2] (zmk I J X)) (fun h => zseg (zE xs L (d + 5) 168) (zC 168) 668 (zB168_6.drop 4) [(3, .int a3), (0, .ref 61), (1, .int a1), (2, .int a2)] [] h) := by
  rfl
theorem T168_6_4_673 (xs : Nat → Int32) (L d : Nat) (I : Nat → Nat → Int32) (J : Nat → Nat → Int64) (X : XH) (a3 : Int32) (a1 : Int32) (a2 : Int32) : zseg (zE xs L (d + 5) 168) (zC 168) 673 (zB168_6.drop 4) [(3, .int a3), (0, .ref 61), (1, .int a1), (2, .int a2)] [] (zmk I J X) = some (.inl (8, [(0, .ref 61), (1, .int a1), (2, .int a2), (3, .int a3)], zmk I J X)) := by
  rfl
theorem T168_6_4_668 (xs : Nat → Int32) (L d : Nat) (I : Nat → Nat → Int32) (J : Nat → Nat → Int64) (X : XH) (a3 : Int32) (a1 : Int32) (a2 : Int32) : zseg (zE xs L (d + 5) 168) (zC 168) 668 (zB168_6.drop 4) [(3, .int a3), (0, .ref 61), (1, .int a1), (2, .int a2)] [] (zmk I J X) = some (.inl (8, [(0, .ref 61), (1, .int a1), (2, .int a2), (3, .int a3)], zmk I J X)) := by
  rfl
theorem S168_8 (xs : Nat → Int32) (L d : Nat) (I : Nat → Nat → Int32) (J : Nat → Nat → Int64) (X : XH) (a1 : Int32) (a2 : Int32) (a3 : Int32) : zseg (zE xs L (d + 5) 168) (zC 168) 700 (zC 168 8) [(0, .ref 61), (1, .int a1), (2, .int a2), (3, .int a3)] [] (zmk I J X) = zci (zE xs L (d + 5) 168) (zev xs L (d + 5) 166 [.ref 61, .float (UInt32.ofNat 15)] (zmk I J X)) (fun r h => zseg (zE xs L (d + 5) 168) (zC 168) 697 (zB168_8.drop 3) [(0, .ref 61), (1, .int a1), (2, .int a2), (3, .int a3)] [.int r] h) := by
  rfl
theorem T168_8_3_697 (xs : Nat → Int32) (L d : Nat) (I : Nat → Nat → Int32) (J : Nat → Nat → Int64) (X : XH) (a1 : Int32) (a2 : Int32) (a3 : Int32) (b0 : Int32) : zseg (zE xs L (d + 5) 168) (zC 168) 697 (zB168_8.drop 3) [(0, .ref 61), (1, .int a1), (2, .int a2), (3, .int a3)] [.int b0] (zmk I J X) = if decide (b0 = 0) = true then
  some (.inr (.inr none, zmk I J X))
  else zcw (zE xs L (d + 5) 168) (zev xs L (d + 5) 161 [.ref 61] (zmk I J X)) (fun h => zseg (zE xs L (d + 5) 168) (zC 168) 694 (zB168_8.drop 6) [(0, .ref 61), (1, .int a1), (2, .int a2), (3, .int a3)] [] h) := by
  refine zite_congr ?_ ?_
  · rfl
  · rfl
theorem T168_8_6_694 (xs : Nat → Int32) (L d : Nat) (I : Nat → Nat → Int32) (J : Nat → Nat → Int64) (X : XH) (a1 : Int32) (a2 : Int32) (a3 : Int32) : zseg (zE xs L (d + 5) 168) (zC 168) 694 (zB168_8.drop 6) [(0, .ref 61), (1, .int a1), (2, .int a2), (3, .int a3)] [] (zmk I J X) = zcw (zE xs L (d + 5) 168) (zev xs L (d + 5) 170 [.ref 61, .int a1, .int a2] (zmk I J X)) (fun h => zseg (zE xs L (d + 5) 168) (zC 168) 690 (zB168_8.drop 10) [(0, .ref 61), (1, .int a1), (2, .int a2), (3, .int a3)] [] h) := by
  rfl
theorem T168_8_10_690 (xs : Nat → Int32) (L d : Nat) (I : Nat → Nat → Int32) (J : Nat → Nat → Int64) (X : XH) (a1 : Int32) (a2 : Int32) (a3 : Int32) : zseg (zE xs L (d + 5) 168) (zC 168) 690 (zB168_8.drop 10) [(0, .ref 61), (1, .int a1), (2, .int a2), (3, .int a3)] [] (zmk I J X) = zcw (zE xs L (d + 5) 168) (zev xs L (d + 5) 176 [.ref 61, .int a1, .int (8 : Int32)] (zmk I J X)) (fun h => zseg (zE xs L (d + 5) 168) (zC 168) 686 (zB168_8.drop 14) [(0, .ref 61), (1, .int a1), (2, .int a2), (3, .int a3)] [] h) := by
  rfl
theorem T168_8_14_686 (xs : Nat → Int32) (L d : Nat) (I : Nat → Nat → Int32) (J : Nat → Nat → Int64) (X : XH) (a1 : Int32) (a2 : Int32) (a3 : Int32) : zseg (zE xs L (d + 5) 168) (zC 168) 686 (zB168_8.drop 14) [(0, .ref 61), (1, .int a1), (2, .int a2), (3, .int a3)] [] (zmk I J X) = some (.inl (8, [(0, .ref 61), (1, .int a1), (2, .int a2), (3, .int a3)], zmk I J X)) := by
  rfl
/-! 170 TollTagsModel.readAnd (II)V -/
theorem S170_0 (xs : Nat → Int32) (L d : Nat) (I : Nat → Nat → Int32) (J : Nat → Nat → Int64) (X : XH) (a1 : Int32) (a2 : Int32) : zseg (zE xs L (d + 5) 170) (zC 170) 700 (zC 170 0) [(0, .ref 61), (1, .int a1), (2, .int a2)] [] (zmk I J X) = zcw (zE xs L (d + 5) 170) (zev xs L (d + 5) 171 [.ref 61, .int a1, .int a2] (zmk I J X)) (fun h => zseg (zE xs L (d + 5) 170) (zC 170) 696 (zB170_0.drop 4) [(0, .ref 61), (1, .int a1), (2, .int a2)] [] h) := by
  rfl
theorem T170_0_4_696 (xs : Nat → Int32) (L d : Nat) (I : Nat → Nat → Int32) (J : Nat → Nat → Int64) (X : XH) (a1 : Int32) (a2 : Int32) : zseg (zE xs L (d + 5) 170) (zC 170) 696 (zB170_0.drop 4) [(0, .ref 61), (1, .int a1), (2, .int a2)] [] (zmk I J X) = some (.inl (2, [(0, .ref 61), (1, .int a1), (2, .int a2)], zmk I J X)) := by
  rfl
theorem S170_2 (xs : Nat → Int32) (L d : Nat) (I : Nat → Nat → Int32) (J : Nat → Nat → Int64) (X : XH) (a1 : Int32) (a2 : Int32) : zseg (zE xs L (d + 5) 170) (zC 170) 700 (zC 170 2) [(0, .ref 61), (1, .int a1), (2, .int a2)] [] (zmk I J X) = zci (zE xs L (d + 5) 170) (zev xs L (d + 5) 166 [.ref 61, .float (UInt32.ofNat 14)] (zmk I J X)) (fun r h => zseg (zE xs L (d + 5) 170) (zC 170) 697 (zB170_2.drop 3) [(0, .ref 61), (1, .int a1), (2, .int a2)] [.int r] h) := by
  rfl
theorem T170_2_3_697 (xs : Nat → Int32) (L d : Nat) (I : Nat → Nat → Int32) (J : Nat → Nat → Int64) (X : XH) (a1 : Int32) (a2 : Int32) (b0 : Int32) : zseg (zE xs L (d + 5) 170) (zC 170) 697 (zB170_2.drop 3) [(0, .ref 61), (1, .int a1), (2, .int a2)] [.int b0] (zmk I J X) = if decide (b0 = 0) = true then
  some (.inr (.inr none, zmk I J X))
  else zcw (zE xs L (d + 5) 170) (zev xs L (d + 5) 161 [.ref 61] (zmk I J X)) (fun h => zseg (zE xs L (d + 5) 170) (zC 170) 694 (zB170_2.drop 6) [(0, .ref 61), (1, .int a1), (2, .int a2)] [] h) := by
  refine zite_congr ?_ ?_
  · rfl
  · rfl
theorem T170_2_6_694 (xs : Nat → Int32) (L d : Nat) (I : Nat → Nat → Int32) (J : Nat → Nat → Int64) (X : XH) (a1 : Int32) (a2 : Int32) : zseg (zE xs L (d + 5) 170) (zC 170) 694 (zB170_2.drop 6) [(0, .ref 61), (1, .int a1), (2, .int a2)] [] (zmk I J X) = zcw (zE xs L (d + 5) 170) (zev xs L (d + 5) 171 [.ref 61, .int a1, .int a2] (zmk I J X)) (fun h => zseg (zE xs L (d + 5) 170) (zC 170) 690 (zB170_2.drop 10) [(0, .ref 61), (1, .int a1), (2, .int a2)] [] h) := by
  rfl
theorem T170_2_10_690 (xs : Nat → Int32) (L d : Nat) (I : Nat → Nat → Int32) (J : Nat → Nat → Int64) (X : XH) (a1 : Int32) (a2 : Int32) : zseg (zE xs L (d + 5) 170) (zC 170) 690 (zB170_2.drop 10) [(0, .ref 61), (1, .int a1), (2, .int a2)] [] (zmk I J X) = zcw (zE xs L (d + 5) 170) (zev xs L (d + 5) 176 [.ref 61, .int a1, .int (7 : Int32)] (zmk I J X)) (fun h => zseg (zE xs L (d + 5) 170) (zC 170) 686 (zB170_2.drop 14) [(0, .ref 61), (1, .int a1), (2, .int a2)] [] h) := by
  rfl
theorem T170_2_14_686 (xs : Nat → Int32) (L d : Nat) (I : Nat → Nat → Int32) (J : Nat → Nat → Int64) (X : XH) (a1 : Int32) (a2 : Int32) : zseg (zE xs L (d + 5) 170) (zC 170) 686 (zB170_2.drop 14) [(0, .ref 61), (1, .int a1), (2, .int a2)] [] (zmk I J X) = some (.inl (2, [(0, .ref 61), (1, .int a1), (2, .int a2)], zmk I J X)) := by
  rfl
/-! 171 TollTagsModel.readNot (II)V -/
theorem S171_0 (xs : Nat → Int32) (L d : Nat) (I : Nat → Nat → Int32) (J : Nat → Nat → Int64) (X : XH) (a1 : Int32) (a2 : Int32) : zseg (zE xs L (d + 5) 171) (zC 171) 700 (zC 171 0) [(0, .ref 61), (1, .int a1), (2, .int a2)] [] (zmk I J X) = some (.inl (2, [(0, .ref 61), (1, .int a1), (2, .int a2), (3, .int (0 : Int32))], zmk I J X)) := by
  rfl
theorem S171_2 (xs : Nat → Int32) (L d : Nat) (I : Nat → Nat → Int32) (J : Nat → Nat → Int64) (X : XH) (a1 : Int32) (a2 : Int32) (a3 : Int32) : zseg (zE xs L (d + 5) 171) (zC 171) 700 (zC 171 2) [(0, .ref 61), (1, .int a1), (2, .int a2), (3, .int a3)] [] (zmk I J X) = zci (zE xs L (d + 5) 171) (zev xs L (d + 5) 166 [.ref 61, .float (UInt32.ofNat 13)] (zmk I J X)) (fun r h => zseg (zE xs L (d + 5) 171) (zC 171) 697 (zB171_2.drop 3) [(0, .ref 61), (1, .int a1), (2, .int a2), (3, .int a3)] [.int r] h) := by
  rfl
theorem T171_2_3_697 (xs : Nat → Int32) (L d : Nat) (I : Nat → Nat → Int32) (J : Nat → Nat → Int64) (X : XH) (a1 : Int32) (a2 : Int32) (a3 : Int32) (b0 : Int32) : zseg (zE xs L (d + 5) 171) (zC 171) 697 (zB171_2.drop 3) [(0, .ref 61), (1, .int a1), (2, .int a2), (3, .int a3)] [.int b0] (zmk I J X) = if decide (b0 = 0) = true then
  zcw (zE xs L (d + 5) 171) (zev xs L (d + 5) 172 [.ref 61, .int a1, .int a2] (zmk I J X)) (fun h => zseg (zE xs L (d + 5) 171) (zC 171) 692 (zB171_3.drop 4) [(0, .ref 61), (1, .int a1), (2, .int a2), (3, .int a3)] [] h)
  else if decide (¬ a3 = (6 : Int32)) = true then
    zcw (zE xs L (d + 5) 171) (zev xs L (d + 5) 161 [.ref 61] (zmk I J X)) (fun h => zseg (zE xs L (d + 5) 171) (zC 171) 690 (zB171_4.drop 3) [(3, .int (a3 + (1 : Int32))), (0, .ref 61), (1, .int a1), (2, .int a2)] [] h)
    else zcw (zE xs L (d + 5) 171) (zev xs L (d + 5) 167 [.ref 61, .int (2 : Int32)] (zmk I J X)) (fun h => zseg (zE xs L (d + 5) 171) (zC 171) 690 (zB171_2.drop 10) [(0, .ref 61), (1, .int a1), (2, .int a2), (3, .int a3)] [] h) := by
  refine zite_congr ?_ ?_
  · rfl
  · refine zite_congr ?_ ?_
    · rfl
    · rfl
theorem T171_3_4_692 (xs : Nat → Int32) (L d : Nat) (I : Nat → Nat → Int32) (J : Nat → Nat → Int64) (X : XH) (a1 : Int32) (a2 : Int32) (a3 : Int32) : zseg (zE xs L (d + 5) 171) (zC 171) 692 (zB171_3.drop 4) [(0, .ref 61), (1, .int a1), (2, .int a2), (3, .int a3)] [] (zmk I J X) = if decide (¬ (zbi (I 61 65 = 0 ∧ I 61 60 = 3 ∧ I 61 61 = (60 : Int32))) = 0) = true then
  if decide ((zbi (I 61 65 = 0 ∧ I 61 60 = 3 ∧ I 61 61 = (60 : Int32))) = 0) = true then
    zcw (zE xs L (d + 5) 171) (zev xs L (d + 5) 161 [.ref 61] (zmk I J X)) (fun h => zseg (zE xs L (d + 5) 171) (zC 171) 679 (zB171_8.drop 3) [(4, .int (6 : Int32)), (0, .ref 61), (1, .int a1), (2, .int a2), (3, .int a3)] [] h)
    else zcw (zE xs L (d + 5) 171) (zev xs L (d + 5) 161 [.ref 61] (zmk I J X)) (fun h => zseg (zE xs L (d + 5) 171) (zC 171) 679 (zB171_8.drop 3) [(4, .int (5 : Int32)), (0, .ref 61), (1, .int a1), (2, .int a2), (3, .int a3)] [] h)
  else if decide ((zbi (I 61 65 = 0 ∧ I 61 60 = 3 ∧ I 61 61 = (61 : Int32))) = 0) = true then
    some (.inl (10, [(0, .ref 61), (1, .int a1), (2, .int a2), (3, .int a3), (4, .int (0 : Int32))], zmk I J X))
    else if decide ((zbi (I 61 65 = 0 ∧ I 61 60 = 3 ∧ I 61 61 = (60 : Int32))) = 0) = true then
      zcw (zE xs L (d + 5) 171) (zev xs L (d + 5) 161 [.ref 61] (zmk I J X)) (fun h => zseg (zE xs L (d + 5) 171) (zC 171) 674 (zB171_8.drop 3) [(4, .int (6 : Int32)), (0, .ref 61), (1, .int a1), (2, .int a2), (3, .int a3)] [] h)
      else zcw (zE xs L (d + 5) 171) (zev xs L (d + 5) 161 [.ref 61] (zmk I J X)) (fun h => zseg (zE xs L (d + 5) 171) (zC 171) 674 (zB171_8.drop 3) [(4, .int (5 : Int32)), (0, .ref 61), (1, .int a1), (2, .int a2), (3, .int a3)] [] h) := by
  refine zite_congr ?_ ?_
  · refine zite_congr ?_ ?_
    · rfl
    · rfl
  · refine zite_congr ?_ ?_
    · rfl
    · refine zite_congr ?_ ?_
      · rfl
      · rfl
theorem T171_4_3_690 (xs : Nat → Int32) (L d : Nat) (I : Nat → Nat → Int32) (J : Nat → Nat → Int64) (X : XH) (a3 : Int32) (a1 : Int32) (a2 : Int32) : zseg (zE xs L (d + 5) 171) (zC 171) 690 (zB171_4.drop 3) [(3, .int a3), (0, .ref 61), (1, .int a1), (2, .int a2)] [] (zmk I J X) = some (.inl (2, [(0, .ref 61), (1, .int a1), (2, .int a2), (3, .int a3)], zmk I J X)) := by
  rfl
theorem T171_2_10_690 (xs : Nat → Int32) (L d : Nat) (I : Nat → Nat → Int32) (J : Nat → Nat → Int64) (X : XH) (a1 : Int32) (a2 : Int32) (a3 : Int32) : zseg (zE xs L (d + 5) 171) (zC 171) 690 (zB171_2.drop 10) [(0, .ref 61), (1, .int a1), (2, .int a2), (3, .int a3)] [] (zmk I J X) = some (.inr (.inr none, zmk I J X)) := by
  rfl
theorem T171_8_3_679 (xs : Nat → Int32) (L d : Nat) (I : Nat → Nat → Int32) (J : Nat → Nat → Int64) (X : XH) (a4 : Int32) (a1 : Int32) (a2 : Int32) (a3 : Int32) : zseg (zE xs L (d + 5) 171) (zC 171) 679 (zB171_8.drop 3) [(4, .int a4), (0, .ref 61), (1, .int a1), (2, .int a2), (3, .int a3)] [] (zmk I J X) = zcw (zE xs L (d + 5) 171) (zev xs L (d + 5) 172 [.ref 61, .int a1, .int a2] (zmk I J X)) (fun h => zseg (zE xs L (d + 5) 171) (zC 171) 675 (zB171_8.drop 7) [(4, .int a4), (0, .ref 61), (1, .int a1), (2, .int a2), (3, .int a3)] [] h) := by
  rfl
theorem T171_8_3_674 (xs : Nat → Int32) (L d : Nat) (I : Nat → Nat → Int32) (J : Nat → Nat → Int64) (X : XH) (a4 : Int32) (a1 : Int32) (a2 : Int32) (a3 : Int32) : zseg (zE xs L (d + 5) 171) (zC 171) 674 (zB171_8.drop 3) [(4, .int a4), (0, .ref 61), (1, .int a1), (2, .int a2), (3, .int a3)] [] (zmk I J X) = zcw (zE xs L (d + 5) 171) (zev xs L (d + 5) 172 [.ref 61, .int a1, .int a2] (zmk I J X)) (fun h => zseg (zE xs L (d + 5) 171) (zC 171) 670 (zB171_8.drop 7) [(4, .int a4), (0, .ref 61), (1, .int a1), (2, .int a2), (3, .int a3)] [] h) := by
  rfl
theorem T171_8_7_675 (xs : Nat → Int32) (L d : Nat) (I : Nat → Nat → Int32) (J : Nat → Nat → Int64) (X : XH) (a4 : Int32) (a1 : Int32) (a2 : Int32) (a3 : Int32) : zseg (zE xs L (d + 5) 171) (zC 171) 675 (zB171_8.drop 7) [(4, .int a4), (0, .ref 61), (1, .int a1), (2, .int a2), (3, .int a3)] [] (zmk I J X) = zcw (zE xs L (d + 5) 171) (zev xs L (d + 5) 176 [.ref 61, .int a1, .int a4] (zmk I J X)) (fun h => zseg (zE xs L (d + 5) 171) (zC 171) 671 (zB171_8.drop 11) [(4, .int a4), (0, .ref 61), (1, .int a1), (2, .int a2), (3, .int a3)] [] h) := by
  rfl
theorem T171_8_7_670 (xs : Nat → Int32) (L d : Nat) (I : Nat → Nat → Int32) (J : Nat → Nat → Int64) (X : XH) (a4 : Int32) (a1 : Int32) (a2 : Int32) (a3 : Int32) : zseg (zE xs L (d + 5) 171) (zC 171) 670 (zB171_8.drop 7) [(4, .int a4), (0, .ref 61), (1, .int a1), (2, .int a2), (3, .int a3)] [] (zmk I J X) = zcw (zE xs L (d + 5) 171) (zev xs L (d + 5) 176 [.ref 61, .int a1, .int a4] (zmk I J X)) (fun h => zseg (zE xs L (d + 5) 171) (zC 171) 666 (zB171_8.drop 11) [(4, .int a4), (0, .ref 61), (1, .int a1), (2, .int a2), (3, .int a3)] [] h) := by
  rfl
theorem T171_8_11_671 (xs : Nat → Int32) (L d : Nat) (I : Nat → Nat → Int32) (J : Nat → Nat → Int64) (X : XH) (a4 : Int32) (a1 : Int32) (a2 : Int32) (a3 : Int32) : zseg (zE xs L (d + 5) 171) (zC 171) 671 (zB171_8.drop 11) [(4, .int a4), (0, .ref 61), (1, .int a1), (2, .int a2), (3, .int a3)] [] (zmk I J X) = some (.inl (10, [(0, .ref 61), (1, .int a1), (2, .int a2), (3, .int a3), (4, .int (0 : Int32))], zmk I J X)) := by
  rfl
theorem T171_8_11_666 (xs : Nat → Int32) (L d : Nat) (I : Nat → Nat → Int32) (J : Nat → Nat → Int64) (X : XH) (a4 : Int32) (a1 : Int32) (a2 : Int32) (a3 : Int32) : zseg (zE xs L (d + 5) 171) (zC 171) 666 (zB171_8.drop 11) [(4, .int a4), (0, .ref 61), (1, .int a1), (2, .int a2), (3, .int a3)] [] (zmk I J X) = some (.inl (10, [(0, .ref 61), (1, .int a1), (2, .int a2), (3, .int a3), (4, .int (0 : Int32))], zmk I J X)) := by
  rfl
theorem S171_10 (xs : Nat → Int32) (L d : Nat) (I : Nat → Nat → Int32) (J : Nat → Nat → Int64) (X : XH) (a1 : Int32) (a2 : Int32) (a3 : Int32) (a4 : Int32) : zseg (zE xs L (d + 5) 171) (zC 171) 700 (zC 171 10) [(0, .ref 61), (1, .int a1), (2, .int a2), (3, .int a3), (4, .int a4)] [] (zmk I J X) = if decide (a3 ≤ a4) = true then
  some (.inr (.inr none, zmk I J X))
  else zcw (zE xs L (d + 5) 171) (zev xs L (d + 5) 176 [.ref 61, .int a1, .int (9 : Int32)] (zmk I J X)) (fun h => zseg (zE xs L (d + 5) 171) (zC 171) 693 (zB171_10.drop 7) [(0, .ref 61), (1, .int a1), (2, .int a2), (3, .int a3), (4, .int a4)] [] h) := by
  refine zite_congr ?_ ?_
  · rfl
  · rfl
theorem T171_10_7_693 (xs : Nat → Int32) (L d : Nat) (I : Nat → Nat → Int32) (J : Nat → Nat → Int64) (X : XH) (a1 : Int32) (a2 : Int32) (a3 : Int32) (a4 : Int32) : zseg (zE xs L (d + 5) 171) (zC 171) 693 (zB171_10.drop 7) [(0, .ref 61), (1, .int a1), (2, .int a2), (3, .int a3), (4, .int a4)] [] (zmk I J X) = some (.inl (10, [(0, .ref 61), (1, .int a1), (2, .int a2), (3, .int a3), (4, .int (a4 + (1 : Int32)))], zmk I J X)) := by
  rfl
/-! 172 TollTagsModel.readSum (II)V -/
theorem S172_0 (xs : Nat → Int32) (L d : Nat) (I : Nat → Nat → Int32) (J : Nat → Nat → Int64) (X : XH) (a1 : Int32) (a2 : Int32) : zseg (zE xs L (d + 5) 172) (zC 172) 700 (zC 172 0) [(0, .ref 61), (1, .int a1), (2, .int a2)] [] (zmk I J X) = zcw (zE xs L (d + 5) 172) (zev xs L (d + 5) 173 [.ref 61, .int a1, .int a2] (zmk I J X)) (fun h => zseg (zE xs L (d + 5) 172) (zC 172) 696 (zB172_0.drop 4) [(0, .ref 61), (1, .int a1), (2, .int a2)] [] h) := by
  rfl
theorem T172_0_4_696 (xs : Nat → Int32) (L d : Nat) (I : Nat → Nat → Int32) (J : Nat → Nat → Int64) (X : XH) (a1 : Int32) (a2 : Int32) : zseg (zE xs L (d + 5) 172) (zC 172) 696 (zB172_0.drop 4) [(0, .ref 61), (1, .int a1), (2, .int a2)] [] (zmk I J X) = some (.inl (2, [(0, .ref 61), (1, .int a1), (2, .int a2)], zmk I J X)) := by
  rfl
theorem S172_2 (xs : Nat → Int32) (L d : Nat) (I : Nat → Nat → Int32) (J : Nat → Nat → Int64) (X : XH) (a1 : Int32) (a2 : Int32) : zseg (zE xs L (d + 5) 172) (zC 172) 700 (zC 172 2) [(0, .ref 61), (1, .int a1), (2, .int a2)] [] (zmk I J X) = if decide (¬ (zbi (I 61 65 = 0 ∧ I 61 60 = 3 ∧ I 61 61 = (43 : Int32))) = 0) = true then
  if decide ((zbi (I 61 65 = 0 ∧ I 61 60 = 3 ∧ I 61 61 = (43 : Int32))) = 0) = true then
    zcw (zE xs L (d + 5) 172) (zev xs L (d + 5) 161 [.ref 61] (zmk I J X)) (fun h => zseg (zE xs L (d + 5) 172) (zC 172) 687 (zB172_6.drop 3) [(3, .int (2 : Int32)), (0, .ref 61), (1, .int a1), (2, .int a2)] [] h)
    else zcw (zE xs L (d + 5) 172) (zev xs L (d + 5) 161 [.ref 61] (zmk I J X)) (fun h => zseg (zE xs L (d + 5) 172) (zC 172) 687 (zB172_6.drop 3) [(3, .int (1 : Int32)), (0, .ref 61), (1, .int a1), (2, .int a2)] [] h)
  else if decide ((zbi (I 61 65 = 0 ∧ I 61 60 = 3 ∧ I 61 61 = (45 : Int32))) = 0) = true then
    some (.inr (.inr none, zmk I J X))
    else if decide ((zbi (I 61 65 = 0 ∧ I 61 60 = 3 ∧ I 61 61 = (43 : Int32))) = 0) = true then
      zcw (zE xs L (d + 5) 172) (zev xs L (d + 5) 161 [.ref 61] (zmk I J X)) (fun h => zseg (zE xs L (d + 5) 172) (zC 172) 682 (zB172_6.drop 3) [(3, .int (2 : Int32)), (0, .ref 61), (1, .int a1), (2, .int a2)] [] h)
      else zcw (zE xs L (d + 5) 172) (zev xs L (d + 5) 161 [.ref 61] (zmk I J X)) (fun h => zseg (zE xs L (d + 5) 172) (zC 172) 682 (zB172_6.drop 3) [(3, .int (1 : Int32)), (0, .ref 61), (1, .int a1), (2, .int a2)] [] h) := by
  refine zite_congr ?_ ?_
  · refine zite_congr ?_ ?_
    · rfl
    · rfl
  · refine zite_congr ?_ ?_
    · rfl
    · refine zite_congr ?_ ?_
      · rfl
      · rfl
theorem T172_6_3_687 (xs : Nat → Int32) (L d : Nat) (I : Nat → Nat → Int32) (J : Nat → Nat → Int64) (X : XH) (a3 : Int32) (a1 : Int32) (a2 : Int32) : zseg (zE xs L (d + 5) 172) (zC 172) 687 (zB172_6.drop 3) [(3, .int a3), (0, .ref 61), (1, .int a1), (2, .int a2)] [] (zmk I J X) = zcw (zE xs L (d + 5) 172) (zev xs L (d + 5) 173 [.ref 61, .int a1, .int a2] (zmk I J X)) (fun h => zseg (zE xs L (d + 5) 172) (zC 172) 683 (zB172_6.drop 7) [(3, .int a3), (0, .ref 61), (1, .int a1), (2, .int a2)] [] h) := by
  rfl
theorem T172_6_3_682 (xs : Nat → Int32) (L d : Nat) (I : Nat → Nat → Int32) (J : Nat → Nat → Int64) (X : XH) (a3 : Int32) (a1 : Int32) (a2 : Int32) : zseg (zE xs L (d + 5) 172) (zC 172) 682 (zB172_6.drop 3) [(3, .int a3), (0, .ref 61), (1, .int a1), (2, .int a2)] [] (zmk I J X) = zcw (zE xs L (d + 5) 172) (zev xs L (d + 5) 173 [.ref 61, .int a1, .int a2] (zmk I J X)) (fun h => zseg (zE xs L (d + 5) 172) (zC 172) 678 (zB172_6.drop 7) [(3, .int a3), (0, .ref 61), (1, .int a1), (2, .int a2)] [] h) := by
  rfl
theorem T172_6_7_683 (xs : Nat → Int32) (L d : Nat) (I : Nat → Nat → Int32) (J : Nat → Nat → Int64) (X : XH) (a3 : Int32) (a1 : Int32) (a2 : Int32) : zseg (zE xs L (d + 5) 172) (zC 172) 683 (zB172_6.drop 7) [(3, .int a3), (0, .ref 61), (1, .int a1), (2, .int a2)] [] (zmk I J X) = zcw (zE xs L (d + 5) 172) (zev xs L (d + 5) 176 [.ref 61, .int a1, .int a3] (zmk I J X)) (fun h => zseg (zE xs L (d + 5) 172) (zC 172) 679 (zB172_6.drop 11) [(3, .int a3), (0, .ref 61), (1, .int a1), (2, .int a2)] [] h) := by
  rfl
theorem T172_6_7_678 (xs : Nat → Int32) (L d : Nat) (I : Nat → Nat → Int32) (J : Nat → Nat → Int64) (X : XH) (a3 : Int32) (a1 : Int32) (a2 : Int32) : zseg (zE xs L (d + 5) 172) (zC 172) 678 (zB172_6.drop 7) [(3, .int a3), (0, .ref 61), (1, .int a1), (2, .int a2)] [] (zmk I J X) = zcw (zE xs L (d + 5) 172) (zev xs L (d + 5) 176 [.ref 61, .int a1, .int a3] (zmk I J X)) (fun h => zseg (zE xs L (d + 5) 172) (zC 172) 674 (zB172_6.drop 11) [(3, .int a3), (0, .ref 61), (1, .int a1), (2, .int a2)] [] h) := by
  rfl
theorem T172_6_11_679 (xs : Nat → Int32) (L d : Nat) (I : Nat → Nat → Int32) (J : Nat → Nat → Int64) (X : XH) (a3 : Int32) (a1 : Int32) (a2 : Int32) : zseg (zE xs L (d + 5) 172) (zC 172) 679 (zB172_6.drop 11) [(3, .int a3), (0, .ref 61), (1, .int a1), (2, .int a2)] [] (zmk I J X) = some (.inl (2, [(0, .ref 61), (1, .int a1), (2, .int a2)], zmk I J X)) := by
  rfl
theorem T172_6_11_674 (xs : Nat → Int32) (L d : Nat) (I : Nat → Nat → Int32) (J : Nat → Nat → Int64) (X : XH) (a3 : Int32) (a1 : Int32) (a2 : Int32) : zseg (zE xs L (d + 5) 172) (zC 172) 674 (zB172_6.drop 11) [(3, .int a3), (0, .ref 61), (1, .int a1), (2, .int a2)] [] (zmk I J X) = some (.inl (2, [(0, .ref 61), (1, .int a1), (2, .int a2)], zmk I J X)) := by
  rfl
/-! 173 TollTagsModel.readProduct (II)V -/
theorem S173_0 (xs : Nat → Int32) (L d : Nat) (I : Nat → Nat → Int32) (J : Nat → Nat → Int64) (X : XH) (a1 : Int32) (a2 : Int32) : zseg (zE xs L (d + 5) 173) (zC 173) 700 (zC 173 0) [(0, .ref 61), (1, .int a1), (2, .int a2)] [] (zmk I J X) = zcw (zE xs L (d + 5) 173) (zev xs L (d + 5) 174 [.ref 61, .int a1, .int a2] (zmk I J X)) (fun h => zseg (zE xs L (d + 5) 173) (zC 173) 696 (zB173_0.drop 4) [(0, .ref 61), (1, .int a1), (2, .int a2)] [] h) := by
  rfl
theorem T173_0_4_696 (xs : Nat → Int32) (L d : Nat) (I : Nat → Nat → Int32) (J : Nat → Nat → Int64) (X : XH) (a1 : Int32) (a2 : Int32) : zseg (zE xs L (d + 5) 173) (zC 173) 696 (zB173_0.drop 4) [(0, .ref 61), (1, .int a1), (2, .int a2)] [] (zmk I J X) = some (.inl (2, [(0, .ref 61), (1, .int a1), (2, .int a2)], zmk I J X)) := by
  rfl
theorem S173_2 (xs : Nat → Int32) (L d : Nat) (I : Nat → Nat → Int32) (J : Nat → Nat → Int64) (X : XH) (a1 : Int32) (a2 : Int32) : zseg (zE xs L (d + 5) 173) (zC 173) 700 (zC 173 2) [(0, .ref 61), (1, .int a1), (2, .int a2)] [] (zmk I J X) = if decide (¬ (zbi (I 61 65 = 0 ∧ I 61 60 = 3 ∧ I 61 61 = (42 : Int32))) = 0) = true then
  if decide ((zbi (I 61 65 = 0 ∧ I 61 60 = 3 ∧ I 61 61 = (42 : Int32))) = 0) = true then
    zcw (zE xs L (d + 5) 173) (zev xs L (d + 5) 161 [.ref 61] (zmk I J X)) (fun h => zseg (zE xs L (d + 5) 173) (zC 173) 687 (zB173_6.drop 3) [(3, .int (4 : Int32)), (0, .ref 61), (1, .int a1), (2, .int a2)] [] h)
    else zcw (zE xs L (d + 5) 173) (zev xs L (d + 5) 161 [.ref 61] (zmk I J X)) (fun h => zseg (zE xs L (d + 5) 173) (zC 173) 687 (zB173_6.drop 3) [(3, .int (3 : Int32)), (0, .ref 61), (1, .int a1), (2, .int a2)] [] h)
  else if decide ((zbi (I 61 65 = 0 ∧ I 61 60 = 3 ∧ I 61 61 = (47 : Int32))) = 0) = true then
    some (.inr (.inr none, zmk I J X))
    else if decide ((zbi (I 61 65 = 0 ∧ I 61 60 = 3 ∧ I 61 61 = (42 : Int32))) = 0) = true then
      zcw (zE xs L (d + 5) 173) (zev xs L (d + 5) 161 [.ref 61] (zmk I J X)) (fun h => zseg (zE xs L (d + 5) 173) (zC 173) 682 (zB173_6.drop 3) [(3, .int (4 : Int32)), (0, .ref 61), (1, .int a1), (2, .int a2)] [] h)
      else zcw (zE xs L (d + 5) 173) (zev xs L (d + 5) 161 [.ref 61] (zmk I J X)) (fun h => zseg (zE xs L (d + 5) 173) (zC 173) 682 (zB173_6.drop 3) [(3, .int (3 : Int32)), (0, .ref 61), (1, .int a1), (2, .int a2)] [] h) := by
  refine zite_congr ?_ ?_
  · refine zite_congr ?_ ?_
    · rfl
    · rfl
  · refine zite_congr ?_ ?_
    · rfl
    · refine zite_congr ?_ ?_
      · rfl
      · rfl
theorem T173_6_3_687 (xs : Nat → Int32) (L d : Nat) (I : Nat → Nat → Int32) (J : Nat → Nat → Int64) (X : XH) (a3 : Int32) (a1 : Int32) (a2 : Int32) : zseg (zE xs L (d + 5) 173) (zC 173) 687 (zB173_6.drop 3) [(3, .int a3), (0, .ref 61), (1, .int a1), (2, .int a2)] [] (zmk I J X) = zcw (zE xs L (d + 5) 173) (zev xs L (d + 5) 174 [.ref 61, .int a1, .int a2] (zmk I J X)) (fun h => zseg (zE xs L (d + 5) 173) (zC 173) 683 (zB173_6.drop 7) [(3, .int a3), (0, .ref 61), (1, .int a1), (2, .int a2)] [] h) := by
  rfl
theorem T173_6_3_682 (xs : Nat → Int32) (L d : Nat) (I : Nat → Nat → Int32) (J : Nat → Nat → Int64) (X : XH) (a3 : Int32) (a1 : Int32) (a2 : Int32) : zseg (zE xs L (d + 5) 173) (zC 173) 682 (zB173_6.drop 3) [(3, .int a3), (0, .ref 61), (1, .int a1), (2, .int a2)] [] (zmk I J X) = zcw (zE xs L (d + 5) 173) (zev xs L (d + 5) 174 [.ref 61, .int a1, .int a2] (zmk I J X)) (fun h => zseg (zE xs L (d + 5) 173) (zC 173) 678 (zB173_6.drop 7) [(3, .int a3), (0, .ref 61), (1, .int a1), (2, .int a2)] [] h) := by
  rfl
theorem T173_6_7_683 (xs : Nat → Int32) (L d : Nat) (I : Nat → Nat → Int32) (J : Nat → Nat → Int64) (X : XH) (a3 : Int32) (a1 : Int32) (a2 : Int32) : zseg (zE xs L (d + 5) 173) (zC 173) 683 (zB173_6.drop 7) [(3, .int a3), (0, .ref 61), (1, .int a1), (2, .int a2)] [] (zmk I J X) = zcw (zE xs L (d + 5) 173) (zev xs L (d + 5) 176 [.ref 61, .int a1, .int a3] (zmk I J X)) (fun h => zseg (zE xs L (d + 5) 173) (zC 173) 679 (zB173_6.drop 11) [(3, .int a3), (0, .ref 61), (1, .int a1), (2, .int a2)] [] h) := by
  rfl
theorem T173_6_7_678 (xs : Nat → Int32) (L d : Nat) (I : Nat → Nat → Int32) (J : Nat → Nat → Int64) (X : XH) (a3 : Int32) (a1 : Int32) (a2 : Int32) : zseg (zE xs L (d + 5) 173) (zC 173) 678 (zB173_6.drop 7) [(3, .int a3), (0, .ref 61), (1, .int a1), (2, .int a2)] [] (zmk I J X) = zcw (zE xs L (d + 5) 173) (zev xs L (d + 5) 176 [.ref 61, .int a1, .int a3] (zmk I J X)) (fun h => zseg (zE xs L (d + 5) 173) (zC 173) 674 (zB173_6.drop 11) [(3, .int a3), (0, .ref 61), (1, .int a1), (2, .int a2)] [] h) := by
  rfl
theorem T173_6_11_679 (xs : Nat → Int32) (L d : Nat) (I : Nat → Nat → Int32) (J : Nat → Nat → Int64) (X : XH) (a3 : Int32) (a1 : Int32) (a2 : Int32) : zseg (zE xs L (d + 5) 173) (zC 173) 679 (zB173_6.drop 11) [(3, .int a3), (0, .ref 61), (1, .int a1), (2, .int a2)] [] (zmk I J X) = some (.inl (2, [(0, .ref 61), (1, .int a1), (2, .int a2)], zmk I J X)) := by
  rfl
theorem T173_6_11_674 (xs : Nat → Int32) (L d : Nat) (I : Nat → Nat → Int32) (J : Nat → Nat → Int64) (X : XH) (a3 : Int32) (a1 : Int32) (a2 : Int32) : zseg (zE xs L (d + 5) 173) (zC 173) 674 (zB173_6.drop 11) [(3, .int a3), (0, .ref 61), (1, .int a1), (2, .int a2)] [] (zmk I J X) = some (.inl (2, [(0, .ref 61), (1, .int a1), (2, .int a2)], zmk I J X)) := by
  rfl
/-! 174 TollTagsModel.readPart (II)V -/
theorem S174_0 (xs : Nat → Int32) (L d : Nat) (I : Nat → Nat → Int32) (J : Nat → Nat → Int64) (X : XH) (a1 : Int32) (a2 : Int32) : zseg (zE xs L (d + 5) 174) (zC 174) 700 (zC 174 0) [(0, .ref 61), (1, .int a1), (2, .int a2)] [] (zmk I J X) = if decide ((I 61 65) = 0) = true then
  if decide (¬ (I 61 60) = (2 : Int32)) = true then
    if decide (¬ (I 61 60) = (1 : Int32)) = true then
      if decide ((zbi (I 61 65 = 0 ∧ I 61 60 = 3 ∧ I 61 61 = (40 : Int32))) = 0) = true then
        zcw (zE xs L (d + 5) 174) (zev xs L (d + 5) 167 [.ref 61, .int (1 : Int32)] (zmk I J X)) (fun h => zseg (zE xs L (d + 5) 174) (zC 174) 682 (zB174_6.drop 3) [(0, .ref 61), (1, .int a1), (2, .int a2)] [] h)
        else zcw (zE xs L (d + 5) 174) (zev xs L (d + 5) 161 [.ref 61] (zmk I J X)) (fun h => zseg (zE xs L (d + 5) 174) (zC 174) 683 (zB174_4.drop 6) [(0, .ref 61), (1, .int a1), (2, .int a2)] [] h)
      else zci (zE xs L (d + 5) 174) (zev xs L (d + 5) 177 [.ref 61] (zmk I J X)) (fun r h => zseg (zE xs L (d + 5) 174) (zC 174) 687 (zB174_2.drop 6) [(0, .ref 61), (1, .int a1), (2, .int a2)] [.int r] h)
    else zci (zE xs L (d + 5) 174) (zev xs L (d + 5) 175 [.ref 61] (zmk I J X)) (fun r h => zseg (zE xs L (d + 5) 174) (zC 174) 691 (zB174_1.drop 6) [(0, .ref 61), (1, .int a1), (2, .int a2)] [.int r] h)
  else some (.inr (.inr none, zmk I J X)) := by
  refine zite_congr ?_ ?_
  · refine zite_congr ?_ ?_
    · refine zite_congr ?_ ?_
      · refine zite_congr ?_ ?_
        · rfl
        · rfl
      · rfl
    · rfl
  · rfl
theorem T174_6_3_682 (xs : Nat → Int32) (L d : Nat) (I : Nat → Nat → Int32) (J : Nat → Nat → Int64) (X : XH) (a1 : Int32) (a2 : Int32) : zseg (zE xs L (d + 5) 174) (zC 174) 682 (zB174_6.drop 3) [(0, .ref 61), (1, .int a1), (2, .int a2)] [] (zmk I J X) = some (.inr (.inr none, zmk I J X)) := by
  rfl
theorem T174_4_6_683 (xs : Nat → Int32) (L d : Nat) (I : Nat → Nat → Int32) (J : Nat → Nat → Int64) (X : XH) (a1 : Int32) (a2 : Int32) : zseg (zE xs L (d + 5) 174) (zC 174) 683 (zB174_4.drop 6) [(0, .ref 61), (1, .int a1), (2, .int a2)] [] (zmk I J X) = zcw (zE xs L (d + 5) 174) (zev xs L (d + 5) 168 [.ref 61, .int a1, .int (a2 + (1 : Int32))] (zmk I J X)) (fun h => zseg (zE xs L (d + 5) 174) (zC 174) 677 (zB174_4.drop 12) [(0, .ref 61), (1, .int a1), (2, .int a2)] [] h) := by
  rfl
theorem T174_2_6_687 (xs : Nat → Int32) (L d : Nat) (I : Nat → Nat → Int32) (J : Nat → Nat → Int64) (X : XH) (a1 : Int32) (a2 : Int32) (b0 : Int32) : zseg (zE xs L (d + 5) 174) (zC 174) 687 (zB174_2.drop 6) [(0, .ref 61), (1, .int a1), (2, .int a2)] [.int b0] (zmk I J X) = if decide (¬ b0 = (-1 : Int32)) = true then
  zcw (zE xs L (d + 5) 174) (zev xs L (d + 5) 176 [.ref 61, .int a1, .int ((20 : Int32) + b0)] (zmk I J X)) (fun h => zseg (zE xs L (d + 5) 174) (zC 174) 677 (zB174_5.drop 6) [(3, .int b0), (0, .ref 61), (1, .int a1), (2, .int a2)] [] h)
  else zcw (zE xs L (d + 5) 174) (zev xs L (d + 5) 167 [.ref 61, .int (3 : Int32)] (zmk I J X)) (fun h => zseg (zE xs L (d + 5) 174) (zC 174) 680 (zB174_2.drop 13) [(3, .int b0), (0, .ref 61), (1, .int a1), (2, .int a2)] [] h) := by
  refine zite_congr ?_ ?_
  · rfl
  · rfl
theorem T174_1_6_691 (xs : Nat → Int32) (L d : Nat) (I : Nat → Nat → Int32) (J : Nat → Nat → Int64) (X : XH) (a1 : Int32) (a2 : Int32) (b0 : Int32) : zseg (zE xs L (d + 5) 174) (zC 174) 691 (zB174_1.drop 6) [(0, .ref 61), (1, .int a1), (2, .int a2)] [.int b0] (zmk I J X) = zcw (zE xs L (d + 5) 174) (zev xs L (d + 5) 176 [.ref 61, .int a1, .int (0 : Int32)] (zmk I J X)) (fun h => zseg (zE xs L (d + 5) 174) (zC 174) 686 (zB174_1.drop 11) [(3, .int b0), (0, .ref 61), (1, .int a1), (2, .int a2)] [] h) := by
  rfl
theorem T174_4_12_677 (xs : Nat → Int32) (L d : Nat) (I : Nat → Nat → Int32) (J : Nat → Nat → Int64) (X : XH) (a1 : Int32) (a2 : Int32) : zseg (zE xs L (d + 5) 174) (zC 174) 677 (zB174_4.drop 12) [(0, .ref 61), (1, .int a1), (2, .int a2)] [] (zmk I J X) = zcw (zE xs L (d + 5) 174) (zev xs L (d + 5) 178 [.ref 61, .int (41 : Int32)] (zmk I J X)) (fun h => zseg (zE xs L (d + 5) 174) (zC 174) 674 (zB174_4.drop 15) [(0, .ref 61), (1, .int a1), (2, .int a2)] [] h) := by
  rfl
theorem T174_5_6_677 (xs : Nat → Int32) (L d : Nat) (I : Nat → Nat → Int32) (J : Nat → Nat → Int64) (X : XH) (a3 : Int32) (a1 : Int32) (a2 : Int32) : zseg (zE xs L (d + 5) 174) (zC 174) 677 (zB174_5.drop 6) [(3, .int a3), (0, .ref 61), (1, .int a1), (2, .int a2)] [] (zmk I J X) = if decide (¬ (I 61 65) = 0) = true then
  some (.inr (.inr none, zmk I J X))
  else zcw (zE xs L (d + 5) 174) (zev xs L (d + 5) 161 [.ref 61] (zmk I J X)) (fun h => zseg (zE xs L (d + 5) 174) (zC 174) 672 (zB174_5.drop 11) [(3, .int a3), (0, .ref 61), (1, .int a1), (2, .int a2)] [] h) := by
  refine zite_congr ?_ ?_
  · rfl
  · rfl
theorem T174_2_13_680 (xs : Nat → Int32) (L d : Nat) (I : Nat → Nat → Int32) (J : Nat → Nat → Int64) (X : XH) (a3 : Int32) (a1 : Int32) (a2 : Int32) : zseg (zE xs L (d + 5) 174) (zC 174) 680 (zB174_2.drop 13) [(3, .int a3), (0, .ref 61), (1, .int a1), (2, .int a2)] [] (zmk I J X) = zcw (zE xs L (d + 5) 174) (zev xs L (d + 5) 176 [.ref 61, .int a1, .int ((20 : Int32) + a3)] (zmk I J X)) (fun h => zseg (zE xs L (d + 5) 174) (zC 174) 673 (zB174_5.drop 6) [(3, .int a3), (0, .ref 61), (1, .int a1), (2, .int a2)] [] h) := by
  rfl
theorem T174_1_11_686 (xs : Nat → Int32) (L d : Nat) (I : Nat → Nat → Int32) (J : Nat → Nat → Int64) (X : XH) (a3 : Int32) (a1 : Int32) (a2 : Int32) : zseg (zE xs L (d + 5) 174) (zC 174) 686 (zB174_1.drop 11) [(3, .int a3), (0, .ref 61), (1, .int a1), (2, .int a2)] [] (zmk I J X) = zcw (zE xs L (d + 5) 174) (zev xs L (d + 5) 176 [.ref 61, .int a1, .int a3] (zmk I J X)) (fun h => zseg (zE xs L (d + 5) 174) (zC 174) 682 (zB174_1.drop 15) [(3, .int a3), (0, .ref 61), (1, .int a1), (2, .int a2)] [] h) := by
  rfl
theorem T174_4_15_674 (xs : Nat → Int32) (L d : Nat) (I : Nat → Nat → Int32) (J : Nat → Nat → Int64) (X : XH) (a1 : Int32) (a2 : Int32) : zseg (zE xs L (d + 5) 174) (zC 174) 674 (zB174_4.drop 15) [(0, .ref 61), (1, .int a1), (2, .int a2)] [] (zmk I J X) = some (.inr (.inr none, zmk I J X)) := by
  rfl
theorem T174_5_11_672 (xs : Nat → Int32) (L d : Nat) (I : Nat → Nat → Int32) (J : Nat → Nat → Int64) (X : XH) (a3 : Int32) (a1 : Int32) (a2 : Int32) : zseg (zE xs L (d + 5) 174) (zC 174) 672 (zB174_5.drop 11) [(3, .int a3), (0, .ref 61), (1, .int a1), (2, .int a2)] [] (zmk I J X) = some (.inr (.inr none, zmk I J X)) := by
  rfl
theorem T174_5_6_673 (xs : Nat → Int32) (L d : Nat) (I : Nat → Nat → Int32) (J : Nat → Nat → Int64) (X : XH) (a3 : Int32) (a1 : Int32) (a2 : Int32) : zseg (zE xs L (d + 5) 174) (zC 174) 673 (zB174_5.drop 6) [(3, .int a3), (0, .ref 61), (1, .int a1), (2, .int a2)] [] (zmk I J X) = if decide (¬ (I 61 65) = 0) = true then
  some (.inr (.inr none, zmk I J X))
  else zcw (zE xs L (d + 5) 174) (zev xs L (d + 5) 161 [.ref 61] (zmk I J X)) (fun h => zseg (zE xs L (d + 5) 174) (zC 174) 668 (zB174_5.drop 11) [(3, .int a3), (0, .ref 61), (1, .int a1), (2, .int a2)] [] h) := by
  refine zite_congr ?_ ?_
  · rfl
  · rfl
theorem T174_1_15_682 (xs : Nat → Int32) (L d : Nat) (I : Nat → Nat → Int32) (J : Nat → Nat → Int64) (X : XH) (a3 : Int32) (a1 : Int32) (a2 : Int32) : zseg (zE xs L (d + 5) 174) (zC 174) 682 (zB174_1.drop 15) [(3, .int a3), (0, .ref 61), (1, .int a1), (2, .int a2)] [] (zmk I J X) = some (.inr (.inr none, zmk I J X)) := by
  rfl
theorem T174_5_11_668 (xs : Nat → Int32) (L d : Nat) (I : Nat → Nat → Int32) (J : Nat → Nat → Int64) (X : XH) (a3 : Int32) (a1 : Int32) (a2 : Int32) : zseg (zE xs L (d + 5) 174) (zC 174) 668 (zB174_5.drop 11) [(3, .int a3), (0, .ref 61), (1, .int a1), (2, .int a2)] [] (zmk I J X) = some (.inr (.inr none, zmk I J X)) := by
  rfl
/-! 175 TollTagsModel.readNumber ()I -/
theorem S175_0 (xs : Nat → Int32) (L d : Nat) (I : Nat → Nat → Int32) (J : Nat → Nat → Int64) (X : XH) : zseg (zE xs L (d + 5) 175) (zC 175) 700 (zC 175 0) [(0, .ref 61)] [] (zmk I J X) = if decide ((I 61 65) = 0) = true then
  if decide ((I 61 60) = (2 : Int32)) = true then
    if decide (((I 61 64) - (I 61 63)) ≤ (5 : Int32)) = true then
      if decide (¬ (I 61 65) = 0) = true then
        some (.inr (.inr (some (.int (I 61 62))), zmk I J X))
        else zcw (zE xs L (d + 5) 175) (zev xs L (d + 5) 161 [.ref 61] (zmk I J X)) (fun h => zseg (zE xs L (d + 5) 175) (zC 175) 678 (zB175_3.drop 8) [(1, .int (I 61 62)), (0, .ref 61)] [] h)
      else zcw (zE xs L (d + 5) 175) (zev xs L (d + 5) 167 [.ref 61, .int (2 : Int32)] (zmk I J X)) (fun h => zseg (zE xs L (d + 5) 175) (zC 175) 683 (zB175_2.drop 10) [(0, .ref 61)] [] h)
    else zcw (zE xs L (d + 5) 175) (zev xs L (d + 5) 167 [.ref 61, .int (1 : Int32)] (zmk I J X)) (fun h => zseg (zE xs L (d + 5) 175) (zC 175) 690 (zB175_1.drop 7) [(0, .ref 61)] [] h)
  else some (.inr (.inr (some (.int (0 : Int32))), zmk I J X)) := by
  refine zite_congr ?_ ?_
  · refine zite_congr ?_ ?_
    · refine zite_congr ?_ ?_
      · refine zite_congr ?_ ?_
        · rfl
        · rfl
      · rfl
    · rfl
  · rfl
theorem T175_3_8_678 (xs : Nat → Int32) (L d : Nat) (I : Nat → Nat → Int32) (J : Nat → Nat → Int64) (X : XH) (a1 : Int32) : zseg (zE xs L (d + 5) 175) (zC 175) 678 (zB175_3.drop 8) [(1, .int a1), (0, .ref 61)] [] (zmk I J X) = some (.inr (.inr (some (.int a1)), zmk I J X)) := by
  rfl
theorem T175_2_10_683 (xs : Nat → Int32) (L d : Nat) (I : Nat → Nat → Int32) (J : Nat → Nat → Int64) (X : XH) : zseg (zE xs L (d + 5) 175) (zC 175) 683 (zB175_2.drop 10) [(0, .ref 61)] [] (zmk I J X) = if decide (¬ (I 61 65) = 0) = true then
  some (.inr (.inr (some (.int (I 61 62))), zmk I J X))
  else zcw (zE xs L (d + 5) 175) (zev xs L (d + 5) 161 [.ref 61] (zmk I J X)) (fun h => zseg (zE xs L (d + 5) 175) (zC 175) 674 (zB175_3.drop 8) [(1, .int (I 61 62)), (0, .ref 61)] [] h) := by
  refine zite_congr ?_ ?_
  · rfl
  · rfl
theorem T175_1_7_690 (xs : Nat → Int32) (L d : Nat) (I : Nat → Nat → Int32) (J : Nat → Nat → Int64) (X : XH) : zseg (zE xs L (d + 5) 175) (zC 175) 690 (zB175_1.drop 7) [(0, .ref 61)] [] (zmk I J X) = if decide (¬ (I 61 65) = 0) = true then
  some (.inr (.inr (some (.int (I 61 62))), zmk I J X))
  else zcw (zE xs L (d + 5) 175) (zev xs L (d + 5) 161 [.ref 61] (zmk I J X)) (fun h => zseg (zE xs L (d + 5) 175) (zC 175) 681 (zB175_3.drop 8) [(1, .int (I 61 62)), (0, .ref 61)] [] h) := by
  refine zite_congr ?_ ?_
  · rfl
  · rfl
theorem T175_3_8_674 (xs : Nat → Int32) (L d : Nat) (I : Nat → Nat → Int32) (J : Nat → Nat → Int64) (X : XH) (a1 : Int32) : zseg (zE xs L (d + 5) 175) (zC 175) 674 (zB175_3.drop 8) [(1, .int a1), (0, .ref 61)] [] (zmk I J X) = some (.inr (.inr (some (.int a1)), zmk I J X)) := by
  rfl
theorem T175_3_8_681 (xs : Nat → Int32) (L d : Nat) (I : Nat → Nat → Int32) (J : Nat → Nat → Int64) (X : XH) (a1 : Int32) : zseg (zE xs L (d + 5) 175) (zC 175) 681 (zB175_3.drop 8) [(1, .int a1), (0, .ref 61)] [] (zmk I J X) = some (.inr (.inr (some (.int a1)), zmk I J X)) := by
  rfl
/-! 176 TollTagsModel.emit (II)V -/
theorem S176_0 (xs : Nat → Int32) (L d : Nat) (I : Nat → Nat → Int32) (J : Nat → Nat → Int64) (X : XH) (a1 : Int32) (a2 : Int32) : zseg (zE xs L (d + 5) 176) (zC 176) 700 (zC 176 0) [(0, .ref 61), (1, .int a1), (2, .int a2)] [] (zmk I J X) = if decide ((I 61 65) = 0) = true then
  if zix 0 23680 0 (((640 : Int32) * a1) + (I 61 68)) then
    some (.inr (.inr none, zmk (zup (zup I 101 ((((640 : Int32) * a1) + (I 61 68)).toNatClampNeg) a2) 61 68 ((I 61 68) + (1 : Int32))) J X))
    else none
  else some (.inr (.inr none, zmk I J X)) := by
  refine zite_congr ?_ ?_
  · refine zite_congr ?_ ?_
    · rfl
    · rfl
  · rfl
/-! 177 TollTagsModel.valueNow ()I -/
theorem S177_0 (xs : Nat → Int32) (L d : Nat) (I : Nat → Nat → Int32) (J : Nat → Nat → Int64) (X : XH) : zseg (zE xs L (d + 5) 177) (zC 177) 700 (zC 177 0) [(0, .ref 61)] [] (zmk I J X) = some (.inl (2, [(0, .ref 61), (1, .int (0 : Int32))], zmk I J X)) := by
  rfl
