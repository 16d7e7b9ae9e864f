/-! THE START: strings, statics and names by the tables and by what the Statement gives. Written by program (wip/whole/mk19.py). -/
def zfl : List Cond := flatC (Jvm.Cond.and given_1 narrow_1)
def zf_ex : List (Nat) := [0, 1, 2, 3, 4, 5, 6, 7, 8, 9, 10, 11, 12, 13, 14, 15]
set_option maxRecDepth 40000 in
theorem zf_ex_ok : ∀ q ∈ zf_ex, Cond.exactly (.string (zsO q) (zsI q)) "java/lang/String" ∈ zfl := List.forall_mem_cons.mpr ⟨List.mem_of_getElem? (i := 39) rfl, List.forall_mem_cons.mpr ⟨List.mem_of_getElem? (i := 122) rfl, List.forall_mem_cons.mpr ⟨List.mem_of_getElem? (i := 132) rfl, List.forall_mem_cons.mpr ⟨List.mem_of_getElem? (i := 143) rfl, List.forall_mem_cons.mpr ⟨List.mem_of_getElem? (i := 152) rfl, List.forall_mem_cons.mpr ⟨List.mem_of_getElem? (i := 164) rfl, List.forall_mem_cons.mpr ⟨List.mem_of_getElem? (i := 180) rfl, List.forall_mem_cons.mpr ⟨List.mem_of_getElem? (i := 194) rfl, List.forall_mem_cons.mpr ⟨List.mem_of_getElem? (i := 209) rfl, List.forall_mem_cons.mpr ⟨List.mem_of_getElem? (i := 228) rfl, List.forall_mem_cons.mpr ⟨List.mem_of_getElem? (i := 245) rfl, List.forall_mem_cons.mpr ⟨List.mem_of_getElem? (i := 263) rfl, List.forall_mem_cons.mpr ⟨List.mem_of_getElem? (i := 282) rfl, List.forall_mem_cons.mpr ⟨List.mem_of_getElem? (i := 304) rfl, List.forall_mem_cons.mpr ⟨List.mem_of_getElem? (i := 324) rfl, List.forall_mem_cons.mpr ⟨List.mem_of_getElem? (i := 345) rfl, fun _ h => by cases h⟩⟩⟩⟩⟩⟩⟩⟩⟩⟩⟩⟩⟩⟩⟩⟩
def zf_co : List (Nat) := [0, 1, 2, 3, 4, 5, 6, 7, 8, 9, 10, 11, 12, 13, 14, 15]
set_option maxRecDepth 40000 in
theorem zf_co_ok : ∀ q ∈ zf_co, Cond.eq (.field (.string (zsO q) (zsI q)) "java/lang/String" "coder" "B") (.int 0) ∈ zfl := List.forall_mem_cons.mpr ⟨List.mem_of_getElem? (i := 40) rfl, List.forall_mem_cons.mpr ⟨List.mem_of_getElem? (i := 123) rfl, List.forall_mem_cons.mpr ⟨List.mem_of_getElem? (i := 133) rfl, List.forall_mem_cons.mpr ⟨List.mem_of_getElem? (i := 144) rfl, List.forall_mem_cons.mpr ⟨List.mem_of_getElem? (i := 153) rfl, List.forall_mem_cons.mpr ⟨List.mem_of_getElem? (i := 165) rfl, List.forall_mem_cons.mpr ⟨List.mem_of_getElem? (i := 181) rfl, List.forall_mem_cons.mpr ⟨List.mem_of_getElem? (i := 195) rfl, List.forall_mem_cons.mpr ⟨List.mem_of_getElem? (i := 210) rfl, List.forall_mem_cons.mpr ⟨List.mem_of_getElem? (i := 229) rfl, List.forall_mem_cons.mpr ⟨List.mem_of_getElem? (i := 246) rfl, List.forall_mem_cons.mpr ⟨List.mem_of_getElem? (i := 264) rfl, List.forall_mem_cons.mpr ⟨List.mem_of_getElem? (i := 283) rfl, List.forall_mem_cons.mpr ⟨List.mem_of_getElem? (i := 305) rfl, List.forall_mem_cons.mpr ⟨List.mem_of_getElem? (i := 325) rfl, List.forall_mem_cons.mpr ⟨List.mem_of_getElem? (i := 346) rfl, fun _ h => by cases h⟩⟩⟩⟩⟩⟩⟩⟩⟩⟩⟩⟩⟩⟩⟩⟩
def zf_ar : List (Nat) := [0, 1, 2, 3, 4, 5, 6, 7, 8, 9, 10, 11, 12, 13, 14, 15]
set_option maxRecDepth 40000 in
theorem zf_ar_ok : ∀ q ∈ zf_ar, Cond.arrayOf (.field (.string (zsO q) (zsI q)) "java/lang/String" "value" "[B") .byte ∈ zfl := List.forall_mem_cons.mpr ⟨List.mem_of_getElem? (i := 41) rfl, List.forall_mem_cons.mpr ⟨List.mem_of_getElem? (i := 124) rfl, List.forall_mem_cons.mpr ⟨List.mem_of_getElem? (i := 134) rfl, List.forall_mem_cons.mpr ⟨List.mem_of_getElem? (i := 145) rfl, List.forall_mem_cons.mpr ⟨List.mem_of_getElem? (i := 154) rfl, List.forall_mem_cons.mpr ⟨List.mem_of_getElem? (i := 166) rfl, List.forall_mem_cons.mpr ⟨List.mem_of_getElem? (i := 182) rfl, List.forall_mem_cons.mpr ⟨List.mem_of_getElem? (i := 196) rfl, List.forall_mem_cons.mpr ⟨List.mem_of_getElem? (i := 211) rfl, List.forall_mem_cons.mpr ⟨List.mem_of_getElem? (i := 230) rfl, List.forall_mem_cons.mpr ⟨List.mem_of_getElem? (i := 247) rfl, List.forall_mem_cons.mpr ⟨List.mem_of_getElem? (i := 265) rfl, List.forall_mem_cons.mpr ⟨List.mem_of_getElem? (i := 284) rfl, List.forall_mem_cons.mpr ⟨List.mem_of_getElem? (i := 306) rfl, List.forall_mem_cons.mpr ⟨List.mem_of_getElem? (i := 326) rfl, List.forall_mem_cons.mpr ⟨List.mem_of_getElem? (i := 347) rfl, fun _ h => by cases h⟩⟩⟩⟩⟩⟩⟩⟩⟩⟩⟩⟩⟩⟩⟩⟩
def zf_le : List (Nat) := [0, 1, 2, 3, 4, 5, 6, 7, 8, 9, 10, 11, 12, 13, 14, 15]
set_option maxRecDepth 40000 in
theorem zf_le_ok : ∀ q ∈ zf_le, Cond.eq (.length (.field (.string (zsO q) (zsI q)) "java/lang/String" "value" "[B")) (.int (Int32.ofNat ((zstr.map List.length).getD q 0))) ∈ zfl := List.forall_mem_cons.mpr ⟨List.mem_of_getElem? (i := 42) rfl, List.forall_mem_cons.mpr ⟨List.mem_of_getElem? (i := 125) rfl, List.forall_mem_cons.mpr ⟨List.mem_of_getElem? (i := 135) rfl, List.forall_mem_cons.mpr ⟨List.mem_of_getElem? (i := 146) rfl, List.forall_mem_cons.mpr ⟨List.mem_of_getElem? (i := 155) rfl, List.forall_mem_cons.mpr ⟨List.mem_of_getElem? (i := 167) rfl, List.forall_mem_cons.mpr ⟨List.mem_of_getElem? (i := 183) rfl, List.forall_mem_cons.mpr ⟨List.mem_of_getElem? (i := 197) rfl, List.forall_mem_cons.mpr ⟨List.mem_of_getElem? (i := 212) rfl, List.forall_mem_cons.mpr ⟨List.mem_of_getElem? (i := 231) rfl, List.forall_mem_cons.mpr ⟨List.mem_of_getElem? (i := 248) rfl, List.forall_mem_cons.mpr ⟨List.mem_of_getElem? (i := 266) rfl, List.forall_mem_cons.mpr ⟨List.mem_of_getElem? (i := 285) rfl, List.forall_mem_cons.mpr ⟨List.mem_of_getElem? (i := 307) rfl, List.forall_mem_cons.mpr ⟨List.mem_of_getElem? (i := 327) rfl, List.forall_mem_cons.mpr ⟨List.mem_of_getElem? (i := 348) rfl, fun _ h => by cases h⟩⟩⟩⟩⟩⟩⟩⟩⟩⟩⟩⟩⟩⟩⟩⟩
def zf_el0 : List (Nat × Nat) := [(0, 0), (0, 1), (0, 2), (0, 3), (0, 4), (0, 5), (0, 6), (0, 7), (0, 8), (0, 9), (0, 10), (0, 11), (0, 12), (0, 13), (0, 14), (0, 15), (0, 16), (0, 17), (0, 18), (0, 19), (0, 20), (0, 21), (0, 22), (0, 23), (0, 24), (0, 25), (0, 26), (0, 27), (0, 28), (0, 29), (0, 30), (0, 31), (0, 32), (0, 33), (0, 34), (0, 35), (0, 36), (0, 37), (0, 38), (0, 39), (0, 40), (0, 41), (0, 42), (0, 43), (0, 44), (0, 45), (0, 46), (0, 47), (0, 48), (0, 49), (0, 50), (0, 51), (0, 52), (0, 53), (0, 54), (0, 55), (0, 56), (0, 57), (0, 58), (0, 59), (0, 60), (0, 61), (0, 62), (0, 63), (0, 64), (0, 65), (0, 66), (0, 67), (0, 68), (0, 69), (0, 70), (0, 71), (0, 72), (0, 73), (0, 74), (0, 75), (0, 76), (0, 77), (0, 78)]
set_option maxRecDepth 40000 in
theorem zf_el0_ok : ∀ q ∈ zf_el0, Cond.eq (.elem (.field (.string (zsO q.1) (zsI q.1)) "java/lang/String" "value" "[B") (.int (Int32.ofNat q.2))) (.int ((zstr.getD q.1 []).getD q.2 0)) ∈ zfl := List.forall_mem_cons.mpr ⟨List.mem_of_getElem? (i := 43) rfl, List.forall_mem_cons.mpr ⟨List.mem_of_getElem? (i := 44) rfl, List.forall_mem_cons.mpr ⟨List.mem_of_getElem? (i := 45) rfl, List.forall_mem_cons.mpr ⟨List.mem_of_getElem? (i := 46) rfl, List.forall_mem_cons.mpr ⟨List.mem_of_getElem? (i := 47) rfl, List.forall_mem_cons.mpr ⟨List.mem_of_getElem? (i := 48) rfl, List.forall_mem_cons.mpr ⟨List.mem_of_getElem? (i := 49) rfl, List.forall_mem_cons.mpr ⟨List.mem_of_getElem? (i := 50) rfl, List.forall_mem_cons.mpr ⟨List.mem_of_getElem? (i := 51) rfl, List.forall_mem_cons.mpr ⟨List.mem_of_getElem? (i := 52) rfl, List.forall_mem_cons.mpr ⟨List.mem_of_getElem? (i := 53) rfl, List.forall_mem_cons.mpr ⟨List.mem_of_getElem? (i := 54) rfl, List.forall_mem_cons.mpr ⟨List.mem_of_getElem? (i := 55) rfl, List.forall_mem_cons.mpr ⟨List.mem_of_getElem? (i := 56) rfl, List.forall_mem_cons.mpr ⟨List.mem_of_getElem? (i := 57) rfl, List.forall_mem_cons.mpr ⟨List.mem_of_getElem? (i := 58) rfl, List.forall_mem_cons.mpr ⟨List.mem_of_getElem? (i := 59) rfl, List.forall_mem_cons.mpr ⟨List.mem_of_getElem? (i := 60) rfl, List.forall_mem_cons.mpr ⟨List.mem_of_getElem? (i := 61) rfl, List.forall_mem_cons.mpr ⟨List.mem_of_getElem? (i := 62) rfl, List.forall_mem_cons.mpr ⟨List.mem_of_getElem? (i := 63) rfl, List.forall_mem_cons.mpr ⟨List.mem_of_getElem? (i := 64) rfl, List.forall_mem_cons.mpr ⟨List.mem_of_getElem? (i := 65) rfl, List.forall_mem_cons.mpr ⟨List.mem_of_getElem? (i := 66) rfl, List.forall_mem_cons.mpr ⟨List.mem_of_getElem? (i := 67) rfl, List.forall_mem_cons.mpr ⟨List.mem_of_getElem? (i := 68) rfl, List.forall_mem_cons.mpr ⟨List.mem_of_getElem? (i := 69) rfl, List.forall_mem_cons.mpr ⟨List.mem_of_getElem? (i := 70) rfl, List.forall_mem_cons.mpr ⟨List.mem_of_getElem? (i := 71) rfl, List.forall_mem_cons.mpr ⟨List.mem_of_getElem? (i := 72) rfl, List.forall_mem_cons.mpr ⟨List.mem_of_getElem? (i := 73) rfl, List.forall_mem_cons.mpr ⟨List.mem_of_getElem? (i := 74) rfl, List.forall_mem_cons.mpr ⟨List.mem_of_getElem? (i := 75) rfl, List.forall_mem_cons.mpr ⟨List.mem_of_getElem? (i := 76) rfl, List.forall_mem_cons.mpr ⟨List.mem_of_getElem? (i := 77) rfl, List.forall_mem_cons.mpr ⟨List.mem_of_getElem? (i := 78) rfl, List.forall_mem_cons.mpr ⟨List.mem_of_getElem? (i := 79) rfl, List.forall_mem_cons.mpr ⟨List.mem_of_getElem? (i := 80) rfl, List.forall_mem_cons.mpr ⟨List.mem_of_getElem? (i := 81) rfl, List.forall_mem_cons.mpr ⟨List.mem_of_getElem? (i := 82) rfl, List.forall_mem_cons.mpr ⟨List.mem_of_getElem? (i := 83) rfl, List.forall_mem_cons.mpr ⟨List.mem_of_getElem? (i := 84) rfl, List.forall_mem_cons.mpr ⟨List.mem_of_getElem? (i := 85) rfl, List.forall_mem_cons.mpr ⟨List.mem_of_getElem? (i := 86) rfl, List.forall_mem_cons.mpr ⟨List.mem_of_getElem? (i := 87) rfl, List.forall_mem_cons.mpr ⟨List.mem_of_getElem? (i := 88) rfl, List.forall_mem_cons.mpr ⟨List.mem_of_getElem? (i := 89) rfl, List.forall_mem_cons.mpr ⟨List.mem_of_getElem? (i := 90) rfl, List.forall_mem_cons.mpr ⟨List.mem_of_getElem? (i := 91) rfl, List.forall_mem_cons.mpr ⟨List.mem_of_getElem? (i := 92) rfl, List.forall_mem_cons.mpr ⟨List.mem_of_getElem? (i := 93) rfl, List.forall_mem_cons.mpr ⟨List.mem_of_getElem? (i := 94) rfl, List.forall_mem_cons.mpr ⟨List.mem_of_getElem? (i := 95) rfl, List.forall_mem_cons.mpr ⟨List.mem_of_getElem? (i := 96) rfl, List.forall_mem_cons.mpr ⟨List.mem_of_getElem? (i := 97) rfl, List.forall_mem_cons.mpr ⟨List.mem_of_getElem? (i := 98) rfl, List.forall_mem_cons.mpr ⟨List.mem_of_getElem? (i := 99) rfl, List.forall_mem_cons.mpr ⟨List.mem_of_getElem? (i := 100) rfl, List.forall_mem_cons.mpr ⟨List.mem_of_getElem? (i := 101) rfl, List.forall_mem_cons.mpr ⟨List.mem_of_getElem? (i := 102) rfl, List.forall_mem_cons.mpr ⟨List.mem_of_getElem? (i := 103) rfl, List.forall_mem_cons.mpr ⟨List.mem_of_getElem? (i := 104) rfl, List.forall_mem_cons.mpr ⟨List.mem_of_getElem? (i := 105) rfl, List.forall_mem_cons.mpr ⟨List.mem_of_getElem? (i := 106) rfl, List.forall_mem_cons.mpr ⟨List.mem_of_getElem? (i := 107) rfl, List.forall_mem_cons.mpr ⟨List.mem_of_getElem? (i := 108) rfl, List.forall_mem_cons.mpr ⟨List.mem_of_getElem? (i := 109) rfl, List.forall_mem_cons.mpr ⟨List.mem_of_getElem? (i := 110) rfl, List.forall_mem_cons.mpr ⟨List.mem_of_getElem? (i := 111) rfl, List.forall_mem_cons.mpr ⟨List.mem_of_getElem? (i := 112) rfl, List.forall_mem_cons.mpr ⟨List.mem_of_getElem? (i := 113) rfl, List.forall_mem_cons.mpr ⟨List.mem_of_getElem? (i := 114) rfl, List.forall_mem_cons.mpr ⟨List.mem_of_getElem? (i := 115) rfl, List.forall_mem_cons.mpr ⟨List.mem_of_getElem? (i := 116) rfl, List.forall_mem_cons.mpr ⟨List.mem_of_getElem? (i := 117) rfl, List.forall_mem_cons.mpr ⟨List.mem_of_getElem? (i := 118) rfl, List.forall_mem_cons.mpr ⟨List.mem_of_getElem? (i := 119) rfl, List.forall_mem_cons.mpr ⟨List.mem_of_getElem? (i := 120) rfl, List.forall_mem_cons.mpr ⟨List.mem_of_getElem? (i := 121) rfl, fun _ h => by cases h⟩⟩⟩⟩⟩⟩⟩⟩⟩⟩⟩⟩⟩⟩⟩⟩⟩⟩⟩⟩⟩⟩⟩⟩⟩⟩⟩⟩⟩⟩⟩⟩⟩⟩⟩⟩⟩⟩⟩⟩⟩⟩⟩⟩⟩⟩⟩⟩⟩⟩⟩⟩⟩⟩⟩⟩⟩⟩⟩⟩⟩⟩⟩⟩⟩⟩⟩⟩⟩⟩⟩⟩⟩⟩⟩⟩⟩⟩⟩
def zf_el1 : List (Nat × Nat) := [(1, 0), (1, 1), (1, 2), (1, 3), (1, 4)]
set_option maxRecDepth 40000 in
theorem zf_el1_ok : ∀ q ∈ zf_el1, Cond.eq (.elem (.field (.string (zsO q.1) (zsI q.1)) "java/lang/String" "value" "[B") (.int (Int32.ofNat q.2))) (.int ((zstr.getD q.1 []).getD q.2 0)) ∈ zfl := List.forall_mem_cons.mpr ⟨List.mem_of_getElem? (i := 126) rfl, List.forall_mem_cons.mpr ⟨List.mem_of_getElem? (i := 127) rfl, List.forall_mem_cons.mpr ⟨List.mem_of_getElem? (i := 128) rfl, List.forall_mem_cons.mpr ⟨List.mem_of_getElem? (i := 129) rfl, List.forall_mem_cons.mpr ⟨List.mem_of_getElem? (i := 130) rfl, fun _ h => by cases h⟩⟩⟩⟩⟩
def zf_el2 : List (Nat × Nat) := [(2, 0), (2, 1), (2, 2), (2, 3), (2, 4)]
set_option maxRecDepth 40000 in
theorem zf_el2_ok : ∀ q ∈ zf_el2, Cond.eq (.elem (.field (.string (zsO q.1) (zsI q.1)) "java/lang/String" "value" "[B") (.int (Int32.ofNat q.2))) (.int ((zstr.getD q.1 []).getD q.2 0)) ∈ zfl := List.forall_mem_cons.mpr ⟨List.mem_of_getElem? (i := 136) rfl, List.forall_mem_cons.mpr ⟨List.mem_of_getElem? (i := 137) rfl, List.forall_mem_cons.mpr ⟨List.mem_of_getElem? (i := 138) rfl, List.forall_mem_cons.mpr ⟨List.mem_of_getElem? (i := 139) rfl, List.forall_mem_cons.mpr ⟨List.mem_of_getElem? (i := 140) rfl, fun _ h => by cases h⟩⟩⟩⟩⟩
def zf_el3 : List (Nat × Nat) := [(3, 0), (3, 1)]
set_option maxRecDepth 40000 in
theorem zf_el3_ok : ∀ q ∈ zf_el3, Cond.eq (.elem (.field (.string (zsO q.1) (zsI q.1)) "java/lang/String" "value" "[B") (.int (Int32.ofNat q.2))) (.int ((zstr.getD q.1 []).getD q.2 0)) ∈ zfl := List.forall_mem_cons.mpr ⟨List.mem_of_getElem? (i := 147) rfl, List.forall_mem_cons.mpr ⟨List.mem_of_getElem? (i := 148) rfl, fun _ h => by cases h⟩⟩
def zf_el4 : List (Nat × Nat) := [(4, 0), (4, 1), (4, 2), (4, 3)]
set_option maxRecDepth 40000 in
theorem zf_el4_ok : ∀ q ∈ zf_el4, Cond.eq (.elem (.field (.string (zsO q.1) (zsI q.1)) "java/lang/String" "value" "[B") (.int (Int32.ofNat q.2))) (.int ((zstr.getD q.1 []).getD q.2 0)) ∈ zfl := List.forall_mem_cons.mpr ⟨List.mem_of_getElem? (i := 156) rfl, List.forall_mem_cons.mpr ⟨List.mem_of_getElem? (i := 157) rfl, List.forall_mem_cons.mpr ⟨List.mem_of_getElem? (i := 158) rfl, List.forall_mem_cons.mpr ⟨List.mem_of_getElem? (i := 159) rfl, fun _ h => by cases h⟩⟩⟩⟩
def zf_el5 : List (Nat × Nat) := [(5, 0), (5, 1), (5, 2), (5, 3), (5, 4), (5, 5), (5, 6)]
set_option maxRecDepth 40000 in
theorem zf_el5_ok : ∀ q ∈ zf_el5, Cond.eq (.elem (.field (.string (zsO q.1) (zsI q.1)) "java/lang/String" "value" "[B") (.int (Int32.ofNat q.2))) (.int ((zstr.getD q.1 []).getD q.2 0)) ∈ zfl := List.forall_mem_cons.mpr ⟨List.mem_of_getElem? (i := 168) rfl, List.forall_mem_cons.mpr ⟨List.mem_of_getElem? (i := 169) rfl, List.forall_mem_cons.mpr ⟨List.mem_of_getElem? (i := 170) rfl, List.forall_mem_cons.mpr ⟨List.mem_of_getElem? (i := 171) rfl, List.forall_mem_cons.mpr ⟨List.mem_of_getElem? (i := 172) rfl, List.forall_mem_cons.mpr ⟨List.mem_of_getElem? (i := 173) rfl, List.forall_mem_cons.mpr ⟨List.mem_of_getElem? (i := 174) rfl, fun _ h => by cases h⟩⟩⟩⟩⟩⟩⟩
def zf_el6 : List (Nat × Nat) := [(6, 0), (6, 1), (6, 2), (6, 3)]
set_option maxRecDepth 40000 in
theorem zf_el6_ok : ∀ q ∈ zf_el6, Cond.eq (.elem (.field (.string (zsO q.1) (zsI q.1)) "java/lang/String" "value" "[B") (.int (Int32.ofNat q.2))) (.int ((zstr.getD q.1 []).getD q.2 0)) ∈ zfl := List.forall_mem_cons.mpr ⟨List.mem_of_getElem? (i := 184) rfl, List.forall_mem_cons.mpr ⟨List.mem_of_getElem? (i := 185) rfl, List.forall_mem_cons.mpr ⟨List.mem_of_getElem? (i := 186) rfl, List.forall_mem_cons.mpr ⟨List.mem_of_getElem? (i := 187) rfl, fun _ h => by cases h⟩⟩⟩⟩
def zf_el7 : List (Nat × Nat) := [(7, 0), (7, 1), (7, 2), (7, 3)]
set_option maxRecDepth 40000 in
theorem zf_el7_ok : ∀ q ∈ zf_el7, Cond.eq (.elem (.field (.string (zsO q.1) (zsI q.1)) "java/lang/String" "value" "[B") (.int (Int32.ofNat q.2))) (.int ((zstr.getD q.1 []).getD q.2 0)) ∈ zfl := List.forall_mem_cons.mpr ⟨List.mem_of_getElem? (i := 198) rfl, List.forall_mem_cons.mpr ⟨List.mem_of_getElem? (i := 199) rfl, List.forall_mem_cons.mpr ⟨List.mem_of_getElem? (i := 200) rfl, List.forall_mem_cons.mpr ⟨List.mem_of_getElem? (i := 201) rfl, fun _ h => by cases h⟩⟩⟩⟩
def zf_el8 : List (Nat × Nat) := [(8, 0), (8, 1), (8, 2), (8, 3), (8, 4), (8, 5), (8, 6)]
set_option maxRecDepth 40000 in
theorem zf_el8_ok : ∀ q ∈ zf_el8, Cond.eq (.elem (.field (.string (zsO q.1) (zsI q.1)) "java/lang/String" "value" "[B") (.int (Int32.ofNat q.2))) (.int ((zstr.getD q.1 []).getD q.2 0)) ∈ zfl := List.forall_mem_cons.mpr ⟨List.mem_of_getElem? (i := 213) rfl, List.forall_mem_cons.mpr ⟨List.mem_of_getElem? (i := 214) rfl, List.forall_mem_cons.mpr ⟨List.mem_of_getElem? (i := 215) rfl, List.forall_mem_cons.mpr ⟨List.mem_of_getElem? (i := 216) rfl, List.forall_mem_cons.mpr ⟨List.mem_of_getElem? (i := 217) rfl, List.forall_mem_cons.mpr ⟨List.mem_of_getElem? (i := 218) rfl, List.forall_mem_cons.mpr ⟨List.mem_of_getElem? (i := 219) rfl, fun _ h => by cases h⟩⟩⟩⟩⟩⟩⟩
def zf_el9 : List (Nat × Nat) := [(9, 0), (9, 1), (9, 2), (9, 3)]
set_option maxRecDepth 40000 in
theorem zf_el9_ok : ∀ q ∈ zf_el9, Cond.eq (.elem (.field (.string (zsO q.1) (zsI q.1)) "java/lang/String" "value" "[B") (.int (Int32.ofNat q.2))) (.int ((zstr.getD q.1 []).getD q.2 0)) ∈ zfl := List.forall_mem_cons.mpr ⟨List.mem_of_getElem? (i := 232) rfl, List.forall_mem_cons.mpr ⟨List.mem_of_getElem? (i := 233) rfl, List.forall_mem_cons.mpr ⟨List.mem_of_getElem? (i := 234) rfl, List.forall_mem_cons.mpr ⟨List.mem_of_getElem? (i := 235) rfl, fun _ h => by cases h⟩⟩⟩⟩
def zf_el10 : List (Nat × Nat) := [(10, 0), (10, 1), (10, 2), (10, 3)]
set_option maxRecDepth 40000 in
theorem zf_el10_ok : ∀ q ∈ zf_el10, Cond.eq (.elem (.field (.string (zsO q.1) (zsI q.1)) "java/lang/String" "value" "[B") (.int (Int32.ofNat q.2))) (.int ((zstr.getD q.1 []).getD q.2 0)) ∈ zfl := List.forall_mem_cons.mpr ⟨List.mem_of_getElem? (i := 249) rfl, List.forall_mem_cons.mpr ⟨List.mem_of_getElem? (i := 250) rfl, List.forall_mem_cons.mpr ⟨List.mem_of_getElem? (i := 251) rfl, List.forall_mem_cons.mpr ⟨List.mem_of_getElem? (i := 252) rfl, fun _ h => by cases h⟩⟩⟩⟩
def zf_el11 : List (Nat × Nat) := [(11, 0), (11, 1), (11, 2), (11, 3)]
set_option maxRecDepth 40000 in
theorem zf_el11_ok : ∀ q ∈ zf_el11, Cond.eq (.elem (.field (.string (zsO q.1) (zsI q.1)) "java/lang/String" "value" "[B") (.int (Int32.ofNat q.2))) (.int ((zstr.getD q.1 []).getD q.2 0)) ∈ zfl := List.forall_mem_cons.mpr ⟨List.mem_of_getElem? (i := 267) rfl, List.forall_mem_cons.mpr ⟨List.mem_of_getElem? (i := 268) rfl, List.forall_mem_cons.mpr ⟨List.mem_of_getElem? (i := 269) rfl, List.forall_mem_cons.mpr ⟨List.mem_of_getElem? (i := 270) rfl, fun _ h => by cases h⟩⟩⟩⟩
def zf_el12 : List (Nat × Nat) := [(12, 0), (12, 1), (12, 2), (12, 3), (12, 4), (12, 5)]
set_option maxRecDepth 40000 in
theorem zf_el12_ok : ∀ q ∈ zf_el12, Cond.eq (.elem (.field (.string (zsO q.1) (zsI q.1)) "java/lang/String" "value" "[B") (.int (Int32.ofNat q.2))) (.int ((zstr.getD q.1 []).getD q.2 0)) ∈ zfl := List.forall_mem_cons.mpr ⟨List.mem_of_getElem? (i := 286) rfl, List.forall_mem_cons.mpr ⟨List.mem_of_getElem? (i := 287) rfl, List.forall_mem_cons.mpr ⟨List.mem_of_getElem? (i := 288) rfl, List.forall_mem_cons.mpr ⟨List.mem_of_getElem? (i := 289) rfl, List.forall_mem_cons.mpr ⟨List.mem_of_getElem? (i := 290) rfl, List.forall_mem_cons.mpr ⟨List.mem_of_getElem? (i := 291) rfl, fun _ h => by cases h⟩⟩⟩⟩⟩⟩
def zf_el13 : List (Nat × Nat) := [(13, 0), (13, 1), (13, 2)]
set_option maxRecDepth 40000 in
theorem zf_el13_ok : ∀ q ∈ zf_el13, Cond.eq (.elem (.field (.string (zsO q.1) (zsI q.1)) "java/lang/String" "value" "[B") (.int (Int32.ofNat q.2))) (.int ((zstr.getD q.1 []).getD q.2 0)) ∈ zfl := List.forall_mem_cons.mpr ⟨List.mem_of_getElem? (i := 308) rfl, List.forall_mem_cons.mpr ⟨List.mem_of_getElem? (i := 309) rfl, List.forall_mem_cons.mpr ⟨List.mem_of_getElem? (i := 310) rfl, fun _ h => by cases h⟩⟩⟩
def zf_el14 : List (Nat × Nat) := [(14, 0), (14, 1), (14, 2)]
set_option maxRecDepth 40000 in
theorem zf_el14_ok : ∀ q ∈ zf_el14, Cond.eq (.elem (.field (.string (zsO q.1) (zsI q.1)) "java/lang/String" "value" "[B") (.int (Int32.ofNat q.2))) (.int ((zstr.getD q.1 []).getD q.2 0)) ∈ zfl := List.forall_mem_cons.mpr ⟨List.mem_of_getElem? (i := 328) rfl, List.forall_mem_cons.mpr ⟨List.mem_of_getElem? (i := 329) rfl, List.forall_mem_cons.mpr ⟨List.mem_of_getElem? (i := 330) rfl, fun _ h => by cases h⟩⟩⟩
def zf_el15 : List (Nat × Nat) := [(15, 0), (15, 1)]
set_option maxRecDepth 40000 in
theorem zf_el15_ok : ∀ q ∈ zf_el15, Cond.eq (.elem (.field (.string (zsO q.1) (zsI q.1)) "java/lang/String" "value" "[B") (.int (Int32.ofNat q.2))) (.int ((zstr.getD q.1 []).getD q.2 0)) ∈ zfl := List.forall_mem_cons.mpr ⟨List.mem_of_getElem? (i := 349) rfl, List.forall_mem_cons.mpr ⟨List.mem_of_getElem? (i := 350) rfl, fun _ h => by cases h⟩⟩
theorem zf_el : ∀ i, i < 16 → ∀ j, j < (zstr.map List.length).getD i 0 → Cond.eq (.elem (.field (.string (zsO i) (zsI i)) "java/lang/String" "value" "[B") (.int (Int32.ofNat j))) (.int ((zstr.getD i []).getD j 0)) ∈ zfl := by
  intro i hi j hj
  match i, hi with
  | 0, _ => exact zf_el0_ok (0, j) ((by decide +kernel : ∀ j, j < 79 → (0, j) ∈ zf_el0) j hj)
  | 1, _ => exact zf_el1_ok (1, j) ((by decide +kernel : ∀ j, j < 5 → (1, j) ∈ zf_el1) j hj)
  | 2, _ => exact zf_el2_ok (2, j) ((by decide +kernel : ∀ j, j < 5 → (2, j) ∈ zf_el2) j hj)
  | 3, _ => exact zf_el3_ok (3, j) ((by decide +kernel : ∀ j, j < 2 → (3, j) ∈ zf_el3) j hj)
  | 4, _ => exact zf_el4_ok (4, j) ((by decide +kernel : ∀ j, j < 4 → (4, j) ∈ zf_el4) j hj)
  | 5, _ => exact zf_el5_ok (5, j) ((by decide +kernel : ∀ j, j < 7 → (5, j) ∈ zf_el5) j hj)
  | 6, _ => exact zf_el6_ok (6, j) ((by decide +kernel : ∀ j, j < 4 → (6, j) ∈ zf_el6) j hj)
  | 7, _ => exact zf_el7_ok (7, j) ((by decide +kernel : ∀ j, j < 4 → (7, j) ∈ zf_el7) j hj)
  | 8, _ => exact zf_el8_ok (8, j) ((by decide +kernel : ∀ j, j < 7 → (8, j) ∈ zf_el8) j hj)
  | 9, _ => exact zf_el9_ok (9, j) ((by decide +kernel : ∀ j, j < 4 → (9, j) ∈ zf_el9) j hj)
  | 10, _ => exact zf_el10_ok (10, j) ((by decide +kernel : ∀ j, j < 4 → (10, j) ∈ zf_el10) j hj)
  | 11, _ => exact zf_el11_ok (11, j) ((by decide +kernel : ∀ j, j < 4 → (11, j) ∈ zf_el11) j hj)
  | 12, _ => exact zf_el12_ok (12, j) ((by decide +kernel : ∀ j, j < 6 → (12, j) ∈ zf_el12) j hj)
  | 13, _ => exact zf_el13_ok (13, j) ((by decide +kernel : ∀ j, j < 3 → (13, j) ∈ zf_el13) j hj)
  | 14, _ => exact zf_el14_ok (14, j) ((by decide +kernel : ∀ j, j < 3 → (14, j) ∈ zf_el14) j hj)
  | 15, _ => exact zf_el15_ok (15, j) ((by decide +kernel : ∀ j, j < 2 → (15, j) ∈ zf_el15) j hj)
  | n + 16, h => exact absurd h (by omega)
def zf_ne0 : List (Nat × Nat) := [(0, 1), (0, 2), (0, 3), (0, 4), (0, 5), (0, 6), (0, 7), (0, 8), (0, 9), (0, 10), (0, 11), (0, 12), (0, 13), (0, 14), (0, 15)]
set_option maxRecDepth 40000 in
theorem zf_ne0_ok : ∀ q ∈ zf_ne0, Cond.not (Cond.eq (.string (zsO q.1) (zsI q.1)) (.string (zsO q.2) (zsI q.2))) ∈ zfl := List.forall_mem_cons.mpr ⟨List.mem_of_getElem? (i := 131) rfl, List.forall_mem_cons.mpr ⟨List.mem_of_getElem? (i := 141) rfl, List.forall_mem_cons.mpr ⟨List.mem_of_getElem? (i := 149) rfl, List.forall_mem_cons.mpr ⟨List.mem_of_getElem? (i := 160) rfl, List.forall_mem_cons.mpr ⟨List.mem_of_getElem? (i := 175) rfl, List.forall_mem_cons.mpr ⟨List.mem_of_getElem? (i := 188) rfl, List.forall_mem_cons.mpr ⟨List.mem_of_getElem? (i := 202) rfl, List.forall_mem_cons.mpr ⟨List.mem_of_getElem? (i := 220) rfl, List.forall_mem_cons.mpr ⟨List.mem_of_getElem? (i := 236) rfl, List.forall_mem_cons.mpr ⟨List.mem_of_getElem? (i := 253) rfl, List.forall_mem_cons.mpr ⟨List.mem_of_getElem? (i := 271) rfl, List.forall_mem_cons.mpr ⟨List.mem_of_getElem? (i := 292) rfl, List.forall_mem_cons.mpr ⟨List.mem_of_getElem? (i := 311) rfl, List.forall_mem_cons.mpr ⟨List.mem_of_getElem? (i := 331) rfl, List.forall_mem_cons.mpr ⟨List.mem_of_getElem? (i := 351) rfl, fun _ h => by cases h⟩⟩⟩⟩⟩⟩⟩⟩⟩⟩⟩⟩⟩⟩⟩
def zf_ne1 : List (Nat × Nat) := [(1, 2), (1, 3), (1, 4), (1, 5), (1, 6), (1, 7), (1, 8), (1, 9), (1, 10), (1, 11), (1, 12), (1, 13), (1, 14), (1, 15)]
set_option maxRecDepth 40000 in
theorem zf_ne1_ok : ∀ q ∈ zf_ne1, Cond.not (Cond.eq (.string (zsO q.1) (zsI q.1)) (.string (zsO q.2) (zsI q.2))) ∈ zfl := List.forall_mem_cons.mpr ⟨List.mem_of_getElem? (i := 142) rfl, List.forall_mem_cons.mpr ⟨List.mem_of_getElem? (i := 150) rfl, List.forall_mem_cons.mpr ⟨List.mem_of_getElem? (i := 161) rfl, List.forall_mem_cons.mpr ⟨List.mem_of_getElem? (i := 176) rfl, List.forall_mem_cons.mpr ⟨List.mem_of_getElem? (i := 189) rfl, List.forall_mem_cons.mpr ⟨List.mem_of_getElem? (i := 203) rfl, List.forall_mem_cons.mpr ⟨List.mem_of_getElem? (i := 221) rfl, List.forall_mem_cons.mpr ⟨List.mem_of_getElem? (i := 237) rfl, List.forall_mem_cons.mpr ⟨List.mem_of_getElem? (i := 254) rfl, List.forall_mem_cons.mpr ⟨List.mem_of_getElem? (i := 272) rfl, List.forall_mem_cons.mpr ⟨List.mem_of_getElem? (i := 293) rfl, List.forall_mem_cons.mpr ⟨List.mem_of_getElem? (i := 312) rfl, List.forall_mem_cons.mpr ⟨List.mem_of_getElem? (i := 332) rfl, List.forall_mem_cons.mpr ⟨List.mem_of_getElem? (i := 352) rfl, fun _ h => by cases h⟩⟩⟩⟩⟩⟩⟩⟩⟩⟩⟩⟩⟩⟩
def zf_ne2 : List (Nat × Nat) := [(2, 3), (2, 4), (2, 5), (2, 6), (2, 7), (2, 8), (2, 9), (2, 10), (2, 11), (2, 12), (2, 13), (2, 14), (2, 15)]
set_option maxRecDepth 40000 in
theorem zf_ne2_ok : ∀ q ∈ zf_ne2, Cond.not (Cond.eq (.string (zsO q.1) (zsI q.1)) (.string (zsO q.2) (zsI q.2))) ∈ zfl := List.forall_mem_cons.mpr ⟨List.mem_of_getElem? (i := 151) rfl, List.forall_mem_cons.mpr ⟨List.mem_of_getElem? (i := 162) rfl, List.forall_mem_cons.mpr ⟨List.mem_of_getElem? (i := 177) rfl, List.forall_mem_cons.mpr ⟨List.mem_of_getElem? (i := 190) rfl, List.forall_mem_cons.mpr ⟨List.mem_of_getElem? (i := 204) rfl, List.forall_mem_cons.mpr ⟨List.mem_of_getElem? (i := 222) rfl, List.forall_mem_cons.mpr ⟨List.mem_of_getElem? (i := 238) rfl, List.forall_mem_cons.mpr ⟨List.mem_of_getElem? (i := 255) rfl, List.forall_mem_cons.mpr ⟨List.mem_of_getElem? (i := 273) rfl, List.forall_mem_cons.mpr ⟨List.mem_of_getElem? (i := 294) rfl, List.forall_mem_cons.mpr ⟨List.mem_of_getElem? (i := 313) rfl, List.forall_mem_cons.mpr ⟨List.mem_of_getElem? (i := 333) rfl, List.forall_mem_cons.mpr ⟨List.mem_of_getElem? (i := 353) rfl, fun _ h => by cases h⟩⟩⟩⟩⟩⟩⟩⟩⟩⟩⟩⟩⟩
def zf_ne3 : List (Nat × Nat) := [(3, 4), (3, 5), (3, 6), (3, 7), (3, 8), (3, 9), (3, 10), (3, 11), (3, 12), (3, 13), (3, 14), (3, 15)]
set_option maxRecDepth 40000 in
theorem zf_ne3_ok : ∀ q ∈ zf_ne3, Cond.not (Cond.eq (.string (zsO q.1) (zsI q.1)) (.string (zsO q.2) (zsI q.2))) ∈ zfl := List.forall_mem_cons.mpr ⟨List.mem_of_getElem? (i := 163) rfl, List.forall_mem_cons.mpr ⟨List.mem_of_getElem? (i := 178) rfl, List.forall_mem_cons.mpr ⟨List.mem_of_getElem? (i := 191) rfl, List.forall_mem_cons.mpr ⟨List.mem_of_getElem? (i := 205) rfl, List.forall_mem_cons.mpr ⟨List.mem_of_getElem? (i := 223) rfl, List.forall_mem_cons.mpr ⟨List.mem_of_getElem? (i := 239) rfl, List.forall_mem_cons.mpr ⟨List.mem_of_getElem? (i := 256) rfl, List.forall_mem_cons.mpr ⟨List.mem_of_getElem? (i := 274) rfl, List.forall_mem_cons.mpr ⟨List.mem_of_getElem? (i := 295) rfl, List.forall_mem_cons.mpr ⟨List.mem_of_getElem? (i := 314) rfl, List.forall_mem_cons.mpr ⟨List.mem_of_getElem? (i := 334) rfl, List.forall_mem_cons.mpr ⟨List.mem_of_getElem? (i := 354) rfl, fun _ h => by cases h⟩⟩⟩⟩⟩⟩⟩⟩⟩⟩⟩⟩
def zf_ne4 : List (Nat × Nat) := [(4, 5), (4, 6), (4, 7), (4, 8), (4, 9), (4, 10), (4, 11), (4, 12), (4, 13), (4, 14), (4, 15)]
set_option maxRecDepth 40000 in
theorem zf_ne4_ok : ∀ q ∈ zf_ne4, Cond.not (Cond.eq (.string (zsO q.1) (zsI q.1)) (.string (zsO q.2) (zsI q.2))) ∈ zfl := List.forall_mem_cons.mpr ⟨List.mem_of_getElem? (i := 179) rfl, List.forall_mem_cons.mpr ⟨List.mem_of_getElem? (i := 192) rfl, List.forall_mem_cons.mpr ⟨List.mem_of_getElem? (i := 206) rfl, List.forall_mem_cons.mpr ⟨List.mem_of_getElem? (i := 224) rfl, List.forall_mem_cons.mpr ⟨List.mem_of_getElem? (i := 240) rfl, List.forall_mem_cons.mpr ⟨List.mem_of_getElem? (i := 257) rfl, List.forall_mem_cons.mpr ⟨List.mem_of_getElem? (i := 275) rfl, List.forall_mem_cons.mpr ⟨List.mem_of_getElem? (i := 296) rfl, List.forall_mem_cons.mpr ⟨List.mem_of_getElem? (i := 315) rfl, List.forall_mem_cons.mpr ⟨List.mem_of_getElem? (i := 335) rfl, List.forall_mem_cons.mpr ⟨List.mem_of_getElem? (i := 355) rfl, fun _ h => by cases h⟩⟩⟩⟩⟩⟩⟩⟩⟩⟩⟩
def zf_ne5 : List (Nat × Nat) := [(5, 6), (5, 7), (5, 8), (5, 9), (5, 10), (5, 11), (5, 12), (5, 13), (5, 14), (5, 15)]
set_option maxRecDepth 40000 in
theorem zf_ne5_ok : ∀ q ∈ zf_ne5, Cond.not (Cond.eq (.string (zsO q.1) (zsI q.1)) (.string (zsO q.2) (zsI q.2))) ∈ zfl := List.forall_mem_cons.mpr ⟨List.mem_of_getElem? (i := 193) rfl, List.forall_mem_cons.mpr ⟨List.mem_of_getElem? (i := 207) rfl, List.forall_mem_cons.mpr ⟨List.mem_of_getElem? (i := 225) rfl, List.forall_mem_cons.mpr ⟨List.mem_of_getElem? (i := 241) rfl, List.forall_mem_cons.mpr ⟨List.mem_of_getElem? (i := 258) rfl, List.forall_mem_cons.mpr ⟨List.mem_of_getElem? (i := 276) rfl, List.forall_mem_cons.mpr ⟨List.mem_of_getElem? (i := 297) rfl, List.forall_mem_cons.mpr ⟨List.mem_of_getElem? (i := 316) rfl, List.forall_mem_cons.mpr ⟨List.mem_of_getElem? (i := 336) rfl, List.forall_mem_cons.mpr ⟨List.mem_of_getElem? (i := 356) rfl, fun _ h => by cases h⟩⟩⟩⟩⟩⟩⟩⟩⟩⟩
def zf_ne6 : List (Nat × Nat) := [(6, 7), (6, 8), (6, 9), (6, 10), (6, 11), (6, 12), (6, 13), (6, 14), (6, 15)]
set_option maxRecDepth 40000 in
theorem zf_ne6_ok : ∀ q ∈ zf_ne6, Cond.not (Cond.eq (.string (zsO q.1) (zsI q.1)) (.string (zsO q.2) (zsI q.2))) ∈ zfl := List.forall_mem_cons.mpr ⟨List.mem_of_getElem? (i := 208) rfl, List.forall_mem_cons.mpr ⟨List.mem_of_getElem? (i := 226) rfl, List.forall_mem_cons.mpr ⟨List.mem_of_getElem? (i := 242) rfl, List.forall_mem_cons.mpr ⟨List.mem_of_getElem? (i := 259) rfl, List.forall_mem_cons.mpr ⟨List.mem_of_getElem? (i := 277) rfl, List.forall_mem_cons.mpr ⟨List.mem_of_getElem? (i := 298) rfl, List.forall_mem_cons.mpr ⟨List.mem_of_getElem? (i := 317) rfl, List.forall_mem_cons.mpr ⟨List.mem_of_getElem? (i := 337) rfl, List.forall_mem_cons.mpr ⟨List.mem_of_getElem? (i := 357) rfl, fun _ h => by cases h⟩⟩⟩⟩⟩⟩⟩⟩⟩
def zf_ne7 : List (Nat × Nat) := [(7, 8), (7, 9), (7, 10), (7, 11), (7, 12), (7, 13), (7, 14), (7, 15)]
set_option maxRecDepth 40000 in
theorem zf_ne7_ok : ∀ q ∈ zf_ne7, Cond.not (Cond.eq (.string (zsO q.1) (zsI q.1)) (.string (zsO q.2) (zsI q.2))) ∈ zfl := List.forall_mem_cons.mpr ⟨List.mem_of_getElem? (i := 227) rfl, List.forall_mem_cons.mpr ⟨List.mem_of_getElem? (i := 243) rfl, List.forall_mem_cons.mpr ⟨List.mem_of_getElem? (i := 260) rfl, List.forall_mem_cons.mpr ⟨List.mem_of_getElem? (i := 278) rfl, List.forall_mem_cons.mpr ⟨List.mem_of_getElem? (i := 299) rfl, List.forall_mem_cons.mpr ⟨List.mem_of_getElem? (i := 318) rfl, List.forall_mem_cons.mpr ⟨List.mem_of_getElem? (i := 338) rfl, List.forall_mem_cons.mpr ⟨List.mem_of_getElem? (i := 358) rfl, fun _ h => by cases h⟩⟩⟩⟩⟩⟩⟩⟩
def zf_ne8 : List (Nat × Nat) := [(8, 9), (8, 10), (8, 11), (8, 12), (8, 13), (8, 14), (8, 15)]
set_option maxRecDepth 40000 in
theorem zf_ne8_ok : ∀ q ∈ zf_ne8, Cond.not (Cond.eq (.string (zsO q.1) (zsI q.1)) (.string (zsO q.2) (zsI q.2))) ∈ zfl := List.forall_mem_cons.mpr ⟨List.mem_of_getElem? (i := 244) rfl, List.forall_mem_cons.mpr ⟨List.mem_of_getElem? (i := 261) rfl, List.forall_mem_cons.mpr ⟨List.mem_of_getElem? (i := 279) rfl, List.forall_mem_cons.mpr ⟨List.mem_of_getElem? (i := 300) rfl, List.forall_mem_cons.mpr ⟨List.mem_of_getElem? (i := 319) rfl, List.forall_mem_cons.mpr ⟨List.mem_of_getElem? (i := 339) rfl, List.forall_mem_cons.mpr ⟨List.mem_of_getElem? (i := 359) rfl, fun _ h => by cases h⟩⟩⟩⟩⟩⟩⟩
def zf_ne9 : List (Nat × Nat) := [(9, 10), (9, 11), (9, 12), (9, 13), (9, 14), (9, 15)]
set_option maxRecDepth 40000 in
theorem zf_ne9_ok : ∀ q ∈ zf_ne9, Cond.not (Cond.eq (.string (zsO q.1) (zsI q.1)) (.string (zsO q.2) (zsI q.2))) ∈ zfl := List.forall_mem_cons.mpr ⟨List.mem_of_getElem? (i := 262) rfl, List.forall_mem_cons.mpr ⟨List.mem_of_getElem? (i := 280) rfl, List.forall_mem_cons.mpr ⟨List.mem_of_getElem? (i := 301) rfl, List.forall_mem_cons.mpr ⟨List.mem_of_getElem? (i := 320) rfl, List.forall_mem_cons.mpr ⟨List.mem_of_getElem? (i := 340) rfl, List.forall_mem_cons.mpr ⟨List.mem_of_getElem? (i := 360) rfl, fun _ h => by cases h⟩⟩⟩⟩⟩⟩
def zf_ne10 : List (Nat × Nat) := [(10, 11), (10, 12), (10, 13), (10, 14), (10, 15)]
set_option maxRecDepth 40000 in
theorem zf_ne10_ok : ∀ q ∈ zf_ne10, Cond.not (Cond.eq (.string (zsO q.1) (zsI q.1)) (.string (zsO q.2) (zsI q.2))) ∈ zfl := List.forall_mem_cons.mpr ⟨List.mem_of_getElem? (i := 281) rfl, List.forall_mem_cons.mpr ⟨List.mem_of_getElem? (i := 302) rfl, List.forall_mem_cons.mpr ⟨List.mem_of_getElem? (i := 321) rfl, List.forall_mem_cons.mpr ⟨List.mem_of_getElem? (i := 341) rfl, List.forall_mem_cons.mpr ⟨List.mem_of_getElem? (i := 361) rfl, fun _ h => by cases h⟩⟩⟩⟩⟩
def zf_ne11 : List (Nat × Nat) := [(11, 12), (11, 13), (11, 14), (11, 15)]
set_option maxRecDepth 40000 in
theorem zf_ne11_ok : ∀ q ∈ zf_ne11, Cond.not (Cond.eq (.string (zsO q.1) (zsI q.1)) (.string (zsO q.2) (zsI q.2))) ∈ zfl := List.forall_mem_cons.mpr ⟨List.mem_of_getElem? (i := 303) rfl, List.forall_mem_cons.mpr ⟨List.mem_of_getElem? (i := 322) rfl, List.forall_mem_cons.mpr ⟨List.mem_of_getElem? (i := 342) rfl, List.forall_mem_cons.mpr ⟨List.mem_of_getElem? (i := 362) rfl, fun _ h => by cases h⟩⟩⟩⟩
def zf_ne12 : List (Nat × Nat) := [(12, 13), (12, 14), (12, 15)]
set_option maxRecDepth 40000 in
theorem zf_ne12_ok : ∀ q ∈ zf_ne12, Cond.not (Cond.eq (.string (zsO q.1) (zsI q.1)) (.string (zsO q.2) (zsI q.2))) ∈ zfl := List.forall_mem_cons.mpr ⟨List.mem_of_getElem? (i := 323) rfl, List.forall_mem_cons.mpr ⟨List.mem_of_getElem? (i := 343) rfl, List.forall_mem_cons.mpr ⟨List.mem_of_getElem? (i := 363) rfl, fun _ h => by cases h⟩⟩⟩
def zf_ne13 : List (Nat × Nat) := [(13, 14), (13, 15)]
set_option maxRecDepth 40000 in
theorem zf_ne13_ok : ∀ q ∈ zf_ne13, Cond.not (Cond.eq (.string (zsO q.1) (zsI q.1)) (.string (zsO q.2) (zsI q.2))) ∈ zfl := List.forall_mem_cons.mpr ⟨List.mem_of_getElem? (i := 344) rfl, List.forall_mem_cons.mpr ⟨List.mem_of_getElem? (i := 364) rfl, fun _ h => by cases h⟩⟩
def zf_ne14 : List (Nat × Nat) := [(14, 15)]
set_option maxRecDepth 40000 in
theorem zf_ne14_ok : ∀ q ∈ zf_ne14, Cond.not (Cond.eq (.string (zsO q.1) (zsI q.1)) (.string (zsO q.2) (zsI q.2))) ∈ zfl := List.forall_mem_cons.mpr ⟨List.mem_of_getElem? (i := 365) rfl, fun _ h => by cases h⟩
theorem zf_ne : ∀ i, i < 16 → ∀ j, i < j → j < 16 → Cond.not (Cond.eq (.string (zsO i) (zsI i)) (.string (zsO j) (zsI j))) ∈ zfl := by
  intro i hi j hij hj
  match i, hi with
  | 0, _ => exact zf_ne0_ok (0, j) ((by decide +kernel : ∀ j, j < 16 → 0 < j → (0, j) ∈ zf_ne0) j hj hij)
  | 1, _ => exact zf_ne1_ok (1, j) ((by decide +kernel : ∀ j, j < 16 → 1 < j → (1, j) ∈ zf_ne1) j hj hij)
  | 2, _ => exact zf_ne2_ok (2, j) ((by decide +kernel : ∀ j, j < 16 → 2 < j → (2, j) ∈ zf_ne2) j hj hij)
  | 3, _ => exact zf_ne3_ok (3, j) ((by decide +kernel : ∀ j, j < 16 → 3 < j → (3, j) ∈ zf_ne3) j hj hij)
  | 4, _ => exact zf_ne4_ok (4, j) ((by decide +kernel : ∀ j, j < 16 → 4 < j → (4, j) ∈ zf_ne4) j hj hij)
  | 5, _ => exact zf_ne5_ok (5, j) ((by decide +kernel : ∀ j, j < 16 → 5 < j → (5, j) ∈ zf_ne5) j hj hij)
  | 6, _ => exact zf_ne6_ok (6, j) ((by decide +kernel : ∀ j, j < 16 → 6 < j → (6, j) ∈ zf_ne6) j hj hij)
  | 7, _ => exact zf_ne7_ok (7, j) ((by decide +kernel : ∀ j, j < 16 → 7 < j → (7, j) ∈ zf_ne7) j hj hij)
  | 8, _ => exact zf_ne8_ok (8, j) ((by decide +kernel : ∀ j, j < 16 → 8 < j → (8, j) ∈ zf_ne8) j hj hij)
  | 9, _ => exact zf_ne9_ok (9, j) ((by decide +kernel : ∀ j, j < 16 → 9 < j → (9, j) ∈ zf_ne9) j hj hij)
  | 10, _ => exact zf_ne10_ok (10, j) ((by decide +kernel : ∀ j, j < 16 → 10 < j → (10, j) ∈ zf_ne10) j hj hij)
  | 11, _ => exact zf_ne11_ok (11, j) ((by decide +kernel : ∀ j, j < 16 → 11 < j → (11, j) ∈ zf_ne11) j hj hij)
  | 12, _ => exact zf_ne12_ok (12, j) ((by decide +kernel : ∀ j, j < 16 → 12 < j → (12, j) ∈ zf_ne12) j hj hij)
  | 13, _ => exact zf_ne13_ok (13, j) ((by decide +kernel : ∀ j, j < 16 → 13 < j → (13, j) ∈ zf_ne13) j hj hij)
  | 14, _ => exact zf_ne14_ok (14, j) ((by decide +kernel : ∀ j, j < 16 → 14 < j → (14, j) ∈ zf_ne14) j hj hij)
  | n + 15, h => exact absurd hij (by omega)
set_option maxRecDepth 40000 in
theorem zf_us : Cond.isRef (.static "java/lang/Throwable" "UNASSIGNED_STACK" "[Ljava/lang/StackTraceElement;") ∈ zfl := List.mem_of_getElem? (i := 4) rfl
set_option maxRecDepth 40000 in
theorem zf_ss : Cond.isRef (.static "java/lang/Throwable" "SUPPRESSED_SENTINEL" "Ljava/util/List;") ∈ zfl := List.mem_of_getElem? (i := 5) rfl
set_option maxRecDepth 40000 in
theorem zf_cs : Cond.eq (.static "java/lang/String" "COMPACT_STRINGS" "Z") (.int 1) ∈ zfl := List.mem_of_getElem? (i := 6) rfl
set_option maxRecDepth 40000 in
theorem zf_sf : Cond.isRef (.static "jdk/internal/util/Preconditions" "SIOOBE_FORMATTER" "Ljava/util/function/BiFunction;") ∈ zfl := List.mem_of_getElem? (i := 7) rfl
set_option maxRecDepth 40000 in
theorem zf_nc : Cond.not (Cond.castable "java/lang/IllegalArgumentException" "java/util/NoSuchElementException") ∈ zfl := List.mem_of_getElem? (i := 24) rfl
set_option maxRecDepth 40000 in
theorem zl_aot : Cond.arrayOver (.object "TollTags$Tariff") ∈ lw_tbl := ztb_1 _ (List.mem_of_getElem? (i := 146) rfl)
set_option maxRecDepth 40000 in
theorem zl_aos : Cond.arrayOver (.object "java/lang/String") ∈ lw_tbl := ztb_6 _ (List.mem_of_getElem? (i := 56) rfl)
set_option maxRecDepth 40000 in
theorem zl_us : Cond.laysStatic "java/lang/Throwable" "UNASSIGNED_STACK" "[Ljava/lang/StackTraceElement;" ∈ lw_tbl := ztb_3 _ (List.mem_of_getElem? (i := 107) rfl)
set_option maxRecDepth 40000 in
theorem zl_ss : Cond.laysStatic "java/lang/Throwable" "SUPPRESSED_SENTINEL" "Ljava/util/List;" ∈ lw_tbl := ztb_3 _ (List.mem_of_getElem? (i := 109) rfl)
set_option maxRecDepth 40000 in
theorem zl_cs : Cond.laysStatic "java/lang/String" "COMPACT_STRINGS" "Z" ∈ lw_tbl := ztb_4 _ (List.mem_of_getElem? (i := 63) rfl)
set_option maxRecDepth 40000 in
theorem zl_sf : Cond.laysStatic "jdk/internal/util/Preconditions" "SIOOBE_FORMATTER" "Ljava/util/function/BiFunction;" ∈ lw_tbl := ztb_4 _ (List.mem_of_getElem? (i := 79) rfl)
set_option maxRecDepth 40000 in
theorem zl_inT : Cond.initialized "java/lang/Throwable" ∈ lw_tbl := ztb_1 _ (List.mem_of_getElem? (i := 15) rfl)
set_option maxRecDepth 40000 in
theorem zl_inS : Cond.initialized "java/lang/String" ∈ lw_tbl := ztb_1 _ (List.mem_of_getElem? (i := 21) rfl)
set_option maxRecDepth 40000 in
theorem zl_inP : Cond.initialized "jdk/internal/util/Preconditions" ∈ lw_tbl := ztb_1 _ (List.mem_of_getElem? (i := 23) rfl)
set_option maxRecDepth 40000 in
theorem zl_r0 : Cond.stringRef (zsO 0) (zsI 0) (zsT 0) ∈ lw_tbl := ztb_4 _ (List.mem_of_getElem? (i := 53) rfl)
set_option maxRecDepth 40000 in
theorem zl_r1 : Cond.stringRef (zsO 1) (zsI 1) (zsT 1) ∈ lw_tbl := ztb_6 _ (List.mem_of_getElem? (i := 57) rfl)
set_option maxRecDepth 40000 in
theorem zl_r2 : Cond.stringRef (zsO 2) (zsI 2) (zsT 2) ∈ lw_tbl := ztb_6 _ (List.mem_of_getElem? (i := 58) rfl)
set_option maxRecDepth 40000 in
theorem zl_r3 : Cond.stringRef (zsO 3) (zsI 3) (zsT 3) ∈ lw_tbl := ztb_6 _ (List.mem_of_getElem? (i := 59) rfl)
set_option maxRecDepth 40000 in
theorem zl_r4 : Cond.stringRef (zsO 4) (zsI 4) (zsT 4) ∈ lw_tbl := ztb_6 _ (List.mem_of_getElem? (i := 60) rfl)
set_option maxRecDepth 40000 in
theorem zl_r5 : Cond.stringRef (zsO 5) (zsI 5) (zsT 5) ∈ lw_tbl := ztb_6 _ (List.mem_of_getElem? (i := 61) rfl)
set_option maxRecDepth 40000 in
theorem zl_r6 : Cond.stringRef (zsO 6) (zsI 6) (zsT 6) ∈ lw_tbl := ztb_6 _ (List.mem_of_getElem? (i := 62) rfl)
set_option maxRecDepth 40000 in
theorem zl_r7 : Cond.stringRef (zsO 7) (zsI 7) (zsT 7) ∈ lw_tbl := ztb_6 _ (List.mem_of_getElem? (i := 63) rfl)
set_option maxRecDepth 40000 in
theorem zl_r8 : Cond.stringRef (zsO 8) (zsI 8) (zsT 8) ∈ lw_tbl := ztb_6 _ (List.mem_of_getElem? (i := 64) rfl)
set_option maxRecDepth 40000 in
theorem zl_r9 : Cond.stringRef (zsO 9) (zsI 9) (zsT 9) ∈ lw_tbl := ztb_7 _ (List.mem_of_getElem? (i := 195) rfl)
set_option maxRecDepth 40000 in
theorem zl_r10 : Cond.stringRef (zsO 10) (zsI 10) (zsT 10) ∈ lw_tbl := ztb_7 _ (List.mem_of_getElem? (i := 202) rfl)
set_option maxRecDepth 40000 in
theorem zl_r11 : Cond.stringRef (zsO 11) (zsI 11) (zsT 11) ∈ lw_tbl := ztb_7 _ (List.mem_of_getElem? (i := 203) rfl)
set_option maxRecDepth 40000 in
theorem zl_r12 : Cond.stringRef (zsO 12) (zsI 12) (zsT 12) ∈ lw_tbl := ztb_7 _ (List.mem_of_getElem? (i := 204) rfl)
set_option maxRecDepth 40000 in
theorem zl_r13 : Cond.stringRef (zsO 13) (zsI 13) (zsT 13) ∈ lw_tbl := ztb_7 _ (List.mem_of_getElem? (i := 225) rfl)
set_option maxRecDepth 40000 in
theorem zl_r14 : Cond.stringRef (zsO 14) (zsI 14) (zsT 14) ∈ lw_tbl := ztb_8 _ (List.mem_of_getElem? (i := 14) rfl)
set_option maxRecDepth 40000 in
theorem zl_r15 : Cond.stringRef (zsO 15) (zsI 15) (zsT 15) ∈ lw_tbl := ztb_8 _ (List.mem_of_getElem? (i := 15) rfl)
theorem zl_r : ∀ i, i < 16 → Cond.stringRef (zsO i) (zsI i) (zsT i) ∈ lw_tbl := by
  intro i hi
  match i, hi with
  | 0, _ => exact zl_r0
  | 1, _ => exact zl_r1
  | 2, _ => exact zl_r2
  | 3, _ => exact zl_r3
  | 4, _ => exact zl_r4
  | 5, _ => exact zl_r5
  | 6, _ => exact zl_r6
  | 7, _ => exact zl_r7
  | 8, _ => exact zl_r8
  | 9, _ => exact zl_r9
  | 10, _ => exact zl_r10
  | 11, _ => exact zl_r11
  | 12, _ => exact zl_r12
  | 13, _ => exact zl_r13
  | 14, _ => exact zl_r14
  | 15, _ => exact zl_r15
  | n + 16, h => exact absurd h (by omega)
theorem zX_start {p : Program} {s : State} {m : MethodId} {meth : Method} {c : Code} {b L : Nat} {xs : Nat → Int32} (C0 : lw_At p s m meth c b L xs) : ∃ X : Nat → Nat, zX s (fun q => s.heap.size ≤ q) X ∧ X 99 = b := by
  obtain ⟨hx, hb, hr, hml, hown, hts, hsc, hbl, hlocks, hgv, hname⟩ := C0
  have hs : ∀ w ∈ zfl, w.before #[Value.ref b] s = true := flat_of_before _ hgv
  have hA : ∀ a : Nat, a < s.heap.size → ¬ s.heap.size ≤ a := fun a h => by omega
  have i16 : ∀ i : Nat, i < 16 → i ∈ zf_ex := by decide +kernel
  obtain ⟨adK, adV, h1, h2⟩ := vk_Sof (args := #[Value.ref b]) (s := s) (N := 16) (tm := fun i => .string (zsO i) (zsI i)) (len := zstr.map List.length) (byt := zstr) (A := fun q => s.heap.size ≤ q) (by decide +kernel)
    (fun i hi => hs _ (zf_ex_ok i (i16 i hi))) (fun i hi => hs _ (zf_co_ok i (i16 i hi))) (fun i hi => hs _ (zf_ar_ok i (i16 i hi))) (fun i hi => hs _ (zf_le_ok i (i16 i hi))) (fun i hi j hj => hs _ (zf_el i hi j hj))
    (fun i j hi hj hij => by
      rcases Nat.lt_or_gt_of_ne hij with h | h
      · exact Or.inl (hs _ (zf_ne i hi j h hj))
      · exact Or.inr (hs _ (zf_ne j hj i h hi))) hA
  have hXe : ∀ i, i < 16 → (fun i => if i = 99 then b else adK i) i = adK i := fun i hi => if_neg (by omega)
  refine ⟨fun i => if i = 99 then b else adK i, ⟨adV, fun j hj => ?_, ⟨fun i hi => ?_, fun i j hi hj e => ?_⟩, va_AO.of (hts _ zl_aot), va_AO.of (hts _ zl_aos), vx_Zqof (hts _ zl_us) (hts _ zl_inT) (hs _ zf_us) hA, vx_Zqof (hts _ zl_ss) (hts _ zl_inT) (hs _ zf_ss) hA, va_Nc.of (hs _ zf_nc), va_Zof (hts _ zl_cs) (hts _ zl_inS) (va_eqt (hs _ zf_cs)) hA, va_Zqof (hts _ zl_sf) (hts _ zl_inP) (hs _ zf_sf) hA⟩, if_pos rfl⟩
  · rw [hXe j hj]
    exact vk_R.of (hts _ (zl_r j hj)) (h2 j hj)
  · have e1 := hXe i hi
    dsimp only at e1 ⊢
    rw [e1]
    exact h1.1 i hi
  · have e1 := hXe i hi
    have e2 := hXe j hj
    dsimp only at e1 e2 e
    rw [e1, e2] at e
    exact h1.2 i j hi hj e
/-- what is left: the core machine answers true, within the room -/
def zGoal : Prop := ∀ (xs : Nat → Int32) (L : Nat), L ≤ 3584 → ∃ (d : Nat) (h' : AH), d ≤ 60 ∧ zev xs L (d + 1) 239 [.float 99] zh0 = some (.inr (some (.int 1)), h') ∧ hc h' ≤ 601024 ∧ hs h' ≤ 7293034
theorem start_of (hG : zGoal) {p : Program} {e : Env} {s : State} {m : MethodId} {below : List Frame} {meth : Method} {c : Code} (l : Launch) (hflags : l.flags = flags0) {b L : Nat} {xs : Nat → Int32} (hL : L ≤ 3584) (C0 : lw_At p s m meth c b L xs) : W p l e room_1 s m #[Value.ref b] below meth c s.heap [] 0 0 (lw_Z below #[Value.ref b] s) (entryFrame m ([Value.ref b] : List Value).toArray 8) := by
  obtain ⟨d, h', hd, hz, gc, gs⟩ := hG xs L hL
  obtain ⟨X, hX, hb⟩ := zX_start C0
  have hT : l.stackTraces = false := by
    first | (show l.flags.stackTraces = false; rw [hflags]; rfl) | (rw [Launch.stackTraces, hflags]; rfl) | (simp [Launch.stackTraces, hflags, flags0]; done) | (have h0 := congrArg (fun f => f.stackTraces) hflags; exact h0)
  exact law_core l hT C0 hX hb hd hz gc gs
