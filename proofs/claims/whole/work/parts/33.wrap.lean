/-! THE PURE PART: the law's wrappers. Written by program (wip/whole/mk33.py). -/
theorem zix_iff {t n tag : Nat} {i : Int32} : zix t n tag i ↔ t = tag ∧ 0 ≤ i.toInt ∧ i.toInt < n := by
  constructor
  · intro h
    refine ⟨h.1, ?_, ?_⟩
    · have h1 : ¬ i < 0 := fun z => h.2 (Or.inl z)
      rw [i32_lt, i32_0] at h1
      omega
    · have h2 : ¬ n ≤ i.toNatClampNeg := fun z => h.2 (Or.inr z)
      have e : i.toNatClampNeg = i.toInt.toNat := rfl
      omega
  · intro h
    exact zix_of h.1 h.2.1 h.2.2
theorem w214_ok (xs : Nat → Int32) (L d : Nat) (I : Nat → Nat → Int32) (J : Nat → Nat → Int64) (X : XH) (a1 : Int32) (a2 : Int32) (a3 : Int32) (a4 : Int32) (a5 : Int32) (a6 : Int32) (I1 : Nat → Nat → Int32) (J1 : Nat → Nat → Int64) (X1 : XH) (v : Int32) (h : zev xs L (d + 5) 109 [.ref 0, .int a1, .int a2, .int a3, .int a4, .int a5, .int a6] (zmk I J X) = some (.inr (some (.int v)), zmk I1 J1 X1)) : zev xs L (d + 6) 214 [.ref 0, .int a1, .int a2, .int a3, .int a4, .int a5, .int a6, .ref 122] (zmk I J X) = some (.inr (some (.int 0)), zmk I1 (zup J1 122 0 v.toInt64) X1) := by
  refine (zcS (S214_0 xs L d I J X _ _ _ _ _ _)).trans ?_
  rw [h, zci_i, T214_0_10_690, if_pos (by decide)]
  rfl
theorem w214_x0 (xs : Nat → Int32) (L d : Nat) (I : Nat → Nat → Int32) (J : Nat → Nat → Int64) (X : XH) (a1 : Int32) (a2 : Int32) (a3 : Int32) (a4 : Int32) (a5 : Int32) (a6 : Int32) (I1 : Nat → Nat → Int32) (J1 : Nat → Nat → Int64) (X1 : XH) (h : zev xs L (d + 5) 109 [.ref 0, .int a1, .int a2, .int a3, .int a4, .int a5, .int a6] (zmk I J X) = some (.inl 0, zmk I1 J1 X1)) : zev xs L (d + 6) 214 [.ref 0, .int a1, .int a2, .int a3, .int a4, .int a5, .int a6, .ref 122] (zmk I J X) = some (.inr (some (.int 1)), zmk I1 J1 X1) := by
  refine (zcS (S214_0 xs L d I J X _ _ _ _ _ _)).trans ?_
  rw [h, zci_x]
  rfl
theorem w215_ok (xs : Nat → Int32) (L d : Nat) (I : Nat → Nat → Int32) (J : Nat → Nat → Int64) (X : XH) (a1 : Int32) (a2 : Int32) (I1 : Nat → Nat → Int32) (J1 : Nat → Nat → Int64) (X1 : XH) (v : Int32) (h : zev xs L (d + 5) 112 [.ref 0, .int a1, .int a2] (zmk I J X) = some (.inr (some (.int v)), zmk I1 J1 X1)) : zev xs L (d + 6) 215 [.ref 0, .int a1, .int a2, .ref 122] (zmk I J X) = some (.inr (some (.int 0)), zmk I1 (zup J1 122 0 v.toInt64) X1) := by
  refine (zcS (S215_0 xs L d I J X _ _)).trans ?_
  rw [h, zci_i, T215_0_6_694, if_pos (by decide)]
  rfl
theorem w215_x0 (xs : Nat → Int32) (L d : Nat) (I : Nat → Nat → Int32) (J : Nat → Nat → Int64) (X : XH) (a1 : Int32) (a2 : Int32) (I1 : Nat → Nat → Int32) (J1 : Nat → Nat → Int64) (X1 : XH) (h : zev xs L (d + 5) 112 [.ref 0, .int a1, .int a2] (zmk I J X) = some (.inl 0, zmk I1 J1 X1)) : zev xs L (d + 6) 215 [.ref 0, .int a1, .int a2, .ref 122] (zmk I J X) = some (.inr (some (.int 1)), zmk I1 J1 X1) := by
  refine (zcS (S215_0 xs L d I J X _ _)).trans ?_
  rw [h, zci_x]
  rfl
theorem w216_ok (xs : Nat → Int32) (L d : Nat) (I : Nat → Nat → Int32) (J : Nat → Nat → Int64) (X : XH) (a1 : Int32) (I1 : Nat → Nat → Int32) (J1 : Nat → Nat → Int64) (X1 : XH) (v : Int32) (h : zev xs L (d + 5) 113 [.ref 0, .int a1] (zmk I J X) = some (.inr (some (.int v)), zmk I1 J1 X1)) : zev xs L (d + 6) 216 [.ref 0, .int a1, .ref 122] (zmk I J X) = some (.inr (some (.int 0)), zmk I1 (zup J1 122 0 v.toInt64) X1) := by
  refine (zcS (S216_0 xs L d I J X _)).trans ?_
  rw [h, zci_i, T216_0_5_695, if_pos (by decide)]
  rfl
theorem w216_x1 (xs : Nat → Int32) (L d : Nat) (I : Nat → Nat → Int32) (J : Nat → Nat → Int64) (X : XH) (a1 : Int32) (I1 : Nat → Nat → Int32) (J1 : Nat → Nat → Int64) (X1 : XH) (h : zev xs L (d + 5) 113 [.ref 0, .int a1] (zmk I J X) = some (.inl 1, zmk I1 J1 X1)) : zev xs L (d + 6) 216 [.ref 0, .int a1, .ref 122] (zmk I J X) = some (.inr (some (.int 1)), zmk I1 J1 X1) := by
  refine (zcS (S216_0 xs L d I J X _)).trans ?_
  rw [h, zci_x]
  rfl
theorem w217_ok (xs : Nat → Int32) (L d : Nat) (I : Nat → Nat → Int32) (J : Nat → Nat → Int64) (X : XH) (a1 : Int32) (a2 : Int32) (a3 : Int32) (I1 : Nat → Nat → Int32) (J1 : Nat → Nat → Int64) (X1 : XH) (v : Int32) (h : zev xs L (d + 5) 114 [.ref 0, .int a1, .int a2, .int a3] (zmk I J X) = some (.inr (some (.int v)), zmk I1 J1 X1)) : zev xs L (d + 6) 217 [.ref 0, .int a1, .int a2, .int a3, .ref 122] (zmk I J X) = some (.inr (some (.int 0)), zmk I1 (zup J1 122 0 v.toInt64) X1) := by
  refine (zcS (S217_0 xs L d I J X _ _ _)).trans ?_
  rw [h, zci_i, T217_0_7_693, if_pos (by decide)]
  rfl
theorem w217_x0 (xs : Nat → Int32) (L d : Nat) (I : Nat → Nat → Int32) (J : Nat → Nat → Int64) (X : XH) (a1 : Int32) (a2 : Int32) (a3 : Int32) (I1 : Nat → Nat → Int32) (J1 : Nat → Nat → Int64) (X1 : XH) (h : zev xs L (d + 5) 114 [.ref 0, .int a1, .int a2, .int a3] (zmk I J X) = some (.inl 0, zmk I1 J1 X1)) : zev xs L (d + 6) 217 [.ref 0, .int a1, .int a2, .int a3, .ref 122] (zmk I J X) = some (.inr (some (.int 1)), zmk I1 J1 X1) := by
  refine (zcS (S217_0 xs L d I J X _ _ _)).trans ?_
  rw [h, zci_x]
  rfl
theorem w218_ok (xs : Nat → Int32) (L d : Nat) (I : Nat → Nat → Int32) (J : Nat → Nat → Int64) (X : XH) (a1 : Int32) (I1 : Nat → Nat → Int32) (J1 : Nat → Nat → Int64) (X1 : XH) (v : Int32) (h : zev xs L (d + 5) 115 [.ref 0, .int a1] (zmk I J X) = some (.inr (some (.int v)), zmk I1 J1 X1)) : zev xs L (d + 6) 218 [.ref 0, .int a1, .ref 122] (zmk I J X) = some (.inr (some (.int 0)), zmk I1 (zup J1 122 0 (if v = 0 then Int64.ofNat 0 else Int64.ofNat 1)) X1) := by
  refine (zcS (S218_0 xs L d I J X _)).trans ?_
  rw [h, zci_i, T218_0_5_695]
  by_cases c : v = 0
  · rw [if_pos (decide_eq_true c), if_pos (by decide), if_pos c]
    rfl
  · rw [if_neg (fun z => c (of_decide_eq_true z)), if_pos (by decide), if_neg c]
    rfl
theorem w218_x0 (xs : Nat → Int32) (L d : Nat) (I : Nat → Nat → Int32) (J : Nat → Nat → Int64) (X : XH) (a1 : Int32) (I1 : Nat → Nat → Int32) (J1 : Nat → Nat → Int64) (X1 : XH) (h : zev xs L (d + 5) 115 [.ref 0, .int a1] (zmk I J X) = some (.inl 0, zmk I1 J1 X1)) : zev xs L (d + 6) 218 [.ref 0, .int a1, .ref 122] (zmk I J X) = some (.inr (some (.int 1)), zmk I1 J1 X1) := by
  refine (zcS (S218_0 xs L d I J X _)).trans ?_
  rw [h, zci_x]
  rfl
theorem w219_ok (xs : Nat → Int32) (L d : Nat) (I : Nat → Nat → Int32) (J : Nat → Nat → Int64) (X : XH) (a1 : Int32) (I1 : Nat → Nat → Int32) (J1 : Nat → Nat → Int64) (X1 : XH) (v : Int32) (h : zev xs L (d + 5) 116 [.ref 0, .int a1] (zmk I J X) = some (.inr (some (.int v)), zmk I1 J1 X1)) : zev xs L (d + 6) 219 [.ref 0, .int a1, .ref 122] (zmk I J X) = some (.inr (some (.int 0)), zmk I1 (zup J1 122 0 v.toInt64) X1) := by
  refine (zcS (S219_0 xs L d I J X _)).trans ?_
  rw [h, zci_i, T219_0_5_695, if_pos (by decide)]
  rfl
theorem w219_x0 (xs : Nat → Int32) (L d : Nat) (I : Nat → Nat → Int32) (J : Nat → Nat → Int64) (X : XH) (a1 : Int32) (I1 : Nat → Nat → Int32) (J1 : Nat → Nat → Int64) (X1 : XH) (h : zev xs L (d + 5) 116 [.ref 0, .int a1] (zmk I J X) = some (.inl 0, zmk I1 J1 X1)) : zev xs L (d + 6) 219 [.ref 0, .int a1, .ref 122] (zmk I J X) = some (.inr (some (.int 1)), zmk I1 J1 X1) := by
  refine (zcS (S219_0 xs L d I J X _)).trans ?_
  rw [h, zci_x]
  rfl
theorem w220_ok (xs : Nat → Int32) (L d : Nat) (I : Nat → Nat → Int32) (J : Nat → Nat → Int64) (X : XH) (a1 : Int32) (a2 : Int32) (a3 : Int32) (I1 : Nat → Nat → Int32) (J1 : Nat → Nat → Int64) (X1 : XH) (v : Int32) (h : zev xs L (d + 5) 117 [.ref 0, .int a1, .int a2, .int a3] (zmk I J X) = some (.inr (some (.int v)), zmk I1 J1 X1)) : zev xs L (d + 6) 220 [.ref 0, .int a1, .int a2, .int a3, .ref 122] (zmk I J X) = some (.inr (some (.int 0)), zmk I1 (zup J1 122 0 (if v = 0 then Int64.ofNat 0 else Int64.ofNat 1)) X1) := by
  refine (zcS (S220_0 xs L d I J X _ _ _)).trans ?_
  rw [h, zci_i, T220_0_7_693]
  by_cases c : v = 0
  · rw [if_pos (decide_eq_true c), if_pos (by decide), if_pos c]
    rfl
  · rw [if_neg (fun z => c (of_decide_eq_true z)), if_pos (by decide), if_neg c]
    rfl
theorem w220_x0 (xs : Nat → Int32) (L d : Nat) (I : Nat → Nat → Int32) (J : Nat → Nat → Int64) (X : XH) (a1 : Int32) (a2 : Int32) (a3 : Int32) (I1 : Nat → Nat → Int32) (J1 : Nat → Nat → Int64) (X1 : XH) (h : zev xs L (d + 5) 117 [.ref 0, .int a1, .int a2, .int a3] (zmk I J X) = some (.inl 0, zmk I1 J1 X1)) : zev xs L (d + 6) 220 [.ref 0, .int a1, .int a2, .int a3, .ref 122] (zmk I J X) = some (.inr (some (.int 1)), zmk I1 J1 X1) := by
  refine (zcS (S220_0 xs L d I J X _ _ _)).trans ?_
  rw [h, zci_x]
  rfl
theorem w221_ok (xs : Nat → Int32) (L d : Nat) (I : Nat → Nat → Int32) (J : Nat → Nat → Int64) (X : XH) (a1 : Int32) (a2 : Int32) (a3 : Int32) (I1 : Nat → Nat → Int32) (J1 : Nat → Nat → Int64) (X1 : XH) (v : Int32) (h : zev xs L (d + 5) 118 [.ref 0, .int a1, .int a2, .int a3] (zmk I J X) = some (.inr (some (.int v)), zmk I1 J1 X1)) : zev xs L (d + 6) 221 [.ref 0, .int a1, .int a2, .int a3, .ref 122] (zmk I J X) = some (.inr (some (.int 0)), zmk I1 (zup J1 122 0 v.toInt64) X1) := by
  refine (zcS (S221_0 xs L d I J X _ _ _)).trans ?_
  rw [h, zci_i, T221_0_7_693, if_pos (by decide)]
  rfl
theorem w221_x0 (xs : Nat → Int32) (L d : Nat) (I : Nat → Nat → Int32) (J : Nat → Nat → Int64) (X : XH) (a1 : Int32) (a2 : Int32) (a3 : Int32) (I1 : Nat → Nat → Int32) (J1 : Nat → Nat → Int64) (X1 : XH) (h : zev xs L (d + 5) 118 [.ref 0, .int a1, .int a2, .int a3] (zmk I J X) = some (.inl 0, zmk I1 J1 X1)) : zev xs L (d + 6) 221 [.ref 0, .int a1, .int a2, .int a3, .ref 122] (zmk I J X) = some (.inr (some (.int 1)), zmk I1 J1 X1) := by
  refine (zcS (S221_0 xs L d I J X _ _ _)).trans ?_
  rw [h, zci_x]
  rfl
theorem w221_x1 (xs : Nat → Int32) (L d : Nat) (I : Nat → Nat → Int32) (J : Nat → Nat → Int64) (X : XH) (a1 : Int32) (a2 : Int32) (a3 : Int32) (I1 : Nat → Nat → Int32) (J1 : Nat → Nat → Int64) (X1 : XH) (h : zev xs L (d + 5) 118 [.ref 0, .int a1, .int a2, .int a3] (zmk I J X) = some (.inl 1, zmk I1 J1 X1)) : zev xs L (d + 6) 221 [.ref 0, .int a1, .int a2, .int a3, .ref 122] (zmk I J X) = some (.inr (some (.int 2)), zmk I1 J1 X1) := by
  refine (zcS (S221_0 xs L d I J X _ _ _)).trans ?_
  rw [h, zci_x]
  rfl
theorem w222_ok (xs : Nat → Int32) (L d : Nat) (I : Nat → Nat → Int32) (J : Nat → Nat → Int64) (X : XH) (a1 : Int32) (a2 : Int32) (a3 : Int32) (I1 : Nat → Nat → Int32) (J1 : Nat → Nat → Int64) (X1 : XH) (v : Int32) (h : zev xs L (d + 5) 122 [.ref 0, .int a1, .int a2, .int a3] (zmk I J X) = some (.inr (some (.int v)), zmk I1 J1 X1)) : zev xs L (d + 6) 222 [.ref 0, .int a1, .int a2, .int a3, .ref 122] (zmk I J X) = some (.inr (some (.int 0)), zmk I1 (zup J1 122 0 v.toInt64) X1) := by
  refine (zcS (S222_0 xs L d I J X _ _ _)).trans ?_
  rw [h, zci_i, T222_0_7_693, if_pos (by decide)]
  rfl
theorem w222_x0 (xs : Nat → Int32) (L d : Nat) (I : Nat → Nat → Int32) (J : Nat → Nat → Int64) (X : XH) (a1 : Int32) (a2 : Int32) (a3 : Int32) (I1 : Nat → Nat → Int32) (J1 : Nat → Nat → Int64) (X1 : XH) (h : zev xs L (d + 5) 122 [.ref 0, .int a1, .int a2, .int a3] (zmk I J X) = some (.inl 0, zmk I1 J1 X1)) : zev xs L (d + 6) 222 [.ref 0, .int a1, .int a2, .int a3, .ref 122] (zmk I J X) = some (.inr (some (.int 1)), zmk I1 J1 X1) := by
  refine (zcS (S222_0 xs L d I J X _ _ _)).trans ?_
  rw [h, zci_x]
  rfl
theorem w223_ok (xs : Nat → Int32) (L d : Nat) (I : Nat → Nat → Int32) (J : Nat → Nat → Int64) (X : XH) (a1 : Int32) (a2 : Int32) (a3 : Int32) (I1 : Nat → Nat → Int32) (J1 : Nat → Nat → Int64) (X1 : XH) (v : Int32) (h : zev xs L (d + 5) 123 [.ref 0, .int a1, .int a2, .int a3] (zmk I J X) = some (.inr (some (.int v)), zmk I1 J1 X1)) : zev xs L (d + 6) 223 [.ref 0, .int a1, .int a2, .int a3, .ref 122] (zmk I J X) = some (.inr (some (.int 0)), zmk I1 (zup J1 122 0 (if v = 0 then Int64.ofNat 0 else Int64.ofNat 1)) X1) := by
  refine (zcS (S223_0 xs L d I J X _ _ _)).trans ?_
  rw [h, zci_i, T223_0_7_693]
  by_cases c : v = 0
  · rw [if_pos (decide_eq_true c), if_pos (by decide), if_pos c]
    rfl
  · rw [if_neg (fun z => c (of_decide_eq_true z)), if_pos (by decide), if_neg c]
    rfl
theorem w223_x0 (xs : Nat → Int32) (L d : Nat) (I : Nat → Nat → Int32) (J : Nat → Nat → Int64) (X : XH) (a1 : Int32) (a2 : Int32) (a3 : Int32) (I1 : Nat → Nat → Int32) (J1 : Nat → Nat → Int64) (X1 : XH) (h : zev xs L (d + 5) 123 [.ref 0, .int a1, .int a2, .int a3] (zmk I J X) = some (.inl 0, zmk I1 J1 X1)) : zev xs L (d + 6) 223 [.ref 0, .int a1, .int a2, .int a3, .ref 122] (zmk I J X) = some (.inr (some (.int 1)), zmk I1 J1 X1) := by
  refine (zcS (S223_0 xs L d I J X _ _ _)).trans ?_
  rw [h, zci_x]
  rfl
theorem w224_ok (xs : Nat → Int32) (L d : Nat) (I : Nat → Nat → Int32) (J : Nat → Nat → Int64) (X : XH) (a1 : Int32) (a2 : Int32) (a3 : Int32) (I1 : Nat → Nat → Int32) (J1 : Nat → Nat → Int64) (X1 : XH) (v : Int32) (h : zev xs L (d + 5) 124 [.ref 0, .int a1, .int a2, .int a3] (zmk I J X) = some (.inr (some (.int v)), zmk I1 J1 X1)) : zev xs L (d + 6) 224 [.ref 0, .int a1, .int a2, .int a3, .ref 122] (zmk I J X) = some (.inr (some (.int 0)), zmk I1 (zup J1 122 0 v.toInt64) X1) := by
  refine (zcS (S224_0 xs L d I J X _ _ _)).trans ?_
  rw [h, zci_i, T224_0_7_693, if_pos (by decide)]
  rfl
theorem w224_x0 (xs : Nat → Int32) (L d : Nat) (I : Nat → Nat → Int32) (J : Nat → Nat → Int64) (X : XH) (a1 : Int32) (a2 : Int32) (a3 : Int32) (I1 : Nat → Nat → Int32) (J1 : Nat → Nat → Int64) (X1 : XH) (h : zev xs L (d + 5) 124 [.ref 0, .int a1, .int a2, .int a3] (zmk I J X) = some (.inl 0, zmk I1 J1 X1)) : zev xs L (d + 6) 224 [.ref 0, .int a1, .int a2, .int a3, .ref 122] (zmk I J X) = some (.inr (some (.int 1)), zmk I1 J1 X1) := by
  refine (zcS (S224_0 xs L d I J X _ _ _)).trans ?_
  rw [h, zci_x]
  rfl
theorem w224_x1 (xs : Nat → Int32) (L d : Nat) (I : Nat → Nat → Int32) (J : Nat → Nat → Int64) (X : XH) (a1 : Int32) (a2 : Int32) (a3 : Int32) (I1 : Nat → Nat → Int32) (J1 : Nat → Nat → Int64) (X1 : XH) (h : zev xs L (d + 5) 124 [.ref 0, .int a1, .int a2, .int a3] (zmk I J X) = some (.inl 1, zmk I1 J1 X1)) : zev xs L (d + 6) 224 [.ref 0, .int a1, .int a2, .int a3, .ref 122] (zmk I J X) = some (.inr (some (.int 2)), zmk I1 J1 X1) := by
  refine (zcS (S224_0 xs L d I J X _ _ _)).trans ?_
  rw [h, zci_x]
  rfl
theorem w225_ok (xs : Nat → Int32) (L d : Nat) (I : Nat → Nat → Int32) (J : Nat → Nat → Int64) (X : XH) (a1 : Int32) (a2 : Int32) (a3 : Int32) (a4 : Int32) (I1 : Nat → Nat → Int32) (J1 : Nat → Nat → Int64) (X1 : XH) (v : Int32) (h : zev xs L (d + 5) 127 [.ref 0, .int a1, .int a2, .int a3, .int a4] (zmk I J X) = some (.inr (some (.int v)), zmk I1 J1 X1)) : zev xs L (d + 6) 225 [.ref 0, .int a1, .int a2, .int a3, .int a4, .ref 122] (zmk I J X) = some (.inr (some (.int 0)), zmk I1 (zup J1 122 0 v.toInt64) X1) := by
  refine (zcS (S225_0 xs L d I J X _ _ _ _)).trans ?_
  rw [h, zci_i, T225_0_8_692, if_pos (by decide)]
  rfl
theorem w225_x0 (xs : Nat → Int32) (L d : Nat) (I : Nat → Nat → Int32) (J : Nat → Nat → Int64) (X : XH) (a1 : Int32) (a2 : Int32) (a3 : Int32) (a4 : Int32) (I1 : Nat → Nat → Int32) (J1 : Nat → Nat → Int64) (X1 : XH) (h : zev xs L (d + 5) 127 [.ref 0, .int a1, .int a2, .int a3, .int a4] (zmk I J X) = some (.inl 0, zmk I1 J1 X1)) : zev xs L (d + 6) 225 [.ref 0, .int a1, .int a2, .int a3, .int a4, .ref 122] (zmk I J X) = some (.inr (some (.int 1)), zmk I1 J1 X1) := by
  refine (zcS (S225_0 xs L d I J X _ _ _ _)).trans ?_
  rw [h, zci_x]
  rfl
theorem w225_x1 (xs : Nat → Int32) (L d : Nat) (I : Nat → Nat → Int32) (J : Nat → Nat → Int64) (X : XH) (a1 : Int32) (a2 : Int32) (a3 : Int32) (a4 : Int32) (I1 : Nat → Nat → Int32) (J1 : Nat → Nat → Int64) (X1 : XH) (h : zev xs L (d + 5) 127 [.ref 0, .int a1, .int a2, .int a3, .int a4] (zmk I J X) = some (.inl 1, zmk I1 J1 X1)) : zev xs L (d + 6) 225 [.ref 0, .int a1, .int a2, .int a3, .int a4, .ref 122] (zmk I J X) = some (.inr (some (.int 2)), zmk I1 J1 X1) := by
  refine (zcS (S225_0 xs L d I J X _ _ _ _)).trans ?_
  rw [h, zci_x]
  rfl
theorem w226_ok (xs : Nat → Int32) (L d : Nat) (I : Nat → Nat → Int32) (J : Nat → Nat → Int64) (X : XH) (a1 : Int32) (a2 : Int32) (a3 : Int32) (a4 : Int32) (I1 : Nat → Nat → Int32) (J1 : Nat → Nat → Int64) (X1 : XH) (v : Int64) (h : zev xs L (d + 5) 129 [.ref 0, .int a1, .int a2, .int a3, .int a4] (zmk I J X) = some (.inr (some (.long v)), zmk I1 J1 X1)) : zev xs L (d + 6) 226 [.ref 0, .int a1, .int a2, .int a3, .int a4, .ref 122] (zmk I J X) = some (.inr (some (.int 0)), zmk I1 (zup J1 122 0 v) X1) := by
  refine (zcS (S226_0 xs L d I J X _ _ _ _)).trans ?_
  rw [h, zcl_l, T226_0_8_692, if_pos (by decide)]
  rfl
theorem w226_x0 (xs : Nat → Int32) (L d : Nat) (I : Nat → Nat → Int32) (J : Nat → Nat → Int64) (X : XH) (a1 : Int32) (a2 : Int32) (a3 : Int32) (a4 : Int32) (I1 : Nat → Nat → Int32) (J1 : Nat → Nat → Int64) (X1 : XH) (h : zev xs L (d + 5) 129 [.ref 0, .int a1, .int a2, .int a3, .int a4] (zmk I J X) = some (.inl 0, zmk I1 J1 X1)) : zev xs L (d + 6) 226 [.ref 0, .int a1, .int a2, .int a3, .int a4, .ref 122] (zmk I J X) = some (.inr (some (.int 1)), zmk I1 J1 X1) := by
  refine (zcS (S226_0 xs L d I J X _ _ _ _)).trans ?_
  rw [h, zcl_x]
  rfl
theorem w226_x1 (xs : Nat → Int32) (L d : Nat) (I : Nat → Nat → Int32) (J : Nat → Nat → Int64) (X : XH) (a1 : Int32) (a2 : Int32) (a3 : Int32) (a4 : Int32) (I1 : Nat → Nat → Int32) (J1 : Nat → Nat → Int64) (X1 : XH) (h : zev xs L (d + 5) 129 [.ref 0, .int a1, .int a2, .int a3, .int a4] (zmk I J X) = some (.inl 1, zmk I1 J1 X1)) : zev xs L (d + 6) 226 [.ref 0, .int a1, .int a2, .int a3, .int a4, .ref 122] (zmk I J X) = some (.inr (some (.int 2)), zmk I1 J1 X1) := by
  refine (zcS (S226_0 xs L d I J X _ _ _ _)).trans ?_
  rw [h, zcl_x]
  rfl
theorem w227_ok (xs : Nat → Int32) (L d : Nat) (I : Nat → Nat → Int32) (J : Nat → Nat → Int64) (X : XH) (a1 : Int32) (a2 : Int32) (a3 : Int32) (I1 : Nat → Nat → Int32) (J1 : Nat → Nat → Int64) (X1 : XH) (v : Int32) (h : zev xs L (d + 5) 133 [.ref 0, .int a1, .int a2, .int a3] (zmk I J X) = some (.inr (some (.int v)), zmk I1 J1 X1)) : zev xs L (d + 6) 227 [.ref 0, .int a1, .int a2, .int a3, .ref 122] (zmk I J X) = some (.inr (some (.int 0)), zmk I1 (zup J1 122 0 v.toInt64) X1) := by
  refine (zcS (S227_0 xs L d I J X _ _ _)).trans ?_
  rw [h, zci_i, T227_0_7_693, if_pos (by decide)]
  rfl
theorem w227_x0 (xs : Nat → Int32) (L d : Nat) (I : Nat → Nat → Int32) (J : Nat → Nat → Int64) (X : XH) (a1 : Int32) (a2 : Int32) (a3 : Int32) (I1 : Nat → Nat → Int32) (J1 : Nat → Nat → Int64) (X1 : XH) (h : zev xs L (d + 5) 133 [.ref 0, .int a1, .int a2, .int a3] (zmk I J X) = some (.inl 0, zmk I1 J1 X1)) : zev xs L (d + 6) 227 [.ref 0, .int a1, .int a2, .int a3, .ref 122] (zmk I J X) = some (.inr (some (.int 1)), zmk I1 J1 X1) := by
  refine (zcS (S227_0 xs L d I J X _ _ _)).trans ?_
  rw [h, zci_x]
  rfl
theorem w227_x1 (xs : Nat → Int32) (L d : Nat) (I : Nat → Nat → Int32) (J : Nat → Nat → Int64) (X : XH) (a1 : Int32) (a2 : Int32) (a3 : Int32) (I1 : Nat → Nat → Int32) (J1 : Nat → Nat → Int64) (X1 : XH) (h : zev xs L (d + 5) 133 [.ref 0, .int a1, .int a2, .int a3] (zmk I J X) = some (.inl 1, zmk I1 J1 X1)) : zev xs L (d + 6) 227 [.ref 0, .int a1, .int a2, .int a3, .ref 122] (zmk I J X) = some (.inr (some (.int 2)), zmk I1 J1 X1) := by
  refine (zcS (S227_0 xs L d I J X _ _ _)).trans ?_
  rw [h, zci_x]
  rfl
theorem w228_ok (xs : Nat → Int32) (L d : Nat) (I : Nat → Nat → Int32) (J : Nat → Nat → Int64) (X : XH) (a1 : Int32) (a2 : Int32) (a3 : Int32) (I1 : Nat → Nat → Int32) (J1 : Nat → Nat → Int64) (X1 : XH) (v : Int64) (h : zev xs L (d + 5) 134 [.ref 0, .int a1, .int a2, .int a3] (zmk I J X) = some (.inr (some (.long v)), zmk I1 J1 X1)) : zev xs L (d + 6) 228 [.ref 0, .int a1, .int a2, .int a3, .ref 122] (zmk I J X) = some (.inr (some (.int 0)), zmk I1 (zup J1 122 0 v) X1) := by
  refine (zcS (S228_0 xs L d I J X _ _ _)).trans ?_
  rw [h, zcl_l, T228_0_7_693, if_pos (by decide)]
  rfl
theorem w228_x0 (xs : Nat → Int32) (L d : Nat) (I : Nat → Nat → Int32) (J : Nat → Nat → Int64) (X : XH) (a1 : Int32) (a2 : Int32) (a3 : Int32) (I1 : Nat → Nat → Int32) (J1 : Nat → Nat → Int64) (X1 : XH) (h : zev xs L (d + 5) 134 [.ref 0, .int a1, .int a2, .int a3] (zmk I J X) = some (.inl 0, zmk I1 J1 X1)) : zev xs L (d + 6) 228 [.ref 0, .int a1, .int a2, .int a3, .ref 122] (zmk I J X) = some (.inr (some (.int 1)), zmk I1 J1 X1) := by
  refine (zcS (S228_0 xs L d I J X _ _ _)).trans ?_
  rw [h, zcl_x]
  rfl
theorem w228_x1 (xs : Nat → Int32) (L d : Nat) (I : Nat → Nat → Int32) (J : Nat → Nat → Int64) (X : XH) (a1 : Int32) (a2 : Int32) (a3 : Int32) (I1 : Nat → Nat → Int32) (J1 : Nat → Nat → Int64) (X1 : XH) (h : zev xs L (d + 5) 134 [.ref 0, .int a1, .int a2, .int a3] (zmk I J X) = some (.inl 1, zmk I1 J1 X1)) : zev xs L (d + 6) 228 [.ref 0, .int a1, .int a2, .int a3, .ref 122] (zmk I J X) = some (.inr (some (.int 2)), zmk I1 J1 X1) := by
  refine (zcS (S228_0 xs L d I J X _ _ _)).trans ?_
  rw [h, zcl_x]
  rfl
theorem w229_ok (xs : Nat → Int32) (L d : Nat) (I : Nat → Nat → Int32) (J : Nat → Nat → Int64) (X : XH) (a1 : Int32) (a2 : Int64) (a4 : Int32) (I1 : Nat → Nat → Int32) (J1 : Nat → Nat → Int64) (X1 : XH) (v : Int32) (h : zev xs L (d + 5) 135 [.ref 0, .int a1, .long a2, .int a4] (zmk I J X) = some (.inr (some (.int v)), zmk I1 J1 X1)) : zev xs L (d + 6) 229 [.ref 0, .int a1, .long a2, .int a4, .ref 122] (zmk I J X) = some (.inr (some (.int 0)), zmk I1 (zup J1 122 0 v.toInt64) X1) := by
  refine (zcS (S229_0 xs L d I J X _ _ _)).trans ?_
  rw [h, zci_i, T229_0_7_693, if_pos (by decide)]
  rfl
theorem w229_x0 (xs : Nat → Int32) (L d : Nat) (I : Nat → Nat → Int32) (J : Nat → Nat → Int64) (X : XH) (a1 : Int32) (a2 : Int64) (a4 : Int32) (I1 : Nat → Nat → Int32) (J1 : Nat → Nat → Int64) (X1 : XH) (h : zev xs L (d + 5) 135 [.ref 0, .int a1, .long a2, .int a4] (zmk I J X) = some (.inl 0, zmk I1 J1 X1)) : zev xs L (d + 6) 229 [.ref 0, .int a1, .long a2, .int a4, .ref 122] (zmk I J X) = some (.inr (some (.int 1)), zmk I1 J1 X1) := by
  refine (zcS (S229_0 xs L d I J X _ _ _)).trans ?_
  rw [h, zci_x]
  rfl
theorem w230_ok (xs : Nat → Int32) (L d : Nat) (I : Nat → Nat → Int32) (J : Nat → Nat → Int64) (X : XH) (a1 : Int32) (I1 : Nat → Nat → Int32) (J1 : Nat → Nat → Int64) (X1 : XH) (v : Int32) (h : zev xs L (d + 5) 136 [.ref 0, .int a1] (zmk I J X) = some (.inr (some (.int v)), zmk I1 J1 X1)) : zev xs L (d + 6) 230 [.ref 0, .int a1, .ref 122] (zmk I J X) = some (.inr (some (.int 0)), zmk I1 (zup J1 122 0 v.toInt64) X1) := by
  refine (zcS (S230_0 xs L d I J X _)).trans ?_
  rw [h, zci_i, T230_0_5_695, if_pos (by decide)]
  rfl
theorem w230_x1 (xs : Nat → Int32) (L d : Nat) (I : Nat → Nat → Int32) (J : Nat → Nat → Int64) (X : XH) (a1 : Int32) (I1 : Nat → Nat → Int32) (J1 : Nat → Nat → Int64) (X1 : XH) (h : zev xs L (d + 5) 136 [.ref 0, .int a1] (zmk I J X) = some (.inl 1, zmk I1 J1 X1)) : zev xs L (d + 6) 230 [.ref 0, .int a1, .ref 122] (zmk I J X) = some (.inr (some (.int 1)), zmk I1 J1 X1) := by
  refine (zcS (S230_0 xs L d I J X _)).trans ?_
  rw [h, zci_x]
  rfl
theorem w231_ok (xs : Nat → Int32) (L d : Nat) (I : Nat → Nat → Int32) (J : Nat → Nat → Int64) (X : XH) (a1 : Int32) (a2 : Int32) (a3 : Int32) (I1 : Nat → Nat → Int32) (J1 : Nat → Nat → Int64) (X1 : XH) (v : Int32) (h : zev xs L (d + 5) 137 [.ref 0, .int a1, .int a2, .int a3] (zmk I J X) = some (.inr (some (.int v)), zmk I1 J1 X1)) : zev xs L (d + 6) 231 [.ref 0, .int a1, .int a2, .int a3, .ref 122] (zmk I J X) = some (.inr (some (.int 0)), zmk I1 (zup J1 122 0 v.toInt64) X1) := by
  refine (zcS (S231_0 xs L d I J X _ _ _)).trans ?_
  rw [h, zci_i, T231_0_7_693, if_pos (by decide)]
  rfl
theorem w231_x0 (xs : Nat → Int32) (L d : Nat) (I : Nat → Nat → Int32) (J : Nat → Nat → Int64) (X : XH) (a1 : Int32) (a2 : Int32) (a3 : Int32) (I1 : Nat → Nat → Int32) (J1 : Nat → Nat → Int64) (X1 : XH) (h : zev xs L (d + 5) 137 [.ref 0, .int a1, .int a2, .int a3] (zmk I J X) = some (.inl 0, zmk I1 J1 X1)) : zev xs L (d + 6) 231 [.ref 0, .int a1, .int a2, .int a3, .ref 122] (zmk I J X) = some (.inr (some (.int 1)), zmk I1 J1 X1) := by
  refine (zcS (S231_0 xs L d I J X _ _ _)).trans ?_
  rw [h, zci_x]
  rfl
theorem w231_x1 (xs : Nat → Int32) (L d : Nat) (I : Nat → Nat → Int32) (J : Nat → Nat → Int64) (X : XH) (a1 : Int32) (a2 : Int32) (a3 : Int32) (I1 : Nat → Nat → Int32) (J1 : Nat → Nat → Int64) (X1 : XH) (h : zev xs L (d + 5) 137 [.ref 0, .int a1, .int a2, .int a3] (zmk I J X) = some (.inl 1, zmk I1 J1 X1)) : zev xs L (d + 6) 231 [.ref 0, .int a1, .int a2, .int a3, .ref 122] (zmk I J X) = some (.inr (some (.int 2)), zmk I1 J1 X1) := by
  refine (zcS (S231_0 xs L d I J X _ _ _)).trans ?_
  rw [h, zci_x]
  rfl
theorem w232_ok (xs : Nat → Int32) (L d : Nat) (I : Nat → Nat → Int32) (J : Nat → Nat → Int64) (X : XH) (a1 : Int32) (I1 : Nat → Nat → Int32) (J1 : Nat → Nat → Int64) (X1 : XH) (v : Int32) (h : zev xs L (d + 5) 139 [.ref 0, .int a1] (zmk I J X) = some (.inr (some (.int v)), zmk I1 J1 X1)) : zev xs L (d + 6) 232 [.ref 0, .int a1, .ref 122] (zmk I J X) = some (.inr (some (.int 0)), zmk I1 (zup J1 122 0 v.toInt64) X1) := by
  refine (zcS (S232_0 xs L d I J X _)).trans ?_
  rw [h, zci_i, T232_0_5_695, if_pos (by decide)]
  rfl
theorem w232_x0 (xs : Nat → Int32) (L d : Nat) (I : Nat → Nat → Int32) (J : Nat → Nat → Int64) (X : XH) (a1 : Int32) (I1 : Nat → Nat → Int32) (J1 : Nat → Nat → Int64) (X1 : XH) (h : zev xs L (d + 5) 139 [.ref 0, .int a1] (zmk I J X) = some (.inl 0, zmk I1 J1 X1)) : zev xs L (d + 6) 232 [.ref 0, .int a1, .ref 122] (zmk I J X) = some (.inr (some (.int 1)), zmk I1 J1 X1) := by
  refine (zcS (S232_0 xs L d I J X _)).trans ?_
  rw [h, zci_x]
  rfl
