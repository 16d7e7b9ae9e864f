/-! THE PURE PART, 2: a copy of a row. -/
theorem zseg_calln {E : Evn} {C : Nat → List MI} {n pc op m na j : Nat} {x : Int32} {is : List MI} {lo : LV} {st : List Value} {h h' : AH} {v : Option Value} {g : Kt → LV → List Value → AH → Option Value → Option Out} (hop : zop op = z_calln g) (hc : na ≤ st.length ∧ zbelow na st ≤ 8 ∧ (j % 100 = 99 ∨ zrcv h (j % 100) (st.take na).reverse = true)) (hv : E.1 m (st.take na).reverse h = some (.inr v, h')) : zseg E C (n + 1) ((pc, op, m, na, j, x) :: is) lo st h = g (zseg E C n is) lo (st.drop na) h' v := by
  show zop op E (zseg E C n is) (fun b => zseg E C n (C b)) (pc, op, m, na, j, x) lo st h = _
  rw [hop]
  unfold z_calln
  rw [if_pos hc]
  dsimp only
  rw [hv]
theorem copyOf_eq (xs : Nat → Int32) (L d a n m : Nat) (h : AH) (hN : n < 2147483648) (hM : m ≤ 60000) (hne : m ≠ n) (hk : hK h a = (0, n)) (ha : a < hn h) : zev xs L (d + 2) 234 [.ref a, .int (Int32.ofNat m)] h = some (.inr (some (.ref (hn h))), zcpy (zalloc h (0, m) m) a (hn h) (if m ≤ n then m else n)) := by
  have e1 := i32_toInt hN
  have e2 := i32_toInt (n := m) (by omega)
  have e3 := i32_clamp (n := m) (by omega)
  have e4 := i32_clamp hN
  have k1 : hK (zalloc h (0, m) m) a = (0, n) := (zalloc_K (Nat.ne_of_lt ha)).trans hk
  have k2 : hK (zalloc h (0, m) m) (hn h) = (0, m) := zalloc_Kn
  have z0 : (0 : Int32).toInt = 0 := by decide
  refine zev_ret (Nat.le_of_ble_eq_true rfl) ?_
  show (if (hK h a).1 ≤ 4 then _ else _) = _
  rw [if_pos (by rw [hk]; exact Nat.zero_le _)]
  show (if _ then _ else _) = _
  rw [if_pos (decide_eq_true (p := ¬ Int32.ofNat m = Int32.ofNat (hK h a).2) (fun q => by
    rw [hk] at q
    have q := congrArg Int32.toInt q
    have q : (Int32.ofNat m).toInt = (Int32.ofNat n).toInt := q
    omega))]
  show (if ¬ Int32.ofNat m < 0 ∧ (Int32.ofNat m).toNatClampNeg ≤ 60000 then _ else _) = _
  rw [if_pos ⟨fun q => by
    have q := Int32.lt_iff_toInt_lt.mp q
    omega, by rw [e3]; exact hM⟩]
  show (if (hK (zalloc h (0, (Int32.ofNat m).toNatClampNeg) (Int32.ofNat m).toNatClampNeg) a).1 ≤ 4 then _ else _) = _
  rw [e3, if_pos (by rw [k1]; exact Nat.zero_le _)]
  show zseg (zev xs L (d + 1), zH 234, xs, L) (zC 234) 686 ((25, 105, 236, 2, 30499, 1) :: zB234_1.drop 11) (lset1 [(0, .ref a), (1, .int (Int32.ofNat m))] 2 (.ref (hn h))) [.int (Int32.ofNat m), .int (Int32.ofNat (hK (zalloc h (0, m) m) a).2), .int 0, .ref (hn h), .int 0, .ref a] (zalloc h (0, m) m) = _
  rw [zseg_calln (g := zgi) rfl ⟨Nat.le_of_ble_eq_true rfl, Nat.le_of_ble_eq_true rfl, Or.inl rfl⟩ (zmin_eq xs L d _ _ _), k1]
  have e5 : (if Int32.ofNat n ≤ Int32.ofNat m then Int32.ofNat n else Int32.ofNat m) = Int32.ofNat (if m ≤ n then m else n) := by
    by_cases c : m ≤ n
    · rw [if_pos c, if_neg (fun q => by have q := Int32.le_iff_toInt_le.mp q; omega)]
    · rw [if_neg c, if_pos (Int32.le_iff_toInt_le.mpr (by omega))]
  rw [show ((0, n) : Nat × Nat).2 = n from rfl, e5]
  generalize hq : (if m ≤ n then m else n) = q
  have hq1 : q ≤ m ∧ q ≤ n := by
    rw [← hq]
    split <;> omega
  have e6 := i32_toInt (n := q) (by omega)
  have e7 := i32_clamp (n := q) (by omega)
  show (if _ then _ else _) = _
  rw [if_pos (by
    refine ⟨by rw [k1], by rw [k2], rfl, rfl, fun z => ?_, by rw [e7, k1]; exact hq1.2, by rw [e7, k2]; exact hq1.1, Nat.ne_of_lt ha, Nat.le_of_ble_eq_true rfl⟩
    have z := Int32.lt_iff_toInt_lt.mp z
    omega), e7]
  rfl
theorem zseg_call {E : Evn} {C : Nat → List MI} {n pc op m na j : Nat} {x : Int32} {is : List MI} {lo : LV} {st : List Value} {h h' : AH} {v : Option Value} {g : Kt → LV → List Value → AH → Option Value → Option Out} (hop : zop op = z_call g) (hc : na ≤ st.length ∧ st.length ≤ na + 4 ∧ zrcv h (j % 100) (st.take na).reverse = true) (hv : E.1 m (st.take na).reverse h = some (.inr v, h')) : zseg E C (n + 1) ((pc, op, m, na, j, x) :: is) lo st h = g (zseg E C n is) lo (st.drop na) h' v := by
  show zop op E (zseg E C n is) (fun b => zseg E C n (C b)) (pc, op, m, na, j, x) lo st h = _
  rw [hop]
  unfold z_call
  rw [if_pos hc]
  dsimp only
  rw [hv]
theorem zseg_thr {E : Evn} {C : Nat → List MI} {n pc op m na j : Nat} {x : Int32} {is : List MI} {lo : LV} {st : List Value} {h h' : AH} {y : Nat} {g : Kt → LV → List Value → AH → Option Value → Option Out} (hop : zop op = z_call g) (hc : na ≤ st.length ∧ st.length ≤ na + 4 ∧ zrcv h (j % 100) (st.take na).reverse = true) (hv : E.1 m (st.take na).reverse h = some (.inl y, h')) : zseg E C (n + 1) ((pc, op, m, na, j, x) :: is) lo st h = zthr E y h' := by
  show zop op E (zseg E C n is) (fun b => zseg E C n (C b)) (pc, op, m, na, j, x) lo st h = _
  rw [hop]
  unfold z_call
  rw [if_pos hc]
  dsimp only
  rw [hv]
/-- what a depth answers, a greater one answers too -/
def zmono (F G : Cal) : Prop := ∀ (m : Nat) (as : List Value) (h : AH) (q : Ret × AH), F m as h = some q → G m as h = some q
