/-! THE PURE PART: the law, instruction by instruction. -/
theorem lg_refl (x : Int64) : lg_cmp x x = 0 := by
  unfold lg_cmp
  simp
theorem u_a {E : Evn} {C : Nat → List MI} {f p a b j : Nat} {x : Int32} {is : List MI} {lo : LV} {st : List Value} {h : AH} (v : Nat) (hv : lget lo a = some (.ref v)) : zseg E C (f + 1) ((p, 7, a, b, j, x) :: is) lo st h = zseg E C f is lo (.ref v :: st) h := by
  show (match lget lo a with
    | some (.ref v) => zseg E C f is lo (.ref v :: st) h
    | some (.float v) => zseg E C f is lo (.float v :: st) h
    | some .null => zseg E C f is lo (.null :: st) h
    | _ => none) = _
  rw [hv]
theorem u_i {E : Evn} {C : Nat → List MI} {f p a b j : Nat} {x : Int32} {is : List MI} {lo : LV} {st : List Value} {h : AH} (v : Int32) (hv : lget lo a = some (.int v)) : zseg E C (f + 1) ((p, 5, a, b, j, x) :: is) lo st h = zseg E C f is lo (.int v :: st) h := by
  show (match lget lo a with
    | some (.int v) => zseg E C f is lo (.int v :: st) h
    | _ => none) = _
  rw [hv]
theorem u_l {E : Evn} {C : Nat → List MI} {f p a b j : Nat} {x : Int32} {is : List MI} {lo : LV} {st : List Value} {h : AH} (v : Int64) (hv : lget lo a = some (.long v)) : zseg E C (f + 1) ((p, 6, a, b, j, x) :: is) lo st h = zseg E C f is lo (.long v :: st) h := by
  show (match lget lo a with
    | some (.long v) => zseg E C f is lo (.long v :: st) h
    | _ => none) = _
  rw [hv]
theorem u_x {E : Evn} {C : Nat → List MI} {f p1 p2 p3 p4 p5 b1 j1 b2 j2 a3 b3 j3 a4 b4 j4 a5 b5 j5 : Nat} {x1 x2 k x4 x5 : Int32} {is : List MI} {lo : LV} {st : List Value} {h : AH} (i v : Int32) (h0 : lget lo 0 = some (.float 99)) (h4 : lget lo 4 = some (.int i)) (hi : ¬ (i + k < 0 ∨ E.2.2.2 ≤ (i + k).toNatClampNeg)) (hv : E.2.2.1 (i + k).toNatClampNeg = v) : zseg E C (f + 5) ((p1, 7, 0, b1, j1, x1) :: (p2, 5, 4, b2, j2, x2) :: (p3, 1, a3, b3, j3, k) :: (p4, 12, a4, b4, j4, x4) :: (p5, 81, a5, b5, j5, x5) :: is) lo st h = zseg E C f is lo (.int v :: st) h := by
  have e1 : zseg E C (f + 5) ((p1, 7, 0, b1, j1, x1) :: (p2, 5, 4, b2, j2, x2) :: (p3, 1, a3, b3, j3, k) :: (p4, 12, a4, b4, j4, x4) :: (p5, 81, a5, b5, j5, x5) :: is) lo st h = zseg E C (f + 4) ((p2, 5, 4, b2, j2, x2) :: (p3, 1, a3, b3, j3, k) :: (p4, 12, a4, b4, j4, x4) :: (p5, 81, a5, b5, j5, x5) :: is) lo (.float 99 :: st) h := by
    show (match lget lo 0 with
      | some (.ref v) => zseg E C (f + 4) ((p2, 5, 4, b2, j2, x2) :: (p3, 1, a3, b3, j3, k) :: (p4, 12, a4, b4, j4, x4) :: (p5, 81, a5, b5, j5, x5) :: is) lo (.ref v :: st) h
      | some (.float v) => zseg E C (f + 4) ((p2, 5, 4, b2, j2, x2) :: (p3, 1, a3, b3, j3, k) :: (p4, 12, a4, b4, j4, x4) :: (p5, 81, a5, b5, j5, x5) :: is) lo (.float v :: st) h
      | some .null => zseg E C (f + 4) ((p2, 5, 4, b2, j2, x2) :: (p3, 1, a3, b3, j3, k) :: (p4, 12, a4, b4, j4, x4) :: (p5, 81, a5, b5, j5, x5) :: is) lo (.null :: st) h
      | _ => none) = _
    rw [h0]
  rw [e1, u_i i h4]
  show (if (99 : UInt32) = 99 ∧ ¬ (i + k < 0 ∨ E.2.2.2 ≤ (i + k).toNatClampNeg) then zseg E C f is lo (.int (E.2.2.1 (i + k).toNatClampNeg) :: st) h else none) = _
  rw [if_pos ⟨rfl, hi⟩, hv]
theorem u_is {E : Evn} {C : Nat → List MI} {f p a b j : Nat} {x v : Int32} {is : List MI} {lo : LV} {st : List Value} {h : AH} (lo2 : LV) (hl : lset1 lo a (.int v) = lo2) : zseg E C (f + 1) ((p, 8, a, b, j, x) :: is) lo (.int v :: st) h = zseg E C f is lo2 st h := by
  rw [← hl]
  rfl
theorem u_ls {E : Evn} {C : Nat → List MI} {f p a b j : Nat} {x : Int32} {v : Int64} {is : List MI} {lo : LV} {st : List Value} {h : AH} (lo2 : LV) (hl : lset2 lo a (.long v) = lo2) : zseg E C (f + 1) ((p, 9, a, b, j, x) :: is) lo (.long v :: st) h = zseg E C f is lo2 st h := by
  rw [← hl]
  rfl
theorem u_ni {E : Evn} {C : Nat → List MI} {f pc m na j : Nat} {x : Int32} {is : List MI} {lo : LV} {st st2 : List Value} {h h' : AH} {r : Int32} (args : List Value) (ha : (st.take na).reverse = args) (hd : st.drop na = st2) (hl : na ≤ st.length ∧ zbelow na st ≤ 8 ∧ j % 100 = 99) (hv : E.1 m args h = some (.inr (some (.int r)), h')) : zseg E C (f + 1) ((pc, 105, m, na, j, x) :: is) lo st h = zseg E C f is lo (.int r :: st2) h' := by
  subst hd
  exact (zseg_calln (g := zgi) rfl ⟨hl.1, hl.2.1, Or.inl hl.2.2⟩ (by rw [ha]; exact hv)).trans rfl
theorem u_ci {E : Evn} {C : Nat → List MI} {f pc m na j : Nat} {x : Int32} {is : List MI} {lo : LV} {st st2 : List Value} {h h' : AH} {r : Int32} (args : List Value) (ha : (st.take na).reverse = args) (hd : st.drop na = st2) (hl : na ≤ st.length ∧ st.length ≤ na + 4) (hr : zrcv h (j % 100) args = true) (hv : E.1 m args h = some (.inr (some (.int r)), h')) : zseg E C (f + 1) ((pc, 90, m, na, j, x) :: is) lo st h = zseg E C f is lo (.int r :: st2) h' := by
  subst hd
  exact (zseg_call (g := zgi) rfl ⟨hl.1, hl.2, by rw [ha]; exact hr⟩ (by rw [ha]; exact hv)).trans rfl
theorem u_cl {E : Evn} {C : Nat → List MI} {f pc m na j : Nat} {x : Int32} {is : List MI} {lo : LV} {st st2 : List Value} {h h' : AH} {r : Int64} (args : List Value) (ha : (st.take na).reverse = args) (hd : st.drop na = st2) (hl : na ≤ st.length ∧ st.length ≤ na + 4) (hr : zrcv h (j % 100) args = true) (hv : E.1 m args h = some (.inr (some (.long r)), h')) : zseg E C (f + 1) ((pc, 91, m, na, j, x) :: is) lo st h = zseg E C f is lo (.long r :: st2) h' := by
  subst hd
  exact (zseg_call (g := zgl) rfl ⟨hl.1, hl.2, by rw [ha]; exact hr⟩ (by rw [ha]; exact hv)).trans rfl
theorem u_eq2 {E : Evn} {C : Nat → List MI} {f p b bb j : Nat} {z x y : Int32} {is : List MI} {lo : LV} {st : List Value} {h : AH} (e : x = y) : zseg E C (f + 1) ((p, 48, b, bb, j, z) :: is) lo (.int y :: .int x :: st) h = zseg E C f (C b) lo st h := if_pos (decide_eq_true e)
theorem u_ifne_n {E : Evn} {C : Nat → List MI} {f p b bb j : Nat} {z x : Int32} {is : List MI} {lo : LV} {st : List Value} {h : AH} (e : x = 0) : zseg E C (f + 1) ((p, 43, b, bb, j, z) :: is) lo (.int x :: st) h = zseg E C f is lo st h := if_neg (fun q => (of_decide_eq_true q) e)
theorem u_ifne_y {E : Evn} {C : Nat → List MI} {f p b bb j : Nat} {z x : Int32} {is : List MI} {lo : LV} {st : List Value} {h : AH} (e : ¬ x = 0) : zseg E C (f + 1) ((p, 43, b, bb, j, z) :: is) lo (.int x :: st) h = zseg E C f (C b) lo st h := if_pos (decide_eq_true e)
theorem u_ifeq_n {E : Evn} {C : Nat → List MI} {f p b bb j : Nat} {z x : Int32} {is : List MI} {lo : LV} {st : List Value} {h : AH} (e : ¬ x = 0) : zseg E C (f + 1) ((p, 42, b, bb, j, z) :: is) lo (.int x :: st) h = zseg E C f is lo st h := if_neg (fun q => e (of_decide_eq_true q))
theorem u_ifeq_y {E : Evn} {C : Nat → List MI} {f p b bb j : Nat} {z x : Int32} {is : List MI} {lo : LV} {st : List Value} {h : AH} (e : x = 0) : zseg E C (f + 1) ((p, 42, b, bb, j, z) :: is) lo (.int x :: st) h = zseg E C f (C b) lo st h := if_pos (decide_eq_true e)
theorem u_lald {E : Evn} {C : Nat → List MI} {f p a b j : Nat} {x : Int32} {is : List MI} {lo : LV} {st : List Value} {I : Nat → Nat → Int32} {J : Nat → Nat → Int64} {X : XH} : zseg E C (f + 1) ((p, 72, a, b, j, x) :: is) lo (.int 0 :: .ref 122 :: st) (zmk I J X) = zseg E C f is lo (.long (J 122 0) :: st) (zmk I J X) := by
  show (if zin (zmk I J X) 122 2 0 then zseg E C f is lo (.long (hL (zmk I J X) 122 (0 : Int32).toNatClampNeg) :: st) (zmk I J X) else none) = _
  rw [if_pos (show zin (zmk I J X) 122 2 0 from ⟨rfl, (show ¬ ((0 : Int32) < 0 ∨ 1 ≤ (0 : Int32).toNatClampNeg) by decide)⟩)]
  rfl
theorem u_const {E : Evn} {C : Nat → List MI} {f p a b j : Nat} {v : Int32} {is : List MI} {lo : LV} {st : List Value} {h : AH} : zseg E C (f + 1) ((p, 1, a, b, j, v) :: is) lo st h = zseg E C f is lo (.int v :: st) h := rfl
theorem u_lcx {E : Evn} {C : Nat → List MI} {f p a b j : Nat} {v : Int32} {is : List MI} {lo : LV} {st : List Value} {h : AH} : zseg E C (f + 1) ((p, 2, a, b, j, v) :: is) lo st h = zseg E C f is lo (.long v.toInt64 :: st) h := rfl
theorem u_lcn {E : Evn} {C : Nat → List MI} {f p a b j : Nat} {v : Int32} {is : List MI} {lo : LV} {st : List Value} {h : AH} : zseg E C (f + 1) ((p, 3, a, b, j, v) :: is) lo st h = zseg E C f is lo (.long (Int64.ofNat a) :: st) h := rfl
theorem u_i2l {E : Evn} {C : Nat → List MI} {f p a b j : Nat} {x v : Int32} {is : List MI} {lo : LV} {st : List Value} {h : AH} : zseg E C (f + 1) ((p, 34, a, b, j, x) :: is) lo (.int v :: st) h = zseg E C f is lo (.long v.toInt64 :: st) h := rfl
theorem u_lcmp {E : Evn} {C : Nat → List MI} {f p a b j : Nat} {z : Int32} {x y : Int64} {is : List MI} {lo : LV} {st : List Value} {h : AH} (e : x = y) : zseg E C (f + 1) ((p, 36, a, b, j, z) :: is) lo (.long y :: .long x :: st) h = zseg E C f is lo (.int 0 :: st) h := by
  show zseg E C f is lo (.int (lg_cmp x y) :: st) h = _
  rw [e, lg_refl]
theorem u_goto {E : Evn} {C : Nat → List MI} {f p b bb j : Nat} {x : Int32} {is : List MI} {lo : LV} {st : List Value} {h : AH} : zseg E C (f + 1) ((p, 55, b, bb, j, x) :: is) lo st h = zseg E C f (C b) lo st h := rfl
theorem u_fall {E : Evn} {C : Nat → List MI} {f p b bb j : Nat} {x : Int32} {is : List MI} {lo : LV} {st : List Value} {h : AH} : zseg E C (f + 1) ((p, 56, b, bb, j, x) :: is) lo st h = zseg E C f (C b) lo st h := rfl
theorem u_land {E : Evn} {C : Nat → List MI} {f p a b j : Nat} {z : Int32} {x y : Int64} {is : List MI} {lo : LV} {st : List Value} {h : AH} : zseg E C (f + 1) ((p, 29, a, b, j, z) :: is) lo (.long y :: .long x :: st) h = zseg E C f is lo (.long (x &&& y) :: st) h := rfl
theorem u_lor {E : Evn} {C : Nat → List MI} {f p a b j : Nat} {z : Int32} {x y : Int64} {is : List MI} {lo : LV} {st : List Value} {h : AH} : zseg E C (f + 1) ((p, 30, a, b, j, z) :: is) lo (.long y :: .long x :: st) h = zseg E C f is lo (.long (x ||| y) :: st) h := rfl
theorem u_lshl {E : Evn} {C : Nat → List MI} {f p a b j : Nat} {z : Int32} {x : Int64} {y : Int32} {is : List MI} {lo : LV} {st : List Value} {h : AH} : zseg E C (f + 1) ((p, 31, a, b, j, z) :: is) lo (.int y :: .long x :: st) h = zseg E C f is lo (.long (x <<< (y.toInt64 &&& 63)) :: st) h := rfl
/-- the law's locals between calls -/
def yLO (p : Nat) : LV := [(0, .float 99), (1, .ref 0), (2, .ref 61), (3, .ref 122), (4, .int (Int32.ofNat p))]
/-- to the next call: places of one kind of locals -/
def yLs (lo : LV) (p : Nat) : Prop := lget lo 4 = some (.int (Int32.ofNat p)) ∧ lcan (lset1 lo 4 (.int (Int32.ofNat p + 7))) 5 = [(0, .float 99), (1, .ref 0), (2, .ref 61), (3, .ref 122), (4, .int (Int32.ofNat p + 7))]
theorem law_30 {E : Evn} {f p : Nat} {lo : LV} {h : AH} (hl : yLs lo p) : zseg E (zC 239) (f + 3) (zC 239 30) lo [] h = some (.inl (2, yLO (p + 7), h)) := by
  show (match lget lo 4 with
    | some (.int v) => (some (Sum.inl (2, lcan (lset1 lo 4 (.int (v + 7))) 5, h)) : Option Out)
    | _ => none) = _
  rw [hl.1]
  show some (Sum.inl (2, lcan (lset1 lo 4 (.int (Int32.ofNat p + 7))) 5, h)) = _
  rw [hl.2]
  have : Int32.ofNat p + 7 = Int32.ofNat (p + 7) := nat_add p 7
  unfold yLO
  rw [this]
/-- the end of a call whose answers are ints -/
theorem law_ti {E : Evn} {f p r p1 p2 p3 p4 p5 p6 p7 p8 p9 b1 j1 b2 j2 b3 j3 a4 b4 j4 a5 b5 j5 b6 j6 a7 b7 j7 a8 b8 j8 b9 j9 pr br jr : Nat} {x1 x2 x3 x5 x6 x7 x8 x9 xr : Int32} {is : List MI} {lo : LV} {I : Nat → Nat → Int32} {J : Nat → Nat → Int64} {X : XH} (k v : Int32) (h5 : lget lo 5 = some (.int k)) (h3 : lget lo 3 = some (.ref 122)) (h6 : lget lo 6 = some (.int v)) (hl : yLs lo p) (hr : zC 239 r = [(pr, 55, 30, br, jr, xr)]) (hk : k = 0 → J 122 0 = v.toInt64) : zseg E (zC 239) (f + 13) ((p1, 5, 5, b1, j1, x1) :: (p2, 43, r, b2, j2, x2) :: (p3, 7, 3, b3, j3, x3) :: (p4, 1, a4, b4, j4, 0) :: (p5, 72, a5, b5, j5, x5) :: (p6, 5, 6, b6, j6, x6) :: (p7, 34, a7, b7, j7, x7) :: (p8, 36, a8, b8, j8, x8) :: (p9, 42, r, b9, j9, x9) :: is) lo [] (zmk I J X) = some (.inl (2, yLO (p + 7), zmk I J X)) := by
  rw [show f + 13 = f + 12 + 1 by omega, u_i k h5]
  by_cases c : k = 0
  · rw [show f + 12 = f + 11 + 1 by omega, u_ifne_n c, show f + 11 = f + 10 + 1 by omega, u_a 122 h3, show f + 10 = f + 9 + 1 by omega, u_const, show f + 9 = f + 8 + 1 by omega, u_lald, show f + 8 = f + 7 + 1 by omega, u_i v h6, show f + 7 = f + 6 + 1 by omega, u_i2l, show f + 6 = f + 5 + 1 by omega, u_lcmp (hk c), show f + 5 = f + 4 + 1 by omega, u_ifeq_y rfl, hr, show f + 4 = f + 3 + 1 by omega, u_goto]
    exact law_30 hl
  · rw [show f + 12 = f + 11 + 1 by omega, u_ifne_y c, hr, show f + 11 = f + 10 + 1 by omega, u_goto, show f + 10 = f + 7 + 3 by omega]
    exact law_30 hl
/-- the end of a call whose answers are longs -/
theorem law_tl {E : Evn} {f p r p1 p2 p3 p4 p5 p6 p8 p9 b1 j1 b2 j2 b3 j3 a4 b4 j4 a5 b5 j5 b6 j6 a8 b8 j8 b9 j9 pr br jr : Nat} {x1 x2 x3 x5 x6 x8 x9 xr : Int32} {is : List MI} {lo : LV} {I : Nat → Nat → Int32} {J : Nat → Nat → Int64} {X : XH} (k : Int32) (v : Int64) (h5 : lget lo 5 = some (.int k)) (h3 : lget lo 3 = some (.ref 122)) (h6 : lget lo 6 = some (.long v)) (hl : yLs lo p) (hr : zC 239 r = [(pr, 55, 30, br, jr, xr)]) (hk : k = 0 → J 122 0 = v) : zseg E (zC 239) (f + 12) ((p1, 5, 5, b1, j1, x1) :: (p2, 43, r, b2, j2, x2) :: (p3, 7, 3, b3, j3, x3) :: (p4, 1, a4, b4, j4, 0) :: (p5, 72, a5, b5, j5, x5) :: (p6, 6, 6, b6, j6, x6) :: (p8, 36, a8, b8, j8, x8) :: (p9, 42, r, b9, j9, x9) :: is) lo [] (zmk I J X) = some (.inl (2, yLO (p + 7), zmk I J X)) := by
  rw [show f + 12 = f + 11 + 1 by omega, u_i k h5]
  by_cases c : k = 0
  · rw [show f + 11 = f + 10 + 1 by omega, u_ifne_n c, show f + 10 = f + 9 + 1 by omega, u_a 122 h3, show f + 9 = f + 8 + 1 by omega, u_const, show f + 8 = f + 7 + 1 by omega, u_lald, show f + 7 = f + 6 + 1 by omega, u_l v h6, show f + 6 = f + 5 + 1 by omega, u_lcmp (hk c), show f + 5 = f + 4 + 1 by omega, u_ifeq_y rfl, hr, show f + 4 = f + 3 + 1 by omega, u_goto]
    exact law_30 hl
  · rw [show f + 11 = f + 10 + 1 by omega, u_ifne_y c, hr, show f + 10 = f + 9 + 1 by omega, u_goto, show f + 9 = f + 6 + 3 by omega]
    exact law_30 hl
/-- the end of a call whose answers are true or false -/
theorem law_tb {E : Evn} {f p r r2 r3 p1 p2 p3 p4 p5 p6 p7 p8 p9 b1 j1 b2 j2 b3 j3 a4 b4 j4 a5 b5 j5 b6 j6 b7 j7 b8 j8 b9 j9 pr br jr q1 q2 q3 q4 c1 d1 c2 d2 a3 c3 d3 c4 d4 : Nat} {x1 x2 x3 x5 x6 x7 x8 x9 xr y1 y2 y3 y4 : Int32} {is is3 : List MI} {lo : LV} {I : Nat → Nat → Int32} {J : Nat → Nat → Int64} {X : XH} (k v : Int32) (h5 : lget lo 5 = some (.int k)) (h3 : lget lo 3 = some (.ref 122)) (h6 : lget lo 6 = some (.int v)) (hl : yLs lo p) (hr : zC 239 r = [(pr, 55, 30, br, jr, xr)]) (hr2 : zC 239 r2 = [(q1, 3, 0, c1, d1, y1), (q2, 56, r3, c2, d2, y2)]) (hr3 : zC 239 r3 = (q3, 36, a3, c3, d3, y3) :: (q4, 42, r, c4, d4, y4) :: is3) (hk : k = 0 → J 122 0 = if v = 0 then Int64.ofNat 0 else Int64.ofNat 1) : zseg E (zC 239) (f + 20) ((p1, 5, 5, b1, j1, x1) :: (p2, 43, r, b2, j2, x2) :: (p3, 7, 3, b3, j3, x3) :: (p4, 1, a4, b4, j4, 0) :: (p5, 72, a5, b5, j5, x5) :: (p6, 5, 6, b6, j6, x6) :: (p7, 42, r2, b7, j7, x7) :: (p8, 3, 1, b8, j8, x8) :: (p9, 55, r3, b9, j9, x9) :: is) lo [] (zmk I J X) = some (.inl (2, yLO (p + 7), zmk I J X)) := by
  rw [show f + 20 = f + 19 + 1 by omega, u_i k h5]
  by_cases c : k = 0
  · rw [show f + 19 = f + 18 + 1 by omega, u_ifne_n c, show f + 18 = f + 17 + 1 by omega, u_a 122 h3, show f + 17 = f + 16 + 1 by omega, u_const, show f + 16 = f + 15 + 1 by omega, u_lald, show f + 15 = f + 14 + 1 by omega, u_i v h6]
    have hk := hk c
    by_cases c2 : v = 0
    · rw [if_pos c2] at hk
      rw [show f + 14 = f + 13 + 1 by omega, u_ifeq_y c2, hr2, show f + 13 = f + 12 + 1 by omega, u_lcn, show f + 12 = f + 11 + 1 by omega, u_fall, hr3, show f + 11 = f + 10 + 1 by omega, u_lcmp hk, show f + 10 = f + 9 + 1 by omega, u_ifeq_y rfl, hr, show f + 9 = f + 8 + 1 by omega, u_goto, show f + 8 = f + 5 + 3 by omega]
      exact law_30 hl
    · rw [if_neg c2] at hk
      rw [show f + 14 = f + 13 + 1 by omega, u_ifeq_n c2, show f + 13 = f + 12 + 1 by omega, u_lcn, show f + 12 = f + 11 + 1 by omega, u_goto, hr3, show f + 11 = f + 10 + 1 by omega, u_lcmp hk, show f + 10 = f + 9 + 1 by omega, u_ifeq_y rfl, hr, show f + 9 = f + 8 + 1 by omega, u_goto, show f + 8 = f + 5 + 3 by omega]
      exact law_30 hl
  · rw [show f + 19 = f + 18 + 1 by omega, u_ifne_y c, hr, show f + 18 = f + 17 + 1 by omega, u_goto, show f + 17 = f + 14 + 3 by omega]
    exact law_30 hl
