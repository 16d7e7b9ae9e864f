/-! THE PURE PART: new objects. -/
def zXa (X : XH) (kd : Nat × Nat) (sl : Nat) : XH := (X.1, fun a => if a = X.2.2.1 then kd else X.2.1 a, X.2.2.1 + 1, X.2.2.2.1 + 1, X.2.2.2.2 + sl)
def zXr (X : XH) (a k : Nat) (v : Option Nat) : XH := (zup X.1 a k v, X.2)
theorem zmk_alloc (I : Nat → Nat → Int32) (J : Nat → Nat → Int64) (X : XH) (kd : Nat × Nat) (sl : Nat) (h : 123 ≤ X.2.2.1) : zalloc (zmk I J X) kd sl = zmk I J (zXa X kd sl) := by
  have e : (fun a => if a = X.2.2.1 then kd else zKw X.2.1 a) = zKw (fun a => if a = X.2.2.1 then kd else X.2.1 a) := by
    funext a
    by_cases c : a ≤ 122
    · have hb : Nat.ble a 122 = true := Nat.ble_eq_true_of_le c
      have n1 : ¬ a = X.2.2.1 := by omega
      rw [if_neg n1]
      unfold zKw
      rw [hb]
      rfl
    · have hb : Nat.ble a 122 = false := Bool.eq_false_iff.mpr (fun z => c (Nat.le_of_ble_eq_true z))
      unfold zKw
      rw [hb]
      rfl
  show (I, J, zRw X.1, (fun a => if a = X.2.2.1 then kd else zKw X.2.1 a), X.2.2.1 + 1, X.2.2.2.1 + 1, X.2.2.2.2 + sl) = (I, J, zRw X.1, zKw (fun a => if a = X.2.2.1 then kd else X.2.1 a), X.2.2.1 + 1, X.2.2.2.1 + 1, X.2.2.2.2 + sl)
  rw [e]
theorem zRw_at {R : Nat → Nat → Option Nat} {a k : Nat} (h : a = 18 ∨ 123 ≤ a) : zRw R a k = R a k := by
  rcases h with h | h
  · rw [h]
    rfl
  · have hb : Nat.ble a 122 = false := Bool.eq_false_iff.mpr (fun z => by
      have := Nat.le_of_ble_eq_true z
      omega)
    unfold zRw
    rw [hb]
    rfl
theorem zmk_setR (I : Nat → Nat → Int32) (J : Nat → Nat → Int64) (X : XH) (a k : Nat) (v : Option Nat) (h : a = 18 ∨ 123 ≤ a) : setR (zmk I J X) a k v = zmk I J (zXr X a k v) := by
  have e : zup (zRw X.1) a k v = zRw (zup X.1 a k v) := by
    funext b j
    show (if b = a then (fun k' => if k' = k then v else zRw X.1 b k') else zRw X.1 b) j = zRw (zup X.1 a k v) b j
    by_cases q : b = a
    · subst q
      rw [if_pos rfl, zRw_at h, zRw_at h]
      unfold zup
      rw [if_pos rfl]
    · rw [if_neg q]
      have e2 : zup X.1 a k v b = X.1 b := if_neg q
      unfold zRw
      rw [e2]
  show (I, J, zup (zRw X.1) a k v, zKw X.2.1, X.2.2) = (I, J, zRw (zup X.1 a k v), zKw X.2.1, X.2.2)
  rw [e]
theorem copy_z (xs : Nat → Int32) (L D : Nat) (hD : 2 ≤ D) (I : Nat → Nat → Int32) (J : Nat → Nat → Int64) (X : XH) (m : Nat) (hm : m < 400) (hX : 123 ≤ X.2.2.1) : zev xs L D 234 [.ref 37, .int (Int32.ofNat m)] (zmk I J X) = some (.inr (some (.ref X.2.2.1)), zmk (zcpI I 37 X.2.2.1 m) J (zXa X (0, m) m)) := by
  obtain ⟨d, rfl⟩ := Nat.exists_eq_add_of_le hD
  rw [Nat.add_comm 2 d]
  have q := copyOf_eq xs L d 37 400 m (zmk I J X) (by decide) (by omega) (by omega) rfl (show 37 < X.2.2.1 by omega)
  rw [q, zmk_alloc I J X _ _ hX, if_pos (by omega)]
  rfl
theorem init_z (xs : Nat → Int32) (L D : Nat) (hD : 6 ≤ D) (I : Nat → Nat → Int32) (J : Nat → Nat → Int64) (X : XH) (t u : Nat) (a b c e : Int32) (ht : 123 ≤ t) (hk : X.2.1 t = (18, 0)) : zev xs L D 78 [.ref t, .int a, .int b, .int c, .int e, .ref u] (zmk I J X) = some (.inr none, zmk (zup (zup (zup (zup I t 0 a) t 1 b) t 2 c) t 3 e) J (zXr X t 4 (some u))) := by
  obtain ⟨d, rfl⟩ := Nat.exists_eq_add_of_le hD
  rw [Nat.add_comm 6 d]
  have hk2 : ∀ I, hK (zmk I J X) t = (18, 0) := fun I => (zmk_K ht).trans hk
  have S : zseg (zE xs L (d + 5) 78) (zC 78) 700 (zC 78 0) [(0, .ref t), (1, .int a), (2, .int b), (3, .int c), (4, .int e), (5, .ref u)] [] (zmk I J X) = some (.inr (.inr none, zmk (zup (zup (zup (zup I t 0 a) t 1 b) t 2 c) t 3 e) J (zXr X t 4 (some u)))) := by
    rw [← zmk_setR _ J X t 4 (some u) (Or.inr ht)]
    refine (if_pos (hk2 I)).trans ?_
    refine (if_pos (hk2 (zup I t 0 a))).trans ?_
    refine (if_pos (hk2 (zup (zup I t 0 a) t 1 b))).trans ?_
    refine (if_pos (hk2 (zup (zup (zup I t 0 a) t 1 b) t 2 c))).trans ?_
    refine (if_pos (hk2 (zup (zup (zup (zup I t 0 a) t 1 b) t 2 c) t 3 e))).trans ?_
    rfl
  refine (zcS S).trans ?_
  rfl
theorem V64_0 (xs : Nat → Int32) (L d : Nat) (I : Nat → Nat → Int32) (J : Nat → Nat → Int64) (X : XH) (a b : Int32) : zseg (zE xs L (d + 5) 64) (zC 64) 700 (zC 64 0) [(0, .ref 35), (1, .int a), (2, .int b)] [] (zmk I J X) = zseg (zE xs L (d + 5) 64) (zC 64) 692 (zB64_0.drop 8) [(3, .int (zmx 0 (zmn (I 35 13) 400))), (0, .ref 35), (1, .int a), (2, .int b)] [.ref X.2.2.1] (zalloc (zmk I J X) (18, 0) 5) := by
  rfl
theorem V64_8 (xs : Nat → Int32) (L d : Nat) (I : Nat → Nat → Int32) (J : Nat → Nat → Int64) (X : XH) (a b c : Int32) (t : Nat) : zseg (zE xs L (d + 5) 64) (zC 64) 692 (zB64_0.drop 8) [(3, .int c), (0, .ref 35), (1, .int a), (2, .int b)] [.ref t] (zmk I J X) = zqr (zev xs L (d + 5) 234 [.ref 37, .int c] (zmk I J X)) (fun r h => zseg (zE xs L (d + 5) 64) (zC 64) 681 (zB64_0.drop 19) [(3, .int c), (0, .ref 35), (1, .int a), (2, .int b)] [.ref r, .int (I 35 11), .int (I 35 10), .int b, .int a, .ref t, .ref t] h) (fun h => zseg (zE xs L (d + 5) 64) (zC 64) 681 (zB64_0.drop 19) [(3, .int c), (0, .ref 35), (1, .int a), (2, .int b)] [.null, .int (I 35 11), .int (I 35 10), .int b, .int a, .ref t, .ref t] h) := by
  rfl
/-- the text read becomes terms of a land: two objects more -/
def zXt (X : XH) (m : Nat) : XH := zXr (zXa (zXa X (18, 0) 5) (0, m) m) X.2.2.1 4 (some (X.2.2.1 + 1))
def yTf (I : Nat → Nat → Int32) (t m : Nat) (a b : Int32) : Nat → Nat → Int32 := zup (zup (zup (zup (zcpI I 37 (t + 1) m) t 0 a) t 1 b) t 2 (I 35 10)) t 3 (I 35 11)
theorem tariff_z (xs : Nat → Int32) (L D : Nat) (hD : 7 ≤ D) (I : Nat → Nat → Int32) (J : Nat → Nat → Int64) (X : XH) (a b : Int32) (m : Nat) (hm : m < 400) (h13 : I 35 13 = Int32.ofNat m) (hX : 123 ≤ X.2.2.1) : zev xs L D 64 [.ref 35, .int a, .int b] (zmk I J X) = some (.inr (some (.ref X.2.2.1)), zmk (yTf I X.2.2.1 m a b) J (zXt X m)) := by
  obtain ⟨d, rfl⟩ := Nat.exists_eq_add_of_le hD
  rw [show 7 + d = d + 1 + 6 by omega]
  have e13 : zmx 0 (zmn (I 35 13) 400) = Int32.ofNat m := by
    rw [h13]
    unfold zmn zmx
    rw [if_pos (show Int32.ofNat m ≤ (400 : Int32) from (nat_le (b := 400) (by omega) (by omega)).mpr (by omega))]
    by_cases c : m = 0
    · rw [c]
      rfl
    · exact if_neg (fun z => by
        have z := i32_le.mp z
        rw [i32_toInt (by omega)] at z
        have z0 : (0 : Int32).toInt = 0 := by decide
        omega)
  have S := V64_0 xs L (d + 1) I J X a b
  rw [e13, zmk_alloc I J X _ _ hX, V64_8 xs L (d + 1)] at S
  have cp := copy_z xs L (d + 1 + 5) (by omega) I J (zXa X (18, 0) 5) m hm (show 123 ≤ X.2.2.1 + 1 by omega)
  rw [cp, zqr_r] at S
  have ini := init_z xs L (d + 1 + 5) (by omega) (zcpI I 37 (X.2.2.1 + 1) m) J (zXa (zXa X (18, 0) 5) (0, m) m) X.2.2.1 (X.2.2.1 + 1) a b (I 35 10) (I 35 11) hX (by
    show (if X.2.2.1 = X.2.2.1 + 1 then _ else if X.2.2.1 = X.2.2.1 then _ else _) = _
    rw [if_neg (by omega), if_pos rfl])
  have kt : zrcv (zmk (zcpI I 37 (X.2.2.1 + 1) m) J (zXa (zXa X (18, 0) 5) (0, m) m)) 8 [.ref X.2.2.1, .int a, .int b, .int (I 35 10), .int (I 35 11), .ref (X.2.2.1 + 1)] = true := decide_eq_true ((zmk_K hX).trans (by
    show (if X.2.2.1 = X.2.2.1 + 1 then _ else if X.2.2.1 = X.2.2.1 then _ else _) = _
    rw [if_neg (by omega), if_pos rfl]))
  have zE1 : ∀ (as : List Value) (h : AH), (zE xs L (d + 1 + 5) 64).1 78 as h = zev xs L (d + 1 + 5) 78 as h := fun as h => by
    rw [zE_P]
    rfl
  have hv := (zE1 _ _).trans ini
  have S2 := S.trans (zseg_calln (op := 107) (m := 78) (na := 6) (j := 5508) (g := zgv) (st := [.ref (X.2.2.1 + 1), .int (I 35 11), .int (I 35 10), .int b, .int a, .ref X.2.2.1, .ref X.2.2.1]) rfl ⟨Nat.le_of_ble_eq_true rfl, Nat.le_of_ble_eq_true rfl, Or.inr kt⟩ hv)
  refine (zcS S2).trans ?_
  rfl
theorem book_set (xs : Nat → Int32) (L D : Nat) (hD : 6 ≤ D) (I : Nat → Nat → Int32) (J : Nat → Nat → Int64) (X : XH) (p t : Nat) (hp : p < 45) (ht : 123 ≤ t) (hk : X.2.1 t = (18, 0)) : zev xs L D 3 [.ref 15, .int (Int32.ofNat p), .ref t] (zmk I J X) = some (.inr none, zmk I J (zXr X 18 p (some t))) := by
  obtain ⟨d, rfl⟩ := Nat.exists_eq_add_of_le hD
  rw [Nat.add_comm 6 d]
  have S : zseg (zE xs L (d + 5) 3) (zC 3) 700 (zC 3 0) [(0, .ref 15), (1, .int (Int32.ofNat p)), (2, .ref t)] [] (zmk I J X) = some (.inr (.inr none, zmk I J (zXr X 18 p (some t)))) := by
    refine (zb_neg (p := Int32.ofNat p < 0) (fun z => by
      have z := (nat_lt (a := p) (b := 0) (by omega) (by omega)).mp z
      omega)).trans ?_
    refine (zb_neg (p := Int32.ofNat 45 ≤ Int32.ofNat p) (fun z => by
      have z := (nat_le (a := 45) (b := p) (by omega) (by omega)).mp z
      omega)).trans ?_
    refine (if_pos (show zin (zmk I J X) 18 3 (Int32.ofNat p) ∧ hK (zmk I J X) t = (18, 0) from ⟨zix_nat (t := 3) (n := 45) rfl (by omega) (by omega), (zmk_K ht).trans hk⟩)).trans ?_
    show some (Sum.inr (Sum.inr none, setR (zmk I J X) 18 (Int32.ofNat p).toNatClampNeg (some t))) = _
    rw [i32_clamp (by omega), zmk_setR I J X 18 p (some t) (Or.inl rfl)]
  refine (zcS S).trans ?_
  rfl
theorem book_null (xs : Nat → Int32) (L D : Nat) (hD : 6 ≤ D) (I : Nat → Nat → Int32) (J : Nat → Nat → Int64) (X : XH) (p : Nat) (hp : p < 45) : zev xs L D 3 [.ref 15, .int (Int32.ofNat p), .null] (zmk I J X) = some (.inr none, zmk I J (zXr X 18 p none)) := by
  obtain ⟨d, rfl⟩ := Nat.exists_eq_add_of_le hD
  rw [Nat.add_comm 6 d]
  have S : zseg (zE xs L (d + 5) 3) (zC 3) 700 (zC 3 0) [(0, .ref 15), (1, .int (Int32.ofNat p)), (2, .null)] [] (zmk I J X) = some (.inr (.inr none, zmk I J (zXr X 18 p none))) := by
    refine (zb_neg (p := Int32.ofNat p < 0) (fun z => by
      have z := (nat_lt (a := p) (b := 0) (by omega) (by omega)).mp z
      omega)).trans ?_
    refine (zb_neg (p := Int32.ofNat 45 ≤ Int32.ofNat p) (fun z => by
      have z := (nat_le (a := 45) (b := p) (by omega) (by omega)).mp z
      omega)).trans ?_
    refine (if_pos (show zin (zmk I J X) 18 3 (Int32.ofNat p) from zix_nat (t := 3) (n := 45) rfl (by omega) (by omega))).trans ?_
    show some (Sum.inr (Sum.inr none, setR (zmk I J X) 18 (Int32.ofNat p).toNatClampNeg none)) = _
    rw [i32_clamp (by omega), zmk_setR I J X 18 p none (Or.inl rfl)]
  refine (zcS S).trans ?_
  rfl
theorem book_add (xs : Nat → Int32) (L D : Nat) (hD : 7 ≤ D) (I : Nat → Nat → Int32) (J : Nat → Nat → Int64) (X : XH) (l m t : Nat) (hl : l < 9) (hm : m < 5) (h19 : I 19 l = Int32.ofNat m) (ht : 123 ≤ t) (hk : X.2.1 t = (18, 0)) : zev xs L D 2 [.ref 15, .int (Int32.ofNat l), .ref t] (zmk I J X) = some (.inr none, zmk (zup I 19 l (Int32.ofNat (m + 1))) J (zXr X 18 (5 * l + m) (some t))) := by
  obtain ⟨d, rfl⟩ := Nat.exists_eq_add_of_le hD
  rw [show 7 + d = d + 1 + 6 by omega]
  have S := zcS (as := [.ref 15, .int (Int32.ofNat l), .ref t]) (S2_0 xs L (d + 1) I J X (Int32.ofNat l) t)
  have ep : Int32.ofNat l * (5 : Int32) + Int32.ofNat m = Int32.ofNat (5 * l + m) := by
    show Int32.ofNat l * Int32.ofNat 5 + Int32.ofNat m = _
    rw [nat_mul, nat_add, Nat.mul_comm l 5]
  rw [zat_nat (by omega) (by omega), h19, ep, book_set xs L (d + 1 + 5) (by omega) I J X (5 * l + m) t (by omega) ht hk, zcw_v, T2_0_11_689 xs L (d + 1), zat_nat (by omega) (by omega), h19, zput_nat (by omega) (by omega), nat_succ] at S
  exact S
theorem book_drop (xs : Nat → Int32) (L D : Nat) (hD : 7 ≤ D) (I : Nat → Nat → Int32) (J : Nat → Nat → Int64) (X : XH) (l m : Nat) (hl : l < 9) (hm : m < 5) (h19 : I 19 l = Int32.ofNat (m + 1)) : zev xs L D 6 [.ref 15, .int (Int32.ofNat l)] (zmk I J X) = some (.inr none, zmk (zup I 19 l (Int32.ofNat m)) J (zXr X 18 (5 * l + m) none)) := by
  obtain ⟨d, rfl⟩ := Nat.exists_eq_add_of_le hD
  rw [show 7 + d = d + 1 + 6 by omega]
  have S := zcS (as := [.ref 15, .int (Int32.ofNat l)]) (S6_0 xs L (d + 1) I J X (Int32.ofNat l))
  have ep : Int32.ofNat l * (5 : Int32) + Int32.ofNat m = Int32.ofNat (5 * l + m) := by
    show Int32.ofNat l * Int32.ofNat 5 + Int32.ofNat m = _
    rw [nat_mul, nat_add, Nat.mul_comm l 5]
  have e1 : Int32.ofNat (m + 1) - 1 = Int32.ofNat m := by
    rw [← nat_succ, Int32.add_sub_cancel]
  have g1 : zat I 19 9 (Int32.ofNat l) = Int32.ofNat (m + 1) := (zat_nat (by omega) (by omega)).trans h19
  have g2 : zat (zup I 19 l (Int32.ofNat m)) 19 9 (Int32.ofNat l) = Int32.ofNat m := (zat_nat (by omega) (by omega)).trans zup_at
  rw [g1, e1, zput_nat (by omega) (by omega), g2, ep, book_null xs L (d + 1 + 5) (by omega) _ J X (5 * l + m) (by omega), zcw_v, T6_0_21_679 xs L (d + 1)] at S
  exact S
