/-! THE PURE PART: track, the model. -/
theorem add0_w (a w : Int32) (h : w = 0) : a + w = a := by
  rw [h, Int32.add_zero]
theorem trm_loop (xs : Nat → Int32) (L d : Nat) {V M : Nat → Nat → Int32} (J : Nat → Nat → Int64) (X : XH) {C : Nat → List (Bool × List Int32)} (k w a1 : Int32) (b n : Nat) (hw : 2 ≤ w.toInt ∧ w.toInt ≤ 5) (h66 : M 66 = V 66) (hV : nv (V 61 4) ≤ 40) (h76 : M 61 76 = Int32.ofNat n) (hn : n ≤ 7200) : ∀ (l : List ZP) (i : Nat) (G : Nat → Int32) (s : Int32), yr3 M i l → yric V C k b M i G l → (∀ x, x ∈ l → zPok V x) → i + l.length = n → zgo xs L (d + 5) 182 8 [(0, .ref 61), (1, .int a1), (2, .int w), (3, .int k), (4, .int s), (5, .int (Int32.ofNat i))] (zmk M J X) = some (.inr (some (.int (ytl V C k b w G l s))), zmk M J X)
  | [], i, G, s, h3, hr, hx, hi => by
    have hi : i = n := hi
    rw [zgo_q, S182_8 xs L d, h76, if_pos (decide_eq_true ((nat_le (by omega) (by omega)).mpr (by omega)))]
    rfl
  | x :: l, i, G, s, h3, hr, hx, hi => by
    have hlen : (x :: l).length = l.length + 1 := List.length_cons
    obtain ⟨⟨g1, g2, g3⟩, h3'⟩ := h3
    obtain ⟨⟨r1, r2, r3⟩, hr'⟩ := hr
    have hx1 := (hx x (List.mem_cons_self)).1
    have ei : (Int32.ofNat i).toNatClampNeg = i := i32_clamp (by omega)
    have zi : ∀ t, zix t 8000 t (Int32.ofNat i) := fun t => zix_nat rfl (by omega) (by omega)
    have zr : zix 0 40 0 (M 112 (Int32.ofNat i).toNatClampNeg) := by
      rw [ei, g1]
      exact zix_nat rfl (by omega) (by omega)
    have er : M 66 (M 112 (Int32.ofNat i).toNatClampNeg).toNatClampNeg = V 66 x.1 := by
      rw [ei, g1, h66, i32_clamp (by omega)]
    have e115 : M 115 (Int32.ofNat i).toNatClampNeg = ych V C k b x (G (zcell V x)) := by rw [ei, r3]
    have e114 : M 114 (Int32.ofNat i).toNatClampNeg = x.2.2.1 := by rw [ei, g3]
    have e118 : M 118 (Int32.ofNat i).toNatClampNeg = if x.2.2.2 = true then 1 else 0 := by rw [ei, r1]
    have ih := trm_loop xs L d J X k w a1 b n hw h66 hV h76 hn l (i + 1) (zgn V x G) (s + ytv V C k b w x (G (zcell V x))) h3' hr' (fun y hy => hx y (List.mem_cons_of_mem _ hy)) (by omega)
    rw [zgo_q, S182_8 xs L d, h76, if_neg (fun z => by
      have := (nat_le (by omega) (by omega)).mp (of_decide_eq_true z)
      omega)]
    have n0 : ¬ w = 0 := fun z => by
      rw [z] at hw
      exact absurd hw.1 (by decide)
    have n1 : ¬ w = 1 := fun z => by
      rw [z] at hw
      exact absurd hw.1 (by decide)
    refine Eq.trans ?_ ih
    unfold ytv
    rw [if_neg n0, if_neg n1]
    by_cases c2 : w = 2
    · rw [if_neg (fun z => (of_decide_eq_true z) c2), if_pos (zi 0), e115, if_pos c2, zth_go, nat_succ]
    rw [if_pos (decide_eq_true c2), if_neg c2]
    by_cases c3 : w = 3
    · rw [if_neg (fun z => (of_decide_eq_true z) c3), if_pos (zi 0), if_pos zr, er, if_pos c3, zth_go, nat_succ]
    rw [if_pos (decide_eq_true c3), if_neg c3]
    by_cases c4 : w = 4
    · rw [if_neg (fun z => (of_decide_eq_true z) c4), if_pos (zi 1), e118, if_pos c4]
      by_cases q : x.2.2.2 = true
      · rw [if_pos q, if_neg (by decide), zth_go, nat_succ]
      · rw [if_neg q, if_pos (by decide), zth_go, nat_succ]
    rw [if_pos (decide_eq_true c4), if_neg c4, if_pos (zi 0), e114]
    by_cases q : x.2.2.1 = -1
    · rw [if_neg (fun z => (of_decide_eq_true z) q), if_pos q, zth_go, nat_succ]
    · rw [if_pos (decide_eq_true q), if_neg q, zth_go, nat_succ]
theorem ytl_0 (V : Nat → Nat → Int32) (C : Nat → List (Bool × List Int32)) (k w : Int32) (b : Nat) (hw : w = 0) : ∀ (l : List ZP) (G : Nat → Int32) (i : Nat), ytl V C k b w G l (Int32.ofNat i) = Int32.ofNat (i + l.length)
  | [], _, _ => rfl
  | x :: l, G, i => by
    have e : ytv V C k b w x (G (zcell V x)) = 1 := if_pos hw
    show ytl V C k b w (zgn V x G) l (Int32.ofNat i + ytv V C k b w x (G (zcell V x))) = _
    rw [e, nat_succ, ytl_0 V C k w b hw l _ (i + 1), List.length_cons, Nat.add_right_comm, Nat.add_assoc]
