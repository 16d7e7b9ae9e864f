/-! THE PURE PART: one turn of the law's loop, call by call. Written by program (wip/whole/mk9799.py). -/
theorem law_E {xs : Nat → Int32} {L D m q : Nat} {as : List Value} {h : AH} : (zE xs L D m).1 q as h = zev xs L D q as h := by
  rw [zE_P]
  rfl
theorem law_xk (p L k : Nat) (hk : k ≤ 6) (hp : p + 7 ≤ L) (hL : L ≤ 3584) : ¬ (Int32.ofNat p + Int32.ofNat k < 0 ∨ L ≤ (Int32.ofNat p + Int32.ofNat k).toNatClampNeg) ∧ (Int32.ofNat p + Int32.ofNat k).toNatClampNeg = p + k := by
  rw [nat_add, i32_clamp (by omega)]
  refine ⟨fun z => ?_, rfl⟩
  rcases z with z | z
  · have z := i32_lt.mp z
    rw [i32_toInt (by omega)] at z
    have : (0 : Int32).toInt = 0 := by decide
    omega
  · omega
theorem e141 (xs : Nat → Int32) (L D : Nat) (hD : 6 ≤ D) (I : Nat → Nat → Int32) (J : Nat → Nat → Int64) (X : XH) : zev xs L D 141 [.ref 61] (zmk I J X) = some (.inr (some (.int (I 61 1))), zmk I J X) := by
  obtain ⟨d, rfl⟩ := Nat.exists_eq_add_of_le hD
  rw [Nat.add_comm 6 d]
  have S : zseg (zE xs L (d + 5) 141) (zC 141) 700 (zC 141 0) [(0, .ref 61)] [] (zmk I J X) = some (.inr (.inr (some (.int (I 61 1))), zmk I J X)) := rfl
  refine (zcS S).trans ?_
  rfl
theorem law_2 (xs : Nat → Int32) (L D p : Nat) (h : AH) (hL : L ≤ 3584) (hb : p < 2147483648) : zgo xs L D 239 2 (yLO p) h = if L < p + 7 then some (.inr (some (.int 1)), h) else zth xs L D 239 (zswgo (fun b => zseg (zE xs L D 239) (zC 239) 688 (zC 239 b)) 30 (xs p &&& 31) (yLO p) [] h (zSW 9).1) := by
  have S : zseg (zE xs L D 239) (zC 239) 700 (zC 239 2) (yLO p) [] h = if decide (Int32.ofNat L - 7 < Int32.ofNat p) = true then some (.inr (.inr (some (.int 1)), h)) else if (99 : UInt32) = 99 ∧ ¬ (Int32.ofNat p < 0 ∨ L ≤ (Int32.ofNat p).toNatClampNeg) then zswgo (fun b => zseg (zE xs L D 239) (zC 239) 688 (zC 239 b)) 30 (xs (Int32.ofNat p).toNatClampNeg &&& 31) (yLO p) [] h (zSW 9).1 else none := by
    refine zite_congr ?_ ?_
    · rfl
    · refine zite_congr ?_ ?_
      · rfl
      · rfl
  have e7 : (Int32.ofNat L - 7).toInt = (L : Int) - 7 := by
    have h7 : (7 : Int32).toInt = 7 := by decide
    rw [i32_sub (by rw [h7, i32_toInt (by omega)]; omega) (by rw [h7, i32_toInt (by omega)]; omega), h7, i32_toInt (by omega)]
  have ep : (Int32.ofNat p).toInt = p := i32_toInt hb
  have hz : p + 7 ≤ L → ¬ (Int32.ofNat p < 0 ∨ L ≤ (Int32.ofNat p).toNatClampNeg) := fun c z => by
    rcases z with z | z
    · have z := i32_lt.mp z
      rw [ep] at z
      have : (0 : Int32).toInt = 0 := by decide
      omega
    · rw [i32_clamp (by omega)] at z
      omega
  rw [zgo_q, S]
  by_cases c : L < p + 7
  · rw [if_pos c, if_pos (decide_eq_true (i32_lt.mpr (by
      rw [e7, ep]
      omega)))]
    rfl
  · rw [if_neg (fun z => by
      have z := i32_lt.mp (of_decide_eq_true z)
      rw [e7, ep] at z
      omega), if_neg c, if_pos ⟨rfl, hz (by omega)⟩, i32_clamp (by omega)]
theorem yb239_4 : zC 239 4 = [(160, 7, 1, 1, 0, 0), (161, 90, 100, 1, 8511, 0), (164, 7, 2, 1, 0, 0), (165, 90, 142, 1, 8912, 0), (168, 48, 30, 0, 0, 0), (171, 1, 0, 0, 0, 0), (172, 103, 0, 0, 0, 0)] := rfl
theorem law_land (xs : Nat → Int32) (L D p : Nat) (hD : 6 ≤ D) (hp : p + 7 ≤ L) (hL : L ≤ 3584) (hc : xs p &&& 31 = 0) (I : Nat → Nat → Int32) (J : Nat → Nat → Int64) (X : XH) (v : Int32) {I1 I2 : Nat → Nat → Int32} (eW : zev xs L D 100 [.ref 0] (zmk I J X) = some (.inr (some (.int v)), zmk I1 J X)) (eM : zev xs L D 142 [.ref 61] (zmk I1 J X) = some (.inr (some (.int v)), zmk I2 J X)) : zgo xs L D 239 2 (yLO p) (zmk I J X) = zgo xs L D 239 2 (yLO (p + 7)) (zmk I2 J X) := by
  have H := law_2 xs L D p (zmk I J X) hL (by omega)
  rw [if_neg (by omega), hc, show zswgo (fun b => zseg (zE xs L D 239) (zC 239) 688 (zC 239 b)) 30 0 (yLO p) [] (zmk I J X) (zSW 9).1 = zseg (zE xs L D 239) (zC 239) 688 (zC 239 4) (yLO p) [] (zmk I J X) from rfl] at H
  refine (H.trans (congrArg (zth xs L D 239) (?_ : _ = some (.inl (2, yLO (p + 7), zmk I2 J X))))).trans zth_go
  rw [yb239_4]
  refine (u_a 0 rfl).trans ?_
  refine (u_ci [.ref 0] rfl rfl ⟨Nat.le_of_ble_eq_true rfl, Nat.le_of_ble_eq_true rfl⟩ rfl (law_E.trans eW)).trans ?_
  refine (u_a 61 rfl).trans ?_
  refine (u_ci [.ref 61] rfl rfl ⟨Nat.le_of_ble_eq_true rfl, Nat.le_of_ble_eq_true rfl⟩ rfl (law_E.trans eM)).trans ?_
  refine (u_eq2 rfl).trans ?_
  exact law_30 ⟨rfl, rfl⟩
theorem yb239_5 : zC 239 5 = [(173, 7, 1, 1, 0, 0), (174, 7, 0, 1, 0, 0), (175, 5, 4, 0, 0, 0), (177, 1, 0, 0, 0, 1), (178, 12, 0, 0, 0, 0), (179, 81, 0, 0, 0, 0), (180, 7, 0, 1, 0, 0), (181, 5, 4, 0, 0, 0), (183, 1, 0, 0, 0, 2), (184, 12, 0, 0, 0, 0), (185, 81, 0, 0, 0, 0), (186, 7, 0, 1, 0, 0), (187, 5, 4, 0, 0, 0), (189, 1, 0, 0, 0, 3), (190, 12, 0, 0, 0, 0), (191, 81, 0, 0, 0, 0), (192, 7, 0, 1, 0, 0), (193, 5, 4, 0, 0, 0), (195, 1, 0, 0, 0, 4), (196, 12, 0, 0, 0, 0), (197, 81, 0, 0, 0, 0), (198, 7, 0, 1, 0, 0), (199, 5, 4, 0, 0, 0), (201, 1, 0, 0, 0, 5), (202, 12, 0, 0, 0, 0), (203, 81, 0, 0, 0, 0), (204, 7, 0, 1, 0, 0), (205, 5, 4, 0, 0, 0), (207, 1, 0, 1, 0, 6), (209, 12, 0, 0, 0, 0), (210, 81, 0, 0, 0, 0), (211, 42, 31, 0, 0, 0), (214, 1, 0, 0, 0, 1), (215, 55, 32, 0, 0, 0)] := rfl
theorem yb239_31 : zC 239 31 = [(218, 1, 0, 0, 0, 0), (219, 56, 32, 0, 0, 0)] := rfl
theorem yb239_32 : zC 239 32 = [(219, 7, 3, 1, 0, 0), (220, 105, 214, 8, 9099, 6), (223, 8, 5, 0, 0, 0), (225, 7, 2, 1, 0, 0), (226, 7, 0, 1, 0, 0), (227, 5, 4, 0, 0, 0), (229, 1, 0, 0, 0, 1), (230, 12, 0, 0, 0, 0), (231, 81, 0, 0, 0, 0), (232, 7, 0, 1, 0, 0), (233, 5, 4, 0, 0, 0), (235, 1, 0, 0, 0, 2), (236, 12, 0, 0, 0, 0), (237, 81, 0, 0, 0, 0), (238, 7, 0, 1, 0, 0), (239, 5, 4, 0, 0, 0), (241, 1, 0, 0, 0, 3), (242, 12, 0, 0, 0, 0), (243, 81, 0, 0, 0, 0), (244, 7, 0, 1, 0, 0), (245, 5, 4, 0, 0, 0), (247, 1, 0, 0, 0, 4), (248, 12, 0, 0, 0, 0), (249, 81, 0, 0, 0, 0), (250, 7, 0, 1, 0, 0), (251, 5, 4, 0, 0, 0), (253, 1, 0, 0, 0, 5), (254, 12, 0, 0, 0, 0), (255, 81, 0, 0, 0, 0), (256, 7, 0, 1, 0, 0), (257, 5, 4, 0, 0, 0), (259, 1, 0, 1, 0, 6), (261, 12, 0, 0, 0, 0), (262, 81, 0, 0, 0, 0), (263, 42, 52, 0, 0, 0), (266, 1, 0, 0, 0, 1), (267, 55, 53, 0, 0, 0)] := rfl
theorem yb239_52 : zC 239 52 = [(270, 1, 0, 0, 0, 0), (271, 56, 53, 0, 0, 0)] := rfl
theorem yb239_53 : zC 239 53 = [(271, 90, 143, 7, 9512, 0), (274, 8, 6, 0, 0, 0), (276, 7, 2, 1, 0, 0), (277, 90, 141, 1, 9612, 0), (280, 5, 5, 0, 0, 0), (282, 48, 79, 0, 0, 0), (285, 1, 0, 0, 0, 0), (286, 103, 0, 0, 0, 0)] := rfl
theorem yb239_79 : zC 239 79 = [(287, 5, 5, 0, 0, 0), (289, 43, 81, 0, 0, 0), (292, 7, 3, 1, 0, 0), (293, 1, 0, 0, 0, 0), (294, 72, 0, 0, 0, 0), (295, 5, 6, 0, 0, 0), (297, 34, 0, 0, 0, 0), (298, 36, 0, 0, 0, 0), (299, 42, 81, 0, 0, 0), (302, 1, 0, 0, 0, 0), (303, 103, 0, 0, 0, 0)] := rfl
theorem yb239_81 : zC 239 81 = [(304, 55, 30, 0, 0, 0)] := rfl
theorem law_road (xs : Nat → Int32) (L D p : Nat) (hD : 6 ≤ D) (hp : p + 7 ≤ L) (hL : L ≤ 3584) (hc : xs p &&& 31 = 1) (I : Nat → Nat → Int32) (J : Nat → Nat → Int64) (X : XH) (b6 : Int32) (hb : b6 = if xs (p + 6) = 0 then 0 else 1) (k : Int32) (v : Int32) {I1 I2 : Nat → Nat → Int32} {J1 J2 : Nat → Nat → Int64} {X2 : XH} (eW : zev xs L D 214 [.ref 0, .int (xs (p + 1)), .int (xs (p + 2)), .int (xs (p + 3)), .int (xs (p + 4)), .int (xs (p + 5)), .int b6, .ref 122] (zmk I J X) = some (.inr (some (.int k)), zmk I1 J1 X2)) (eM : zev xs L D 143 [.ref 61, .int (xs (p + 1)), .int (xs (p + 2)), .int (xs (p + 3)), .int (xs (p + 4)), .int (xs (p + 5)), .int b6] (zmk I1 J1 X2) = some (.inr (some (.int v)), zmk I2 J2 X2)) (h1 : I2 61 1 = k) (hk : k = 0 → J2 122 0 = v.toInt64) : zgo xs L D 239 2 (yLO p) (zmk I J X) = zgo xs L D 239 2 (yLO (p + 7)) (zmk I2 J2 X2) := by
  have H := law_2 xs L D p (zmk I J X) hL (by omega)
  rw [if_neg (by omega), hc, show zswgo (fun b => zseg (zE xs L D 239) (zC 239) 688 (zC 239 b)) 30 1 (yLO p) [] (zmk I J X) (zSW 9).1 = zseg (zE xs L D 239) (zC 239) 688 (zC 239 5) (yLO p) [] (zmk I J X) from rfl] at H
  refine (H.trans (congrArg (zth xs L D 239) (?_ : _ = some (.inl (2, yLO (p + 7), zmk I2 J2 X2))))).trans zth_go
  by_cases cb : xs (p + 6) = 0
  · rw [if_pos cb] at hb
    subst hb
    rw [yb239_5]
    refine (u_a 0 rfl).trans ?_
    refine (u_x (Int32.ofNat p) (xs (p + 1)) rfl rfl (law_xk p L 1 (by decide) hp hL).1 (congrArg xs (law_xk p L 1 (by decide) hp hL).2)).trans ?_
    refine (u_x (Int32.ofNat p) (xs (p + 2)) rfl rfl (law_xk p L 2 (by decide) hp hL).1 (congrArg xs (law_xk p L 2 (by decide) hp hL).2)).trans ?_
    refine (u_x (Int32.ofNat p) (xs (p + 3)) rfl rfl (law_xk p L 3 (by decide) hp hL).1 (congrArg xs (law_xk p L 3 (by decide) hp hL).2)).trans ?_
    refine (u_x (Int32.ofNat p) (xs (p + 4)) rfl rfl (law_xk p L 4 (by decide) hp hL).1 (congrArg xs (law_xk p L 4 (by decide) hp hL).2)).trans ?_
    refine (u_x (Int32.ofNat p) (xs (p + 5)) rfl rfl (law_xk p L 5 (by decide) hp hL).1 (congrArg xs (law_xk p L 5 (by decide) hp hL).2)).trans ?_
    refine (u_x (Int32.ofNat p) (xs (p + 6)) rfl rfl (law_xk p L 6 (by decide) hp hL).1 (congrArg xs (law_xk p L 6 (by decide) hp hL).2)).trans ?_
    refine (u_ifeq_y cb).trans ?_
    rw [yb239_31]
    refine u_const.trans ?_
    refine u_fall.trans ?_
    rw [yb239_32]
    refine (u_a 122 rfl).trans ?_
    refine (u_ni [.ref 0, .int (xs (p + 1)), .int (xs (p + 2)), .int (xs (p + 3)), .int (xs (p + 4)), .int (xs (p + 5)), .int (0), .ref 122] rfl rfl ⟨Nat.le_of_ble_eq_true rfl, Nat.le_of_ble_eq_true rfl, rfl⟩ (law_E.trans eW)).trans ?_
    refine (u_is ((5, .int k) :: yLO p) rfl).trans ?_
    refine (u_a 61 rfl).trans ?_
    refine (u_x (Int32.ofNat p) (xs (p + 1)) rfl rfl (law_xk p L 1 (by decide) hp hL).1 (congrArg xs (law_xk p L 1 (by decide) hp hL).2)).trans ?_
    refine (u_x (Int32.ofNat p) (xs (p + 2)) rfl rfl (law_xk p L 2 (by decide) hp hL).1 (congrArg xs (law_xk p L 2 (by decide) hp hL).2)).trans ?_
    refine (u_x (Int32.ofNat p) (xs (p + 3)) rfl rfl (law_xk p L 3 (by decide) hp hL).1 (congrArg xs (law_xk p L 3 (by decide) hp hL).2)).trans ?_
    refine (u_x (Int32.ofNat p) (xs (p + 4)) rfl rfl (law_xk p L 4 (by decide) hp hL).1 (congrArg xs (law_xk p L 4 (by decide) hp hL).2)).trans ?_
    refine (u_x (Int32.ofNat p) (xs (p + 5)) rfl rfl (law_xk p L 5 (by decide) hp hL).1 (congrArg xs (law_xk p L 5 (by decide) hp hL).2)).trans ?_
    refine (u_x (Int32.ofNat p) (xs (p + 6)) rfl rfl (law_xk p L 6 (by decide) hp hL).1 (congrArg xs (law_xk p L 6 (by decide) hp hL).2)).trans ?_
    refine (u_ifeq_y cb).trans ?_
    rw [yb239_52]
    refine u_const.trans ?_
    refine u_fall.trans ?_
    rw [yb239_53]
    refine (u_ci [.ref 61, .int (xs (p + 1)), .int (xs (p + 2)), .int (xs (p + 3)), .int (xs (p + 4)), .int (xs (p + 5)), .int (0)] rfl rfl ⟨Nat.le_of_ble_eq_true rfl, Nat.le_of_ble_eq_true rfl⟩ rfl (law_E.trans eM)).trans ?_
    refine (u_is ((6, .int v) :: (5, .int k) :: yLO p) rfl).trans ?_
    refine (u_a 61 rfl).trans ?_
    refine (u_ci [.ref 61] rfl rfl ⟨Nat.le_of_ble_eq_true rfl, Nat.le_of_ble_eq_true rfl⟩ rfl (law_E.trans (e141 xs L D hD _ _ _))).trans ?_
    refine (u_i k rfl).trans ?_
    refine (u_eq2 h1).trans ?_
    rw [yb239_79]
    exact law_ti k v rfl rfl rfl ⟨rfl, rfl⟩ yb239_81 hk
  · rw [if_neg cb] at hb
    subst hb
    rw [yb239_5]
    refine (u_a 0 rfl).trans ?_
    refine (u_x (Int32.ofNat p) (xs (p + 1)) rfl rfl (law_xk p L 1 (by decide) hp hL).1 (congrArg xs (law_xk p L 1 (by decide) hp hL).2)).trans ?_
    refine (u_x (Int32.ofNat p) (xs (p + 2)) rfl rfl (law_xk p L 2 (by decide) hp hL).1 (congrArg xs (law_xk p L 2 (by decide) hp hL).2)).trans ?_
    refine (u_x (Int32.ofNat p) (xs (p + 3)) rfl rfl (law_xk p L 3 (by decide) hp hL).1 (congrArg xs (law_xk p L 3 (by decide) hp hL).2)).trans ?_
    refine (u_x (Int32.ofNat p) (xs (p + 4)) rfl rfl (law_xk p L 4 (by decide) hp hL).1 (congrArg xs (law_xk p L 4 (by decide) hp hL).2)).trans ?_
    refine (u_x (Int32.ofNat p) (xs (p + 5)) rfl rfl (law_xk p L 5 (by decide) hp hL).1 (congrArg xs (law_xk p L 5 (by decide) hp hL).2)).trans ?_
    refine (u_x (Int32.ofNat p) (xs (p + 6)) rfl rfl (law_xk p L 6 (by decide) hp hL).1 (congrArg xs (law_xk p L 6 (by decide) hp hL).2)).trans ?_
    refine (u_ifeq_n cb).trans ?_
    refine u_const.trans ?_
    refine u_goto.trans ?_
    rw [yb239_32]
    refine (u_a 122 rfl).trans ?_
    refine (u_ni [.ref 0, .int (xs (p + 1)), .int (xs (p + 2)), .int (xs (p + 3)), .int (xs (p + 4)), .int (xs (p + 5)), .int (1), .ref 122] rfl rfl ⟨Nat.le_of_ble_eq_true rfl, Nat.le_of_ble_eq_true rfl, rfl⟩ (law_E.trans eW)).trans ?_
    refine (u_is ((5, .int k) :: yLO p) rfl).trans ?_
    refine (u_a 61 rfl).trans ?_
    refine (u_x (Int32.ofNat p) (xs (p + 1)) rfl rfl (law_xk p L 1 (by decide) hp hL).1 (congrArg xs (law_xk p L 1 (by decide) hp hL).2)).trans ?_
    refine (u_x (Int32.ofNat p) (xs (p + 2)) rfl rfl (law_xk p L 2 (by decide) hp hL).1 (congrArg xs (law_xk p L 2 (by decide) hp hL).2)).trans ?_
    refine (u_x (Int32.ofNat p) (xs (p + 3)) rfl rfl (law_xk p L 3 (by decide) hp hL).1 (congrArg xs (law_xk p L 3 (by decide) hp hL).2)).trans ?_
    refine (u_x (Int32.ofNat p) (xs (p + 4)) rfl rfl (law_xk p L 4 (by decide) hp hL).1 (congrArg xs (law_xk p L 4 (by decide) hp hL).2)).trans ?_
    refine (u_x (Int32.ofNat p) (xs (p + 5)) rfl rfl (law_xk p L 5 (by decide) hp hL).1 (congrArg xs (law_xk p L 5 (by decide) hp hL).2)).trans ?_
    refine (u_x (Int32.ofNat p) (xs (p + 6)) rfl rfl (law_xk p L 6 (by decide) hp hL).1 (congrArg xs (law_xk p L 6 (by decide) hp hL).2)).trans ?_
    refine (u_ifeq_n cb).trans ?_
    refine u_const.trans ?_
    refine u_goto.trans ?_
    rw [yb239_53]
    refine (u_ci [.ref 61, .int (xs (p + 1)), .int (xs (p + 2)), .int (xs (p + 3)), .int (xs (p + 4)), .int (xs (p + 5)), .int (1)] rfl rfl ⟨Nat.le_of_ble_eq_true rfl, Nat.le_of_ble_eq_true rfl⟩ rfl (law_E.trans eM)).trans ?_
    refine (u_is ((6, .int v) :: (5, .int k) :: yLO p) rfl).trans ?_
    refine (u_a 61 rfl).trans ?_
    refine (u_ci [.ref 61] rfl rfl ⟨Nat.le_of_ble_eq_true rfl, Nat.le_of_ble_eq_true rfl⟩ rfl (law_E.trans (e141 xs L D hD _ _ _))).trans ?_
    refine (u_i k rfl).trans ?_
    refine (u_eq2 h1).trans ?_
    rw [yb239_79]
    exact law_ti k v rfl rfl rfl ⟨rfl, rfl⟩ yb239_81 hk
theorem yb239_6 : zC 239 6 = [(307, 7, 1, 1, 0, 0), (308, 7, 0, 1, 0, 0), (309, 5, 4, 0, 0, 0), (311, 1, 0, 0, 0, 1), (312, 12, 0, 0, 0, 0), (313, 81, 0, 0, 0, 0), (314, 90, 101, 2, 9911, 0), (317, 7, 2, 1, 0, 0), (318, 7, 0, 1, 0, 0), (319, 5, 4, 0, 0, 0), (321, 1, 0, 0, 0, 1), (322, 12, 0, 0, 0, 0), (323, 81, 0, 0, 0, 0), (324, 90, 146, 2, 10212, 0), (327, 48, 30, 0, 0, 0), (330, 1, 0, 0, 0, 0), (331, 103, 0, 0, 0, 0)] := rfl
theorem law_provider (xs : Nat → Int32) (L D p : Nat) (hD : 6 ≤ D) (hp : p + 7 ≤ L) (hL : L ≤ 3584) (hc : xs p &&& 31 = 2) (I : Nat → Nat → Int32) (J : Nat → Nat → Int64) (X : XH) (v : Int32) {I1 I2 : Nat → Nat → Int32} (eW : zev xs L D 101 [.ref 0, .int (xs (p + 1))] (zmk I J X) = some (.inr (some (.int v)), zmk I1 J X)) (eM : zev xs L D 146 [.ref 61, .int (xs (p + 1))] (zmk I1 J X) = some (.inr (some (.int v)), zmk I2 J X)) : zgo xs L D 239 2 (yLO p) (zmk I J X) = zgo xs L D 239 2 (yLO (p + 7)) (zmk I2 J X) := by
  have H := law_2 xs L D p (zmk I J X) hL (by omega)
  rw [if_neg (by omega), hc, show zswgo (fun b => zseg (zE xs L D 239) (zC 239) 688 (zC 239 b)) 30 2 (yLO p) [] (zmk I J X) (zSW 9).1 = zseg (zE xs L D 239) (zC 239) 688 (zC 239 6) (yLO p) [] (zmk I J X) from rfl] at H
  refine (H.trans (congrArg (zth xs L D 239) (?_ : _ = some (.inl (2, yLO (p + 7), zmk I2 J X))))).trans zth_go
  rw [yb239_6]
  refine (u_a 0 rfl).trans ?_
  refine (u_x (Int32.ofNat p) (xs (p + 1)) rfl rfl (law_xk p L 1 (by decide) hp hL).1 (congrArg xs (law_xk p L 1 (by decide) hp hL).2)).trans ?_
  refine (u_ci [.ref 0, .int (xs (p + 1))] rfl rfl ⟨Nat.le_of_ble_eq_true rfl, Nat.le_of_ble_eq_true rfl⟩ rfl (law_E.trans eW)).trans ?_
  refine (u_a 61 rfl).trans ?_
  refine (u_x (Int32.ofNat p) (xs (p + 1)) rfl rfl (law_xk p L 1 (by decide) hp hL).1 (congrArg xs (law_xk p L 1 (by decide) hp hL).2)).trans ?_
  refine (u_ci [.ref 61, .int (xs (p + 1))] rfl rfl ⟨Nat.le_of_ble_eq_true rfl, Nat.le_of_ble_eq_true rfl⟩ rfl (law_E.trans eM)).trans ?_
  refine (u_eq2 rfl).trans ?_
  exact law_30 ⟨rfl, rfl⟩
theorem yb239_7 : zC 239 7 = [(332, 7, 1, 1, 0, 0), (333, 7, 0, 1, 0, 0), (334, 5, 4, 0, 0, 0), (336, 1, 0, 0, 0, 1), (337, 12, 0, 0, 0, 0), (338, 81, 0, 0, 0, 0), (339, 7, 0, 1, 0, 0), (340, 5, 4, 0, 0, 0), (342, 1, 0, 0, 0, 2), (343, 12, 0, 0, 0, 0), (344, 81, 0, 0, 0, 0), (345, 90, 103, 3, 10311, 0), (348, 7, 2, 1, 0, 0), (349, 7, 0, 1, 0, 0), (350, 5, 4, 0, 0, 0), (352, 1, 0, 0, 0, 1), (353, 12, 0, 0, 0, 0), (354, 81, 0, 0, 0, 0), (355, 7, 0, 1, 0, 0), (356, 5, 4, 0, 0, 0), (358, 1, 0, 0, 0, 2), (359, 12, 0, 0, 0, 0), (360, 81, 0, 0, 0, 0), (361, 90, 147, 3, 10612, 0), (364, 48, 30, 0, 0, 0), (367, 1, 0, 0, 0, 0), (368, 103, 0, 0, 0, 0)] := rfl
theorem law_lorry (xs : Nat → Int32) (L D p : Nat) (hD : 6 ≤ D) (hp : p + 7 ≤ L) (hL : L ≤ 3584) (hc : xs p &&& 31 = 3) (I : Nat → Nat → Int32) (J : Nat → Nat → Int64) (X : XH) (v : Int32) {I1 I2 : Nat → Nat → Int32} (eW : zev xs L D 103 [.ref 0, .int (xs (p + 1)), .int (xs (p + 2))] (zmk I J X) = some (.inr (some (.int v)), zmk I1 J X)) (eM : zev xs L D 147 [.ref 61, .int (xs (p + 1)), .int (xs (p + 2))] (zmk I1 J X) = some (.inr (some (.int v)), zmk I2 J X)) : zgo xs L D 239 2 (yLO p) (zmk I J X) = zgo xs L D 239 2 (yLO (p + 7)) (zmk I2 J X) := by
  have H := law_2 xs L D p (zmk I J X) hL (by omega)
  rw [if_neg (by omega), hc, show zswgo (fun b => zseg (zE xs L D 239) (zC 239) 688 (zC 239 b)) 30 3 (yLO p) [] (zmk I J X) (zSW 9).1 = zseg (zE xs L D 239) (zC 239) 688 (zC 239 7) (yLO p) [] (zmk I J X) from rfl] at H
  refine (H.trans (congrArg (zth xs L D 239) (?_ : _ = some (.inl (2, yLO (p + 7), zmk I2 J X))))).trans zth_go
  rw [yb239_7]
  refine (u_a 0 rfl).trans ?_
  refine (u_x (Int32.ofNat p) (xs (p + 1)) rfl rfl (law_xk p L 1 (by decide) hp hL).1 (congrArg xs (law_xk p L 1 (by decide) hp hL).2)).trans ?_
  refine (u_x (Int32.ofNat p) (xs (p + 2)) rfl rfl (law_xk p L 2 (by decide) hp hL).1 (congrArg xs (law_xk p L 2 (by decide) hp hL).2)).trans ?_
  refine (u_ci [.ref 0, .int (xs (p + 1)), .int (xs (p + 2))] rfl rfl ⟨Nat.le_of_ble_eq_true rfl, Nat.le_of_ble_eq_true rfl⟩ rfl (law_E.trans eW)).trans ?_
  refine (u_a 61 rfl).trans ?_
  refine (u_x (Int32.ofNat p) (xs (p + 1)) rfl rfl (law_xk p L 1 (by decide) hp hL).1 (congrArg xs (law_xk p L 1 (by decide) hp hL).2)).trans ?_
  refine (u_x (Int32.ofNat p) (xs (p + 2)) rfl rfl (law_xk p L 2 (by decide) hp hL).1 (congrArg xs (law_xk p L 2 (by decide) hp hL).2)).trans ?_
  refine (u_ci [.ref 61, .int (xs (p + 1)), .int (xs (p + 2))] rfl rfl ⟨Nat.le_of_ble_eq_true rfl, Nat.le_of_ble_eq_true rfl⟩ rfl (law_E.trans eM)).trans ?_
  refine (u_eq2 rfl).trans ?_
  exact law_30 ⟨rfl, rfl⟩
theorem yb239_8 : zC 239 8 = [(369, 7, 1, 1, 0, 0), (370, 7, 0, 1, 0, 0), (371, 5, 4, 0, 0, 0), (373, 1, 0, 0, 0, 1), (374, 12, 0, 0, 0, 0), (375, 81, 0, 0, 0, 0), (376, 7, 0, 1, 0, 0), (377, 5, 4, 0, 0, 0), (379, 1, 0, 0, 0, 2), (380, 12, 0, 0, 0, 0), (381, 81, 0, 0, 0, 0), (382, 7, 3, 1, 0, 0), (383, 105, 215, 4, 10799, 6), (386, 8, 5, 0, 0, 0), (388, 7, 2, 1, 0, 0), (389, 7, 0, 1, 0, 0), (390, 5, 4, 0, 0, 0), (392, 1, 0, 0, 0, 1), (393, 12, 0, 0, 0, 0), (394, 81, 0, 0, 0, 0), (395, 7, 0, 1, 0, 0), (396, 5, 4, 0, 0, 0), (398, 1, 0, 0, 0, 2), (399, 12, 0, 0, 0, 0), (400, 81, 0, 0, 0, 0), (401, 90, 148, 3, 11012, 0), (404, 8, 6, 0, 0, 0), (406, 7, 2, 1, 0, 0), (407, 90, 141, 1, 9612, 0), (410, 5, 5, 0, 0, 0), (412, 48, 33, 0, 0, 0), (415, 1, 0, 0, 0, 0), (416, 103, 0, 0, 0, 0)] := rfl
theorem yb239_33 : zC 239 33 = [(417, 5, 5, 0, 0, 0), (419, 43, 54, 0, 0, 0), (422, 7, 3, 1, 0, 0), (423, 1, 0, 0, 0, 0), (424, 72, 0, 0, 0, 0), (425, 5, 6, 0, 0, 0), (427, 34, 0, 0, 0, 0), (428, 36, 0, 0, 0, 0), (429, 42, 54, 0, 0, 0), (432, 1, 0, 0, 0, 0), (433, 103, 0, 0, 0, 0)] := rfl
theorem yb239_54 : zC 239 54 = [(434, 55, 30, 0, 0, 0)] := rfl
theorem law_box (xs : Nat → Int32) (L D p : Nat) (hD : 6 ≤ D) (hp : p + 7 ≤ L) (hL : L ≤ 3584) (hc : xs p &&& 31 = 4) (I : Nat → Nat → Int32) (J : Nat → Nat → Int64) (X : XH) (k : Int32) (v : Int32) {I1 I2 : Nat → Nat → Int32} {J1 J2 : Nat → Nat → Int64} {X2 : XH} (eW : zev xs L D 215 [.ref 0, .int (xs (p + 1)), .int (xs (p + 2)), .ref 122] (zmk I J X) = some (.inr (some (.int k)), zmk I1 J1 X2)) (eM : zev xs L D 148 [.ref 61, .int (xs (p + 1)), .int (xs (p + 2))] (zmk I1 J1 X2) = some (.inr (some (.int v)), zmk I2 J2 X2)) (h1 : I2 61 1 = k) (hk : k = 0 → J2 122 0 = v.toInt64) : zgo xs L D 239 2 (yLO p) (zmk I J X) = zgo xs L D 239 2 (yLO (p + 7)) (zmk I2 J2 X2) := by
  have H := law_2 xs L D p (zmk I J X) hL (by omega)
  rw [if_neg (by omega), hc, show zswgo (fun b => zseg (zE xs L D 239) (zC 239) 688 (zC 239 b)) 30 4 (yLO p) [] (zmk I J X) (zSW 9).1 = zseg (zE xs L D 239) (zC 239) 688 (zC 239 8) (yLO p) [] (zmk I J X) from rfl] at H
  refine (H.trans (congrArg (zth xs L D 239) (?_ : _ = some (.inl (2, yLO (p + 7), zmk I2 J2 X2))))).trans zth_go
  rw [yb239_8]
  refine (u_a 0 rfl).trans ?_
  refine (u_x (Int32.ofNat p) (xs (p + 1)) rfl rfl (law_xk p L 1 (by decide) hp hL).1 (congrArg xs (law_xk p L 1 (by decide) hp hL).2)).trans ?_
  refine (u_x (Int32.ofNat p) (xs (p + 2)) rfl rfl (law_xk p L 2 (by decide) hp hL).1 (congrArg xs (law_xk p L 2 (by decide) hp hL).2)).trans ?_
  refine (u_a 122 rfl).trans ?_
  refine (u_ni [.ref 0, .int (xs (p + 1)), .int (xs (p + 2)), .ref 122] rfl rfl ⟨Nat.le_of_ble_eq_true rfl, Nat.le_of_ble_eq_true rfl, rfl⟩ (law_E.trans eW)).trans ?_
  refine (u_is ((5, .int k) :: yLO p) rfl).trans ?_
  refine (u_a 61 rfl).trans ?_
  refine (u_x (Int32.ofNat p) (xs (p + 1)) rfl rfl (law_xk p L 1 (by decide) hp hL).1 (congrArg xs (law_xk p L 1 (by decide) hp hL).2)).trans ?_
  refine (u_x (Int32.ofNat p) (xs (p + 2)) rfl rfl (law_xk p L 2 (by decide) hp hL).1 (congrArg xs (law_xk p L 2 (by decide) hp hL).2)).trans ?_
  refine (u_ci [.ref 61, .int (xs (p + 1)), .int (xs (p + 2))] rfl rfl ⟨Nat.le_of_ble_eq_true rfl, Nat.le_of_ble_eq_true rfl⟩ rfl (law_E.trans eM)).trans ?_
  refine (u_is ((6, .int v) :: (5, .int k) :: yLO p) rfl).trans ?_
  refine (u_a 61 rfl).trans ?_
  refine (u_ci [.ref 61] rfl rfl ⟨Nat.le_of_ble_eq_true rfl, Nat.le_of_ble_eq_true rfl⟩ rfl (law_E.trans (e141 xs L D hD _ _ _))).trans ?_
  refine (u_i k rfl).trans ?_
  refine (u_eq2 h1).trans ?_
  rw [yb239_33]
  exact law_ti k v rfl rfl rfl ⟨rfl, rfl⟩ yb239_54 hk
theorem yb239_9 : zC 239 9 = [(437, 7, 1, 1, 0, 0), (438, 7, 0, 1, 0, 0), (439, 5, 4, 0, 0, 0), (441, 1, 0, 0, 0, 1), (442, 12, 0, 0, 0, 0), (443, 81, 0, 0, 0, 0), (444, 7, 3, 1, 0, 0), (445, 105, 216, 3, 11199, 6), (448, 8, 5, 0, 0, 0), (450, 7, 2, 1, 0, 0), (451, 7, 0, 1, 0, 0), (452, 5, 4, 0, 0, 0), (454, 1, 0, 0, 0, 1), (455, 12, 0, 0, 0, 0), (456, 81, 0, 0, 0, 0), (457, 90, 149, 2, 11412, 0), (460, 8, 6, 0, 0, 0), (462, 7, 2, 1, 0, 0), (463, 90, 141, 1, 9612, 0), (466, 5, 5, 0, 0, 0), (468, 48, 34, 0, 0, 0), (471, 1, 0, 0, 0, 0), (472, 103, 0, 0, 0, 0)] := rfl
theorem yb239_34 : zC 239 34 = [(473, 5, 5, 0, 0, 0), (475, 43, 55, 0, 0, 0), (478, 7, 3, 1, 0, 0), (479, 1, 0, 0, 0, 0), (480, 72, 0, 0, 0, 0), (481, 5, 6, 0, 0, 0), (483, 34, 0, 0, 0, 0), (484, 36, 0, 0, 0, 0), (485, 42, 55, 0, 0, 0), (488, 1, 0, 0, 0, 0), (489, 103, 0, 0, 0, 0)] := rfl
theorem yb239_55 : zC 239 55 = [(490, 55, 30, 0, 0, 0)] := rfl
theorem law_go (xs : Nat → Int32) (L D p : Nat) (hD : 6 ≤ D) (hp : p + 7 ≤ L) (hL : L ≤ 3584) (hc : xs p &&& 31 = 5) (I : Nat → Nat → Int32) (J : Nat → Nat → Int64) (X : XH) (k : Int32) (v : Int32) {I1 I2 : Nat → Nat → Int32} {J1 J2 : Nat → Nat → Int64} {X2 : XH} (eW : zev xs L D 216 [.ref 0, .int (xs (p + 1)), .ref 122] (zmk I J X) = some (.inr (some (.int k)), zmk I1 J1 X2)) (eM : zev xs L D 149 [.ref 61, .int (xs (p + 1))] (zmk I1 J1 X2) = some (.inr (some (.int v)), zmk I2 J2 X2)) (h1 : I2 61 1 = k) (hk : k = 0 → J2 122 0 = v.toInt64) : zgo xs L D 239 2 (yLO p) (zmk I J X) = zgo xs L D 239 2 (yLO (p + 7)) (zmk I2 J2 X2) := by
  have H := law_2 xs L D p (zmk I J X) hL (by omega)
  rw [if_neg (by omega), hc, show zswgo (fun b => zseg (zE xs L D 239) (zC 239) 688 (zC 239 b)) 30 5 (yLO p) [] (zmk I J X) (zSW 9).1 = zseg (zE xs L D 239) (zC 239) 688 (zC 239 9) (yLO p) [] (zmk I J X) from rfl] at H
  refine (H.trans (congrArg (zth xs L D 239) (?_ : _ = some (.inl (2, yLO (p + 7), zmk I2 J2 X2))))).trans zth_go
  rw [yb239_9]
  refine (u_a 0 rfl).trans ?_
  refine (u_x (Int32.ofNat p) (xs (p + 1)) rfl rfl (law_xk p L 1 (by decide) hp hL).1 (congrArg xs (law_xk p L 1 (by decide) hp hL).2)).trans ?_
  refine (u_a 122 rfl).trans ?_
  refine (u_ni [.ref 0, .int (xs (p + 1)), .ref 122] rfl rfl ⟨Nat.le_of_ble_eq_true rfl, Nat.le_of_ble_eq_true rfl, rfl⟩ (law_E.trans eW)).trans ?_
  refine (u_is ((5, .int k) :: yLO p) rfl).trans ?_
  refine (u_a 61 rfl).trans ?_
  refine (u_x (Int32.ofNat p) (xs (p + 1)) rfl rfl (law_xk p L 1 (by decide) hp hL).1 (congrArg xs (law_xk p L 1 (by decide) hp hL).2)).trans ?_
  refine (u_ci [.ref 61, .int (xs (p + 1))] rfl rfl ⟨Nat.le_of_ble_eq_true rfl, Nat.le_of_ble_eq_true rfl⟩ rfl (law_E.trans eM)).trans ?_
  refine (u_is ((6, .int v) :: (5, .int k) :: yLO p) rfl).trans ?_
  refine (u_a 61 rfl).trans ?_
  refine (u_ci [.ref 61] rfl rfl ⟨Nat.le_of_ble_eq_true rfl, Nat.le_of_ble_eq_true rfl⟩ rfl (law_E.trans (e141 xs L D hD _ _ _))).trans ?_
  refine (u_i k rfl).trans ?_
  refine (u_eq2 h1).trans ?_
  rw [yb239_34]
  exact law_ti k v rfl rfl rfl ⟨rfl, rfl⟩ yb239_55 hk
theorem yb239_10 : zC 239 10 = [(493, 7, 1, 1, 0, 0), (494, 7, 0, 1, 0, 0), (495, 5, 4, 0, 0, 0), (497, 1, 0, 0, 0, 1), (498, 12, 0, 0, 0, 0), (499, 81, 0, 0, 0, 0), (500, 7, 0, 1, 0, 0), (501, 5, 4, 0, 0, 0), (503, 1, 0, 0, 0, 2), (504, 12, 0, 0, 0, 0), (505, 81, 0, 0, 0, 0), (506, 7, 0, 1, 0, 0), (507, 5, 4, 0, 0, 0), (509, 1, 0, 0, 0, 3), (510, 12, 0, 0, 0, 0), (511, 81, 0, 0, 0, 0), (512, 7, 3, 1, 0, 0), (513, 105, 217, 5, 11599, 6), (516, 8, 5, 0, 0, 0), (518, 7, 2, 1, 0, 0), (519, 7, 0, 1, 0, 0), (520, 5, 4, 0, 0, 0), (522, 1, 0, 0, 0, 1), (523, 12, 0, 0, 0, 0), (524, 81, 0, 0, 0, 0), (525, 7, 0, 1, 0, 0), (526, 5, 4, 0, 0, 0), (528, 1, 0, 0, 0, 2), (529, 12, 0, 0, 0, 0), (530, 81, 0, 0, 0, 0), (531, 7, 0, 1, 0, 0), (532, 5, 4, 0, 0, 0), (534, 1, 0, 0, 0, 3), (535, 12, 0, 0, 0, 0), (536, 81, 0, 0, 0, 0), (537, 90, 150, 4, 11812, 0), (540, 8, 6, 0, 0, 0), (542, 7, 2, 1, 0, 0), (543, 90, 141, 1, 9612, 0), (546, 5, 5, 0, 0, 0), (548, 48, 35, 0, 0, 0), (551, 1, 0, 0, 0, 0), (552, 103, 0, 0, 0, 0)] := rfl
theorem yb239_35 : zC 239 35 = [(553, 5, 5, 0, 0, 0), (555, 43, 56, 0, 0, 0), (558, 7, 3, 1, 0, 0), (559, 1, 0, 0, 0, 0), (560, 72, 0, 0, 0, 0), (561, 5, 6, 0, 0, 0), (563, 34, 0, 0, 0, 0), (564, 36, 0, 0, 0, 0), (565, 42, 56, 0, 0, 0), (568, 1, 0, 0, 0, 0), (569, 103, 0, 0, 0, 0)] := rfl
theorem yb239_56 : zC 239 56 = [(570, 55, 30, 0, 0, 0)] := rfl
theorem law_signal (xs : Nat → Int32) (L D p : Nat) (hD : 6 ≤ D) (hp : p + 7 ≤ L) (hL : L ≤ 3584) (hc : xs p &&& 31 = 6) (I : Nat → Nat → Int32) (J : Nat → Nat → Int64) (X : XH) (k : Int32) (v : Int32) {I1 I2 : Nat → Nat → Int32} {J1 J2 : Nat → Nat → Int64} {X2 : XH} (eW : zev xs L D 217 [.ref 0, .int (xs (p + 1)), .int (xs (p + 2)), .int (xs (p + 3)), .ref 122] (zmk I J X) = some (.inr (some (.int k)), zmk I1 J1 X2)) (eM : zev xs L D 150 [.ref 61, .int (xs (p + 1)), .int (xs (p + 2)), .int (xs (p + 3))] (zmk I1 J1 X2) = some (.inr (some (.int v)), zmk I2 J2 X2)) (h1 : I2 61 1 = k) (hk : k = 0 → J2 122 0 = v.toInt64) : zgo xs L D 239 2 (yLO p) (zmk I J X) = zgo xs L D 239 2 (yLO (p + 7)) (zmk I2 J2 X2) := by
  have H := law_2 xs L D p (zmk I J X) hL (by omega)
  rw [if_neg (by omega), hc, show zswgo (fun b => zseg (zE xs L D 239) (zC 239) 688 (zC 239 b)) 30 6 (yLO p) [] (zmk I J X) (zSW 9).1 = zseg (zE xs L D 239) (zC 239) 688 (zC 239 10) (yLO p) [] (zmk I J X) from rfl] at H
  refine (H.trans (congrArg (zth xs L D 239) (?_ : _ = some (.inl (2, yLO (p + 7), zmk I2 J2 X2))))).trans zth_go
  rw [yb239_10]
  refine (u_a 0 rfl).trans ?_
  refine (u_x (Int32.ofNat p) (xs (p + 1)) rfl rfl (law_xk p L 1 (by decide) hp hL).1 (congrArg xs (law_xk p L 1 (by decide) hp hL).2)).trans ?_
  refine (u_x (Int32.ofNat p) (xs (p + 2)) rfl rfl (law_xk p L 2 (by decide) hp hL).1 (congrArg xs (law_xk p L 2 (by decide) hp hL).2)).trans ?_
  refine (u_x (Int32.ofNat p) (xs (p + 3)) rfl rfl (law_xk p L 3 (by decide) hp hL).1 (congrArg xs (law_xk p L 3 (by decide) hp hL).2)).trans ?_
  refine (u_a 122 rfl).trans ?_
  refine (u_ni [.ref 0, .int (xs (p + 1)), .int (xs (p + 2)), .int (xs (p + 3)), .ref 122] rfl rfl ⟨Nat.le_of_ble_eq_true rfl, Nat.le_of_ble_eq_true rfl, rfl⟩ (law_E.trans eW)).trans ?_
  refine (u_is ((5, .int k) :: yLO p) rfl).trans ?_
  refine (u_a 61 rfl).trans ?_
  refine (u_x (Int32.ofNat p) (xs (p + 1)) rfl rfl (law_xk p L 1 (by decide) hp hL).1 (congrArg xs (law_xk p L 1 (by decide) hp hL).2)).trans ?_
  refine (u_x (Int32.ofNat p) (xs (p + 2)) rfl rfl (law_xk p L 2 (by decide) hp hL).1 (congrArg xs (law_xk p L 2 (by decide) hp hL).2)).trans ?_
  refine (u_x (Int32.ofNat p) (xs (p + 3)) rfl rfl (law_xk p L 3 (by decide) hp hL).1 (congrArg xs (law_xk p L 3 (by decide) hp hL).2)).trans ?_
  refine (u_ci [.ref 61, .int (xs (p + 1)), .int (xs (p + 2)), .int (xs (p + 3))] rfl rfl ⟨Nat.le_of_ble_eq_true rfl, Nat.le_of_ble_eq_true rfl⟩ rfl (law_E.trans eM)).trans ?_
  refine (u_is ((6, .int v) :: (5, .int k) :: yLO p) rfl).trans ?_
  refine (u_a 61 rfl).trans ?_
  refine (u_ci [.ref 61] rfl rfl ⟨Nat.le_of_ble_eq_true rfl, Nat.le_of_ble_eq_true rfl⟩ rfl (law_E.trans (e141 xs L D hD _ _ _))).trans ?_
  refine (u_i k rfl).trans ?_
  refine (u_eq2 h1).trans ?_
  rw [yb239_35]
  exact law_ti k v rfl rfl rfl ⟨rfl, rfl⟩ yb239_56 hk
theorem yb239_11 : zC 239 11 = [(573, 7, 1, 1, 0, 0), (574, 7, 0, 1, 0, 0), (575, 5, 4, 0, 0, 0), (577, 1, 0, 0, 0, 1), (578, 12, 0, 0, 0, 0), (579, 81, 0, 0, 0, 0), (580, 7, 3, 1, 0, 0), (581, 105, 218, 3, 11999, 6), (584, 8, 5, 0, 0, 0), (586, 7, 2, 1, 0, 0), (587, 7, 0, 1, 0, 0), (588, 5, 4, 0, 0, 0), (590, 1, 0, 0, 0, 1), (591, 12, 0, 0, 0, 0), (592, 81, 0, 0, 0, 0), (593, 90, 153, 2, 12112, 0), (596, 8, 6, 0, 0, 0), (598, 7, 2, 1, 0, 0), (599, 90, 141, 1, 9612, 0), (602, 5, 5, 0, 0, 0), (604, 48, 36, 0, 0, 0), (607, 1, 0, 0, 0, 0), (608, 103, 0, 0, 0, 0)] := rfl
theorem yb239_36 : zC 239 36 = [(609, 5, 5, 0, 0, 0), (611, 43, 57, 0, 0, 0), (614, 7, 3, 1, 0, 0), (615, 1, 0, 0, 0, 0), (616, 72, 0, 0, 0, 0), (617, 5, 6, 0, 0, 0), (619, 42, 58, 0, 0, 0), (622, 3, 1, 0, 0, 0), (623, 55, 59, 0, 0, 0)] := rfl
theorem yb239_57 : zC 239 57 = [(633, 55, 30, 0, 0, 0)] := rfl
theorem yb239_58 : zC 239 58 = [(626, 3, 0, 0, 0, 0), (627, 56, 59, 0, 0, 0)] := rfl
theorem yb239_59 : zC 239 59 = [(627, 36, 0, 0, 0, 0), (628, 42, 57, 0, 0, 0), (631, 1, 0, 0, 0, 0), (632, 103, 0, 0, 0, 0)] := rfl
theorem law_back (xs : Nat → Int32) (L D p : Nat) (hD : 6 ≤ D) (hp : p + 7 ≤ L) (hL : L ≤ 3584) (hc : xs p &&& 31 = 7) (I : Nat → Nat → Int32) (J : Nat → Nat → Int64) (X : XH) (k : Int32) (v : Int32) {I1 I2 : Nat → Nat → Int32} {J1 J2 : Nat → Nat → Int64} {X2 : XH} (eW : zev xs L D 218 [.ref 0, .int (xs (p + 1)), .ref 122] (zmk I J X) = some (.inr (some (.int k)), zmk I1 J1 X2)) (eM : zev xs L D 153 [.ref 61, .int (xs (p + 1))] (zmk I1 J1 X2) = some (.inr (some (.int v)), zmk I2 J2 X2)) (h1 : I2 61 1 = k) (hk : k = 0 → J2 122 0 = if v = 0 then Int64.ofNat 0 else Int64.ofNat 1) : zgo xs L D 239 2 (yLO p) (zmk I J X) = zgo xs L D 239 2 (yLO (p + 7)) (zmk I2 J2 X2) := by
  have H := law_2 xs L D p (zmk I J X) hL (by omega)
  rw [if_neg (by omega), hc, show zswgo (fun b => zseg (zE xs L D 239) (zC 239) 688 (zC 239 b)) 30 7 (yLO p) [] (zmk I J X) (zSW 9).1 = zseg (zE xs L D 239) (zC 239) 688 (zC 239 11) (yLO p) [] (zmk I J X) from rfl] at H
  refine (H.trans (congrArg (zth xs L D 239) (?_ : _ = some (.inl (2, yLO (p + 7), zmk I2 J2 X2))))).trans zth_go
  rw [yb239_11]
  refine (u_a 0 rfl).trans ?_
  refine (u_x (Int32.ofNat p) (xs (p + 1)) rfl rfl (law_xk p L 1 (by decide) hp hL).1 (congrArg xs (law_xk p L 1 (by decide) hp hL).2)).trans ?_
  refine (u_a 122 rfl).trans ?_
  refine (u_ni [.ref 0, .int (xs (p + 1)), .ref 122] rfl rfl ⟨Nat.le_of_ble_eq_true rfl, Nat.le_of_ble_eq_true rfl, rfl⟩ (law_E.trans eW)).trans ?_
  refine (u_is ((5, .int k) :: yLO p) rfl).trans ?_
  refine (u_a 61 rfl).trans ?_
  refine (u_x (Int32.ofNat p) (xs (p + 1)) rfl rfl (law_xk p L 1 (by decide) hp hL).1 (congrArg xs (law_xk p L 1 (by decide) hp hL).2)).trans ?_
  refine (u_ci [.ref 61, .int (xs (p + 1))] rfl rfl ⟨Nat.le_of_ble_eq_true rfl, Nat.le_of_ble_eq_true rfl⟩ rfl (law_E.trans eM)).trans ?_
  refine (u_is ((6, .int v) :: (5, .int k) :: yLO p) rfl).trans ?_
  refine (u_a 61 rfl).trans ?_
  refine (u_ci [.ref 61] rfl rfl ⟨Nat.le_of_ble_eq_true rfl, Nat.le_of_ble_eq_true rfl⟩ rfl (law_E.trans (e141 xs L D hD _ _ _))).trans ?_
  refine (u_i k rfl).trans ?_
  refine (u_eq2 h1).trans ?_
  rw [yb239_36]
  exact law_tb k v rfl rfl rfl ⟨rfl, rfl⟩ yb239_57 yb239_58 yb239_59 hk
theorem yb239_12 : zC 239 12 = [(636, 7, 1, 1, 0, 0), (637, 7, 0, 1, 0, 0), (638, 5, 4, 0, 0, 0), (640, 1, 0, 0, 0, 1), (641, 12, 0, 0, 0, 0), (642, 81, 0, 0, 0, 0), (643, 7, 3, 1, 0, 0), (644, 105, 219, 3, 12299, 6), (647, 8, 5, 0, 0, 0), (649, 7, 2, 1, 0, 0), (650, 7, 0, 1, 0, 0), (651, 5, 4, 0, 0, 0), (653, 1, 0, 0, 0, 1), (654, 12, 0, 0, 0, 0), (655, 81, 0, 0, 0, 0), (656, 90, 156, 2, 12412, 0), (659, 8, 6, 0, 0, 0), (661, 7, 2, 1, 0, 0), (662, 90, 141, 1, 9612, 0), (665, 5, 5, 0, 0, 0), (667, 48, 37, 0, 0, 0), (670, 1, 0, 0, 0, 0), (671, 103, 0, 0, 0, 0)] := rfl
theorem yb239_37 : zC 239 37 = [(672, 5, 5, 0, 0, 0), (674, 43, 60, 0, 0, 0), (677, 7, 3, 1, 0, 0), (678, 1, 0, 0, 0, 0), (679, 72, 0, 0, 0, 0), (680, 5, 6, 0, 0, 0), (682, 34, 0, 0, 0, 0), (683, 36, 0, 0, 0, 0), (684, 42, 60, 0, 0, 0), (687, 1, 0, 0, 0, 0), (688, 103, 0, 0, 0, 0)] := rfl
theorem yb239_60 : zC 239 60 = [(689, 55, 30, 0, 0, 0)] := rfl
theorem law_dispute (xs : Nat → Int32) (L D p : Nat) (hD : 6 ≤ D) (hp : p + 7 ≤ L) (hL : L ≤ 3584) (hc : xs p &&& 31 = 8) (I : Nat → Nat → Int32) (J : Nat → Nat → Int64) (X : XH) (k : Int32) (v : Int32) {I1 I2 : Nat → Nat → Int32} {J1 J2 : Nat → Nat → Int64} {X2 : XH} (eW : zev xs L D 219 [.ref 0, .int (xs (p + 1)), .ref 122] (zmk I J X) = some (.inr (some (.int k)), zmk I1 J1 X2)) (eM : zev xs L D 156 [.ref 61, .int (xs (p + 1))] (zmk I1 J1 X2) = some (.inr (some (.int v)), zmk I2 J2 X2)) (h1 : I2 61 1 = k) (hk : k = 0 → J2 122 0 = v.toInt64) : zgo xs L D 239 2 (yLO p) (zmk I J X) = zgo xs L D 239 2 (yLO (p + 7)) (zmk I2 J2 X2) := by
  have H := law_2 xs L D p (zmk I J X) hL (by omega)
  rw [if_neg (by omega), hc, show zswgo (fun b => zseg (zE xs L D 239) (zC 239) 688 (zC 239 b)) 30 8 (yLO p) [] (zmk I J X) (zSW 9).1 = zseg (zE xs L D 239) (zC 239) 688 (zC 239 12) (yLO p) [] (zmk I J X) from rfl] at H
  refine (H.trans (congrArg (zth xs L D 239) (?_ : _ = some (.inl (2, yLO (p + 7), zmk I2 J2 X2))))).trans zth_go
  rw [yb239_12]
  refine (u_a 0 rfl).trans ?_
  refine (u_x (Int32.ofNat p) (xs (p + 1)) rfl rfl (law_xk p L 1 (by decide) hp hL).1 (congrArg xs (law_xk p L 1 (by decide) hp hL).2)).trans ?_
  refine (u_a 122 rfl).trans ?_
  refine (u_ni [.ref 0, .int (xs (p + 1)), .ref 122] rfl rfl ⟨Nat.le_of_ble_eq_true rfl, Nat.le_of_ble_eq_true rfl, rfl⟩ (law_E.trans eW)).trans ?_
  refine (u_is ((5, .int k) :: yLO p) rfl).trans ?_
  refine (u_a 61 rfl).trans ?_
  refine (u_x (Int32.ofNat p) (xs (p + 1)) rfl rfl (law_xk p L 1 (by decide) hp hL).1 (congrArg xs (law_xk p L 1 (by decide) hp hL).2)).trans ?_
  refine (u_ci [.ref 61, .int (xs (p + 1))] rfl rfl ⟨Nat.le_of_ble_eq_true rfl, Nat.le_of_ble_eq_true rfl⟩ rfl (law_E.trans eM)).trans ?_
  refine (u_is ((6, .int v) :: (5, .int k) :: yLO p) rfl).trans ?_
  refine (u_a 61 rfl).trans ?_
  refine (u_ci [.ref 61] rfl rfl ⟨Nat.le_of_ble_eq_true rfl, Nat.le_of_ble_eq_true rfl⟩ rfl (law_E.trans (e141 xs L D hD _ _ _))).trans ?_
  refine (u_i k rfl).trans ?_
  refine (u_eq2 h1).trans ?_
  rw [yb239_37]
  exact law_ti k v rfl rfl rfl ⟨rfl, rfl⟩ yb239_60 hk
theorem yb239_13 : zC 239 13 = [(692, 7, 1, 1, 0, 0), (693, 7, 0, 1, 0, 0), (694, 5, 4, 0, 0, 0), (696, 1, 0, 0, 0, 1), (697, 12, 0, 0, 0, 0), (698, 81, 0, 0, 0, 0), (699, 7, 0, 1, 0, 0), (700, 5, 4, 0, 0, 0), (702, 1, 0, 0, 0, 2), (703, 12, 0, 0, 0, 0), (704, 81, 0, 0, 0, 0), (705, 7, 0, 1, 0, 0), (706, 5, 4, 0, 0, 0), (708, 1, 0, 0, 0, 3), (709, 12, 0, 0, 0, 0), (710, 81, 0, 0, 0, 0), (711, 7, 3, 1, 0, 0), (712, 105, 220, 5, 12599, 6), (715, 8, 5, 0, 0, 0), (717, 7, 2, 1, 0, 0), (718, 7, 0, 1, 0, 0), (719, 5, 4, 0, 0, 0), (721, 1, 0, 0, 0, 1), (722, 12, 0, 0, 0, 0), (723, 81, 0, 0, 0, 0), (724, 7, 0, 1, 0, 0), (725, 5, 4, 0, 0, 0), (727, 1, 0, 0, 0, 2), (728, 12, 0, 0, 0, 0), (729, 81, 0, 0, 0, 0), (730, 7, 0, 1, 0, 0), (731, 5, 4, 0, 0, 0), (733, 1, 0, 0, 0, 3), (734, 12, 0, 0, 0, 0), (735, 81, 0, 0, 0, 0), (736, 90, 157, 4, 12712, 0), (739, 8, 6, 0, 0, 0), (741, 7, 2, 1, 0, 0), (742, 90, 141, 1, 9612, 0), (745, 5, 5, 0, 0, 0), (747, 48, 38, 0, 0, 0), (750, 1, 0, 0, 0, 0), (751, 103, 0, 0, 0, 0)] := rfl
theorem yb239_38 : zC 239 38 = [(752, 5, 5, 0, 0, 0), (754, 43, 61, 0, 0, 0), (757, 7, 3, 1, 0, 0), (758, 1, 0, 0, 0, 0), (759, 72, 0, 0, 0, 0), (760, 5, 6, 0, 0, 0), (762, 42, 62, 0, 0, 0), (765, 3, 1, 0, 0, 0), (766, 55, 63, 0, 0, 0)] := rfl
theorem yb239_61 : zC 239 61 = [(776, 55, 30, 0, 0, 0)] := rfl
theorem yb239_62 : zC 239 62 = [(769, 3, 0, 0, 0, 0), (770, 56, 63, 0, 0, 0)] := rfl
theorem yb239_63 : zC 239 63 = [(770, 36, 0, 0, 0, 0), (771, 42, 61, 0, 0, 0), (774, 1, 0, 0, 0, 0), (775, 103, 0, 0, 0, 0)] := rfl
theorem law_decide (xs : Nat → Int32) (L D p : Nat) (hD : 6 ≤ D) (hp : p + 7 ≤ L) (hL : L ≤ 3584) (hc : xs p &&& 31 = 9) (I : Nat → Nat → Int32) (J : Nat → Nat → Int64) (X : XH) (k : Int32) (v : Int32) {I1 I2 : Nat → Nat → Int32} {J1 J2 : Nat → Nat → Int64} {X2 : XH} (eW : zev xs L D 220 [.ref 0, .int (xs (p + 1)), .int (xs (p + 2)), .int (xs (p + 3)), .ref 122] (zmk I J X) = some (.inr (some (.int k)), zmk I1 J1 X2)) (eM : zev xs L D 157 [.ref 61, .int (xs (p + 1)), .int (xs (p + 2)), .int (xs (p + 3))] (zmk I1 J1 X2) = some (.inr (some (.int v)), zmk I2 J2 X2)) (h1 : I2 61 1 = k) (hk : k = 0 → J2 122 0 = if v = 0 then Int64.ofNat 0 else Int64.ofNat 1) : zgo xs L D 239 2 (yLO p) (zmk I J X) = zgo xs L D 239 2 (yLO (p + 7)) (zmk I2 J2 X2) := by
  have H := law_2 xs L D p (zmk I J X) hL (by omega)
  rw [if_neg (by omega), hc, show zswgo (fun b => zseg (zE xs L D 239) (zC 239) 688 (zC 239 b)) 30 9 (yLO p) [] (zmk I J X) (zSW 9).1 = zseg (zE xs L D 239) (zC 239) 688 (zC 239 13) (yLO p) [] (zmk I J X) from rfl] at H
  refine (H.trans (congrArg (zth xs L D 239) (?_ : _ = some (.inl (2, yLO (p + 7), zmk I2 J2 X2))))).trans zth_go
  rw [yb239_13]
  refine (u_a 0 rfl).trans ?_
  refine (u_x (Int32.ofNat p) (xs (p + 1)) rfl rfl (law_xk p L 1 (by decide) hp hL).1 (congrArg xs (law_xk p L 1 (by decide) hp hL).2)).trans ?_
  refine (u_x (Int32.ofNat p) (xs (p + 2)) rfl rfl (law_xk p L 2 (by decide) hp hL).1 (congrArg xs (law_xk p L 2 (by decide) hp hL).2)).trans ?_
  refine (u_x (Int32.ofNat p) (xs (p + 3)) rfl rfl (law_xk p L 3 (by decide) hp hL).1 (congrArg xs (law_xk p L 3 (by decide) hp hL).2)).trans ?_
  refine (u_a 122 rfl).trans ?_
  refine (u_ni [.ref 0, .int (xs (p + 1)), .int (xs (p + 2)), .int (xs (p + 3)), .ref 122] rfl rfl ⟨Nat.le_of_ble_eq_true rfl, Nat.le_of_ble_eq_true rfl, rfl⟩ (law_E.trans eW)).trans ?_
  refine (u_is ((5, .int k) :: yLO p) rfl).trans ?_
  refine (u_a 61 rfl).trans ?_
  refine (u_x (Int32.ofNat p) (xs (p + 1)) rfl rfl (law_xk p L 1 (by decide) hp hL).1 (congrArg xs (law_xk p L 1 (by decide) hp hL).2)).trans ?_
  refine (u_x (Int32.ofNat p) (xs (p + 2)) rfl rfl (law_xk p L 2 (by decide) hp hL).1 (congrArg xs (law_xk p L 2 (by decide) hp hL).2)).trans ?_
  refine (u_x (Int32.ofNat p) (xs (p + 3)) rfl rfl (law_xk p L 3 (by decide) hp hL).1 (congrArg xs (law_xk p L 3 (by decide) hp hL).2)).trans ?_
  refine (u_ci [.ref 61, .int (xs (p + 1)), .int (xs (p + 2)), .int (xs (p + 3))] rfl rfl ⟨Nat.le_of_ble_eq_true rfl, Nat.le_of_ble_eq_true rfl⟩ rfl (law_E.trans eM)).trans ?_
  refine (u_is ((6, .int v) :: (5, .int k) :: yLO p) rfl).trans ?_
  refine (u_a 61 rfl).trans ?_
  refine (u_ci [.ref 61] rfl rfl ⟨Nat.le_of_ble_eq_true rfl, Nat.le_of_ble_eq_true rfl⟩ rfl (law_E.trans (e141 xs L D hD _ _ _))).trans ?_
  refine (u_i k rfl).trans ?_
  refine (u_eq2 h1).trans ?_
  rw [yb239_38]
  exact law_tb k v rfl rfl rfl ⟨rfl, rfl⟩ yb239_61 yb239_62 yb239_63 hk
theorem yb239_14 : zC 239 14 = [(779, 7, 1, 1, 0, 0), (780, 7, 0, 1, 0, 0), (781, 5, 4, 0, 0, 0), (783, 1, 0, 0, 0, 1), (784, 12, 0, 0, 0, 0), (785, 81, 0, 0, 0, 0), (786, 7, 0, 1, 0, 0), (787, 5, 4, 0, 0, 0), (789, 1, 0, 0, 0, 2), (790, 12, 0, 0, 0, 0), (791, 81, 0, 0, 0, 0), (792, 7, 0, 1, 0, 0), (793, 5, 4, 0, 0, 0), (795, 1, 0, 0, 0, 3), (796, 12, 0, 0, 0, 0), (797, 81, 0, 0, 0, 0), (798, 7, 0, 1, 0, 0), (799, 5, 4, 0, 0, 0), (801, 1, 0, 0, 0, 4), (802, 12, 0, 0, 0, 0), (803, 81, 0, 0, 0, 0), (804, 7, 0, 1, 0, 0), (805, 5, 4, 0, 0, 0), (807, 1, 0, 0, 0, 5), (808, 12, 0, 0, 0, 0), (809, 81, 0, 0, 0, 0), (810, 90, 104, 6, 12811, 0), (813, 7, 2, 1, 0, 0), (814, 7, 0, 1, 0, 0), (815, 5, 4, 0, 0, 0), (817, 1, 0, 0, 0, 1), (818, 12, 0, 0, 0, 0), (819, 81, 0, 0, 0, 0), (820, 7, 0, 1, 0, 0), (821, 5, 4, 0, 0, 0), (823, 1, 0, 0, 0, 2), (824, 12, 0, 0, 0, 0), (825, 81, 0, 0, 0, 0), (826, 7, 0, 1, 0, 0), (827, 5, 4, 0, 0, 0), (829, 1, 0, 0, 0, 3), (830, 12, 0, 0, 0, 0), (831, 81, 0, 0, 0, 0), (832, 7, 0, 1, 0, 0), (833, 5, 4, 0, 0, 0), (835, 1, 0, 0, 0, 4), (836, 12, 0, 0, 0, 0), (837, 81, 0, 0, 0, 0), (838, 7, 0, 1, 0, 0), (839, 5, 4, 0, 0, 0), (841, 1, 0, 0, 0, 5), (842, 12, 0, 0, 0, 0), (843, 81, 0, 0, 0, 0), (844, 90, 158, 6, 13212, 0), (847, 48, 30, 0, 0, 0), (850, 1, 0, 0, 0, 0), (851, 103, 0, 0, 0, 0)] := rfl
theorem law_feed (xs : Nat → Int32) (L D p : Nat) (hD : 6 ≤ D) (hp : p + 7 ≤ L) (hL : L ≤ 3584) (hc : xs p &&& 31 = 10) (I : Nat → Nat → Int32) (J : Nat → Nat → Int64) (X : XH) (v : Int32) {I1 I2 : Nat → Nat → Int32} (eW : zev xs L D 104 [.ref 0, .int (xs (p + 1)), .int (xs (p + 2)), .int (xs (p + 3)), .int (xs (p + 4)), .int (xs (p + 5))] (zmk I J X) = some (.inr (some (.int v)), zmk I1 J X)) (eM : zev xs L D 158 [.ref 61, .int (xs (p + 1)), .int (xs (p + 2)), .int (xs (p + 3)), .int (xs (p + 4)), .int (xs (p + 5))] (zmk I1 J X) = some (.inr (some (.int v)), zmk I2 J X)) : zgo xs L D 239 2 (yLO p) (zmk I J X) = zgo xs L D 239 2 (yLO (p + 7)) (zmk I2 J X) := by
  have H := law_2 xs L D p (zmk I J X) hL (by omega)
  rw [if_neg (by omega), hc, show zswgo (fun b => zseg (zE xs L D 239) (zC 239) 688 (zC 239 b)) 30 10 (yLO p) [] (zmk I J X) (zSW 9).1 = zseg (zE xs L D 239) (zC 239) 688 (zC 239 14) (yLO p) [] (zmk I J X) from rfl] at H
  refine (H.trans (congrArg (zth xs L D 239) (?_ : _ = some (.inl (2, yLO (p + 7), zmk I2 J X))))).trans zth_go
  rw [yb239_14]
  refine (u_a 0 rfl).trans ?_
  refine (u_x (Int32.ofNat p) (xs (p + 1)) rfl rfl (law_xk p L 1 (by decide) hp hL).1 (congrArg xs (law_xk p L 1 (by decide) hp hL).2)).trans ?_
  refine (u_x (Int32.ofNat p) (xs (p + 2)) rfl rfl (law_xk p L 2 (by decide) hp hL).1 (congrArg xs (law_xk p L 2 (by decide) hp hL).2)).trans ?_
  refine (u_x (Int32.ofNat p) (xs (p + 3)) rfl rfl (law_xk p L 3 (by decide) hp hL).1 (congrArg xs (law_xk p L 3 (by decide) hp hL).2)).trans ?_
  refine (u_x (Int32.ofNat p) (xs (p + 4)) rfl rfl (law_xk p L 4 (by decide) hp hL).1 (congrArg xs (law_xk p L 4 (by decide) hp hL).2)).trans ?_
  refine (u_x (Int32.ofNat p) (xs (p + 5)) rfl rfl (law_xk p L 5 (by decide) hp hL).1 (congrArg xs (law_xk p L 5 (by decide) hp hL).2)).trans ?_
  refine (u_ci [.ref 0, .int (xs (p + 1)), .int (xs (p + 2)), .int (xs (p + 3)), .int (xs (p + 4)), .int (xs (p + 5))] rfl rfl ⟨Nat.le_of_ble_eq_true rfl, Nat.le_of_ble_eq_true rfl⟩ rfl (law_E.trans eW)).trans ?_
  refine (u_a 61 rfl).trans ?_
  refine (u_x (Int32.ofNat p) (xs (p + 1)) rfl rfl (law_xk p L 1 (by decide) hp hL).1 (congrArg xs (law_xk p L 1 (by decide) hp hL).2)).trans ?_
  refine (u_x (Int32.ofNat p) (xs (p + 2)) rfl rfl (law_xk p L 2 (by decide) hp hL).1 (congrArg xs (law_xk p L 2 (by decide) hp hL).2)).trans ?_
  refine (u_x (Int32.ofNat p) (xs (p + 3)) rfl rfl (law_xk p L 3 (by decide) hp hL).1 (congrArg xs (law_xk p L 3 (by decide) hp hL).2)).trans ?_
  refine (u_x (Int32.ofNat p) (xs (p + 4)) rfl rfl (law_xk p L 4 (by decide) hp hL).1 (congrArg xs (law_xk p L 4 (by decide) hp hL).2)).trans ?_
  refine (u_x (Int32.ofNat p) (xs (p + 5)) rfl rfl (law_xk p L 5 (by decide) hp hL).1 (congrArg xs (law_xk p L 5 (by decide) hp hL).2)).trans ?_
  refine (u_ci [.ref 61, .int (xs (p + 1)), .int (xs (p + 2)), .int (xs (p + 3)), .int (xs (p + 4)), .int (xs (p + 5))] rfl rfl ⟨Nat.le_of_ble_eq_true rfl, Nat.le_of_ble_eq_true rfl⟩ rfl (law_E.trans eM)).trans ?_
  refine (u_eq2 rfl).trans ?_
  exact law_30 ⟨rfl, rfl⟩
theorem yb239_15 : zC 239 15 = [(852, 7, 1, 1, 0, 0), (853, 7, 0, 1, 0, 0), (854, 5, 4, 0, 0, 0), (856, 1, 0, 0, 0, 1), (857, 12, 0, 0, 0, 0), (858, 81, 0, 0, 0, 0), (859, 7, 0, 1, 0, 0), (860, 5, 4, 0, 0, 0), (862, 1, 0, 0, 0, 2), (863, 12, 0, 0, 0, 0), (864, 81, 0, 0, 0, 0), (865, 7, 0, 1, 0, 0), (866, 5, 4, 0, 0, 0), (868, 1, 0, 0, 0, 3), (869, 12, 0, 0, 0, 0), (870, 81, 0, 0, 0, 0), (871, 7, 3, 1, 0, 0), (872, 105, 221, 5, 13399, 6), (875, 8, 5, 0, 0, 0), (877, 7, 2, 1, 0, 0), (878, 7, 0, 1, 0, 0), (879, 5, 4, 0, 0, 0), (881, 1, 0, 0, 0, 1), (882, 12, 0, 0, 0, 0), (883, 81, 0, 0, 0, 0), (884, 7, 0, 1, 0, 0), (885, 5, 4, 0, 0, 0), (887, 1, 0, 0, 0, 2), (888, 12, 0, 0, 0, 0), (889, 81, 0, 0, 0, 0), (890, 7, 0, 1, 0, 0), (891, 5, 4, 0, 0, 0), (893, 1, 0, 0, 0, 3), (894, 12, 0, 0, 0, 0), (895, 81, 0, 0, 0, 0), (896, 90, 159, 4, 13512, 0), (899, 8, 6, 0, 0, 0), (901, 7, 2, 1, 0, 0), (902, 90, 141, 1, 9612, 0), (905, 5, 5, 0, 0, 0), (907, 48, 39, 0, 0, 0), (910, 1, 0, 0, 0, 0), (911, 103, 0, 0, 0, 0)] := rfl
theorem yb239_39 : zC 239 39 = [(912, 5, 5, 0, 0, 0), (914, 43, 64, 0, 0, 0), (917, 7, 3, 1, 0, 0), (918, 1, 0, 0, 0, 0), (919, 72, 0, 0, 0, 0), (920, 5, 6, 0, 0, 0), (922, 34, 0, 0, 0, 0), (923, 36, 0, 0, 0, 0), (924, 42, 64, 0, 0, 0), (927, 1, 0, 0, 0, 0), (928, 103, 0, 0, 0, 0)] := rfl
theorem yb239_64 : zC 239 64 = [(929, 55, 30, 0, 0, 0)] := rfl
theorem law_terms (xs : Nat → Int32) (L D p : Nat) (hD : 6 ≤ D) (hp : p + 7 ≤ L) (hL : L ≤ 3584) (hc : xs p &&& 31 = 11) (I : Nat → Nat → Int32) (J : Nat → Nat → Int64) (X : XH) (k : Int32) (v : Int32) {I1 I2 : Nat → Nat → Int32} {J1 J2 : Nat → Nat → Int64} {X2 : XH} (eW : zev xs L D 221 [.ref 0, .int (xs (p + 1)), .int (xs (p + 2)), .int (xs (p + 3)), .ref 122] (zmk I J X) = some (.inr (some (.int k)), zmk I1 J1 X2)) (eM : zev xs L D 159 [.ref 61, .int (xs (p + 1)), .int (xs (p + 2)), .int (xs (p + 3))] (zmk I1 J1 X2) = some (.inr (some (.int v)), zmk I2 J2 X2)) (h1 : I2 61 1 = k) (hk : k = 0 → J2 122 0 = v.toInt64) : zgo xs L D 239 2 (yLO p) (zmk I J X) = zgo xs L D 239 2 (yLO (p + 7)) (zmk I2 J2 X2) := by
  have H := law_2 xs L D p (zmk I J X) hL (by omega)
  rw [if_neg (by omega), hc, show zswgo (fun b => zseg (zE xs L D 239) (zC 239) 688 (zC 239 b)) 30 11 (yLO p) [] (zmk I J X) (zSW 9).1 = zseg (zE xs L D 239) (zC 239) 688 (zC 239 15) (yLO p) [] (zmk I J X) from rfl] at H
  refine (H.trans (congrArg (zth xs L D 239) (?_ : _ = some (.inl (2, yLO (p + 7), zmk I2 J2 X2))))).trans zth_go
  rw [yb239_15]
  refine (u_a 0 rfl).trans ?_
  refine (u_x (Int32.ofNat p) (xs (p + 1)) rfl rfl (law_xk p L 1 (by decide) hp hL).1 (congrArg xs (law_xk p L 1 (by decide) hp hL).2)).trans ?_
  refine (u_x (Int32.ofNat p) (xs (p + 2)) rfl rfl (law_xk p L 2 (by decide) hp hL).1 (congrArg xs (law_xk p L 2 (by decide) hp hL).2)).trans ?_
  refine (u_x (Int32.ofNat p) (xs (p + 3)) rfl rfl (law_xk p L 3 (by decide) hp hL).1 (congrArg xs (law_xk p L 3 (by decide) hp hL).2)).trans ?_
  refine (u_a 122 rfl).trans ?_
  refine (u_ni [.ref 0, .int (xs (p + 1)), .int (xs (p + 2)), .int (xs (p + 3)), .ref 122] rfl rfl ⟨Nat.le_of_ble_eq_true rfl, Nat.le_of_ble_eq_true rfl, rfl⟩ (law_E.trans eW)).trans ?_
  refine (u_is ((5, .int k) :: yLO p) rfl).trans ?_
  refine (u_a 61 rfl).trans ?_
  refine (u_x (Int32.ofNat p) (xs (p + 1)) rfl rfl (law_xk p L 1 (by decide) hp hL).1 (congrArg xs (law_xk p L 1 (by decide) hp hL).2)).trans ?_
  refine (u_x (Int32.ofNat p) (xs (p + 2)) rfl rfl (law_xk p L 2 (by decide) hp hL).1 (congrArg xs (law_xk p L 2 (by decide) hp hL).2)).trans ?_
  refine (u_x (Int32.ofNat p) (xs (p + 3)) rfl rfl (law_xk p L 3 (by decide) hp hL).1 (congrArg xs (law_xk p L 3 (by decide) hp hL).2)).trans ?_
  refine (u_ci [.ref 61, .int (xs (p + 1)), .int (xs (p + 2)), .int (xs (p + 3))] rfl rfl ⟨Nat.le_of_ble_eq_true rfl, Nat.le_of_ble_eq_true rfl⟩ rfl (law_E.trans eM)).trans ?_
  refine (u_is ((6, .int v) :: (5, .int k) :: yLO p) rfl).trans ?_
  refine (u_a 61 rfl).trans ?_
  refine (u_ci [.ref 61] rfl rfl ⟨Nat.le_of_ble_eq_true rfl, Nat.le_of_ble_eq_true rfl⟩ rfl (law_E.trans (e141 xs L D hD _ _ _))).trans ?_
  refine (u_i k rfl).trans ?_
  refine (u_eq2 h1).trans ?_
  rw [yb239_39]
  exact law_ti k v rfl rfl rfl ⟨rfl, rfl⟩ yb239_64 hk
theorem yb239_16 : zC 239 16 = [(932, 7, 1, 1, 0, 0), (933, 90, 105, 1, 13611, 0), (936, 7, 2, 1, 0, 0), (937, 90, 179, 1, 13912, 0), (940, 48, 30, 0, 0, 0), (943, 1, 0, 0, 0, 0), (944, 103, 0, 0, 0, 0)] := rfl
theorem law_fault (xs : Nat → Int32) (L D p : Nat) (hD : 6 ≤ D) (hp : p + 7 ≤ L) (hL : L ≤ 3584) (hc : xs p &&& 31 = 12) (I : Nat → Nat → Int32) (J : Nat → Nat → Int64) (X : XH) (v : Int32) {I1 I2 : Nat → Nat → Int32} (eW : zev xs L D 105 [.ref 0] (zmk I J X) = some (.inr (some (.int v)), zmk I1 J X)) (eM : zev xs L D 179 [.ref 61] (zmk I1 J X) = some (.inr (some (.int v)), zmk I2 J X)) : zgo xs L D 239 2 (yLO p) (zmk I J X) = zgo xs L D 239 2 (yLO (p + 7)) (zmk I2 J X) := by
  have H := law_2 xs L D p (zmk I J X) hL (by omega)
  rw [if_neg (by omega), hc, show zswgo (fun b => zseg (zE xs L D 239) (zC 239) 688 (zC 239 b)) 30 12 (yLO p) [] (zmk I J X) (zSW 9).1 = zseg (zE xs L D 239) (zC 239) 688 (zC 239 16) (yLO p) [] (zmk I J X) from rfl] at H
  refine (H.trans (congrArg (zth xs L D 239) (?_ : _ = some (.inl (2, yLO (p + 7), zmk I2 J X))))).trans zth_go
  rw [yb239_16]
  refine (u_a 0 rfl).trans ?_
  refine (u_ci [.ref 0] rfl rfl ⟨Nat.le_of_ble_eq_true rfl, Nat.le_of_ble_eq_true rfl⟩ rfl (law_E.trans eW)).trans ?_
  refine (u_a 61 rfl).trans ?_
  refine (u_ci [.ref 61] rfl rfl ⟨Nat.le_of_ble_eq_true rfl, Nat.le_of_ble_eq_true rfl⟩ rfl (law_E.trans eM)).trans ?_
  refine (u_eq2 rfl).trans ?_
  exact law_30 ⟨rfl, rfl⟩
theorem yb239_17 : zC 239 17 = [(945, 7, 1, 1, 0, 0), (946, 7, 0, 1, 0, 0), (947, 5, 4, 0, 0, 0), (949, 1, 0, 0, 0, 1), (950, 12, 0, 0, 0, 0), (951, 81, 0, 0, 0, 0), (952, 7, 0, 1, 0, 0), (953, 5, 4, 0, 0, 0), (955, 1, 0, 0, 0, 2), (956, 12, 0, 0, 0, 0), (957, 81, 0, 0, 0, 0), (958, 42, 40, 0, 0, 0), (961, 1, 0, 0, 0, 1), (962, 55, 41, 0, 0, 0)] := rfl
theorem yb239_40 : zC 239 40 = [(965, 1, 0, 0, 0, 0), (966, 56, 41, 0, 0, 0)] := rfl
theorem yb239_41 : zC 239 41 = [(966, 7, 0, 1, 0, 0), (967, 5, 4, 0, 0, 0), (969, 1, 0, 0, 0, 3), (970, 12, 0, 0, 0, 0), (971, 81, 0, 0, 0, 0), (972, 7, 3, 1, 0, 0), (973, 105, 222, 5, 14099, 6), (976, 8, 5, 0, 0, 0), (978, 7, 2, 1, 0, 0), (979, 7, 0, 1, 0, 0), (980, 5, 4, 0, 0, 0), (982, 1, 0, 0, 0, 1), (983, 12, 0, 0, 0, 0), (984, 81, 0, 0, 0, 0), (985, 7, 0, 1, 0, 0), (986, 5, 4, 0, 0, 0), (988, 1, 0, 0, 0, 2), (989, 12, 0, 0, 0, 0), (990, 81, 0, 0, 0, 0), (991, 42, 65, 0, 0, 0), (994, 1, 0, 0, 0, 1), (995, 55, 66, 0, 0, 0)] := rfl
theorem yb239_65 : zC 239 65 = [(998, 1, 0, 0, 0, 0), (999, 56, 66, 0, 0, 0)] := rfl
theorem yb239_66 : zC 239 66 = [(999, 7, 0, 1, 0, 0), (1000, 5, 4, 0, 0, 0), (1002, 1, 0, 0, 0, 3), (1003, 12, 0, 0, 0, 0), (1004, 81, 0, 0, 0, 0), (1005, 90, 180, 4, 14312, 0), (1008, 8, 6, 0, 0, 0), (1010, 7, 2, 1, 0, 0), (1011, 90, 141, 1, 9612, 0), (1014, 5, 5, 0, 0, 0), (1016, 48, 80, 0, 0, 0), (1019, 1, 0, 0, 0, 0), (1020, 103, 0, 0, 0, 0)] := rfl
theorem yb239_80 : zC 239 80 = [(1021, 5, 5, 0, 0, 0), (1023, 43, 82, 0, 0, 0), (1026, 7, 3, 1, 0, 0), (1027, 1, 0, 0, 0, 0), (1028, 72, 0, 0, 0, 0), (1029, 5, 6, 0, 0, 0), (1031, 34, 0, 0, 0, 0), (1032, 36, 0, 0, 0, 0), (1033, 42, 82, 0, 0, 0), (1036, 1, 0, 0, 0, 0), (1037, 103, 0, 0, 0, 0)] := rfl
theorem yb239_82 : zC 239 82 = [(1038, 55, 30, 0, 0, 0)] := rfl
theorem law_black (xs : Nat → Int32) (L D p : Nat) (hD : 6 ≤ D) (hp : p + 7 ≤ L) (hL : L ≤ 3584) (hc : xs p &&& 31 = 13) (I : Nat → Nat → Int32) (J : Nat → Nat → Int64) (X : XH) (b2 : Int32) (hb : b2 = if xs (p + 2) = 0 then 0 else 1) (k : Int32) (v : Int32) {I1 I2 : Nat → Nat → Int32} {J1 J2 : Nat → Nat → Int64} {X2 : XH} (eW : zev xs L D 222 [.ref 0, .int (xs (p + 1)), .int b2, .int (xs (p + 3)), .ref 122] (zmk I J X) = some (.inr (some (.int k)), zmk I1 J1 X2)) (eM : zev xs L D 180 [.ref 61, .int (xs (p + 1)), .int b2, .int (xs (p + 3))] (zmk I1 J1 X2) = some (.inr (some (.int v)), zmk I2 J2 X2)) (h1 : I2 61 1 = k) (hk : k = 0 → J2 122 0 = v.toInt64) : zgo xs L D 239 2 (yLO p) (zmk I J X) = zgo xs L D 239 2 (yLO (p + 7)) (zmk I2 J2 X2) := by
  have H := law_2 xs L D p (zmk I J X) hL (by omega)
  rw [if_neg (by omega), hc, show zswgo (fun b => zseg (zE xs L D 239) (zC 239) 688 (zC 239 b)) 30 13 (yLO p) [] (zmk I J X) (zSW 9).1 = zseg (zE xs L D 239) (zC 239) 688 (zC 239 17) (yLO p) [] (zmk I J X) from rfl] at H
  refine (H.trans (congrArg (zth xs L D 239) (?_ : _ = some (.inl (2, yLO (p + 7), zmk I2 J2 X2))))).trans zth_go
  by_cases cb : xs (p + 2) = 0
  · rw [if_pos cb] at hb
    subst hb
    rw [yb239_17]
    refine (u_a 0 rfl).trans ?_
    refine (u_x (Int32.ofNat p) (xs (p + 1)) rfl rfl (law_xk p L 1 (by decide) hp hL).1 (congrArg xs (law_xk p L 1 (by decide) hp hL).2)).trans ?_
    refine (u_x (Int32.ofNat p) (xs (p + 2)) rfl rfl (law_xk p L 2 (by decide) hp hL).1 (congrArg xs (law_xk p L 2 (by decide) hp hL).2)).trans ?_
    refine (u_ifeq_y cb).trans ?_
    rw [yb239_40]
    refine u_const.trans ?_
    refine u_fall.trans ?_
    rw [yb239_41]
    refine (u_x (Int32.ofNat p) (xs (p + 3)) rfl rfl (law_xk p L 3 (by decide) hp hL).1 (congrArg xs (law_xk p L 3 (by decide) hp hL).2)).trans ?_
    refine (u_a 122 rfl).trans ?_
    refine (u_ni [.ref 0, .int (xs (p + 1)), .int (0), .int (xs (p + 3)), .ref 122] rfl rfl ⟨Nat.le_of_ble_eq_true rfl, Nat.le_of_ble_eq_true rfl, rfl⟩ (law_E.trans eW)).trans ?_
    refine (u_is ((5, .int k) :: yLO p) rfl).trans ?_
    refine (u_a 61 rfl).trans ?_
    refine (u_x (Int32.ofNat p) (xs (p + 1)) rfl rfl (law_xk p L 1 (by decide) hp hL).1 (congrArg xs (law_xk p L 1 (by decide) hp hL).2)).trans ?_
    refine (u_x (Int32.ofNat p) (xs (p + 2)) rfl rfl (law_xk p L 2 (by decide) hp hL).1 (congrArg xs (law_xk p L 2 (by decide) hp hL).2)).trans ?_
    refine (u_ifeq_y cb).trans ?_
    rw [yb239_65]
    refine u_const.trans ?_
    refine u_fall.trans ?_
    rw [yb239_66]
    refine (u_x (Int32.ofNat p) (xs (p + 3)) rfl rfl (law_xk p L 3 (by decide) hp hL).1 (congrArg xs (law_xk p L 3 (by decide) hp hL).2)).trans ?_
    refine (u_ci [.ref 61, .int (xs (p + 1)), .int (0), .int (xs (p + 3))] rfl rfl ⟨Nat.le_of_ble_eq_true rfl, Nat.le_of_ble_eq_true rfl⟩ rfl (law_E.trans eM)).trans ?_
    refine (u_is ((6, .int v) :: (5, .int k) :: yLO p) rfl).trans ?_
    refine (u_a 61 rfl).trans ?_
    refine (u_ci [.ref 61] rfl rfl ⟨Nat.le_of_ble_eq_true rfl, Nat.le_of_ble_eq_true rfl⟩ rfl (law_E.trans (e141 xs L D hD _ _ _))).trans ?_
    refine (u_i k rfl).trans ?_
    refine (u_eq2 h1).trans ?_
    rw [yb239_80]
    exact law_ti k v rfl rfl rfl ⟨rfl, rfl⟩ yb239_82 hk
  · rw [if_neg cb] at hb
    subst hb
    rw [yb239_17]
    refine (u_a 0 rfl).trans ?_
    refine (u_x (Int32.ofNat p) (xs (p + 1)) rfl rfl (law_xk p L 1 (by decide) hp hL).1 (congrArg xs (law_xk p L 1 (by decide) hp hL).2)).trans ?_
    refine (u_x (Int32.ofNat p) (xs (p + 2)) rfl rfl (law_xk p L 2 (by decide) hp hL).1 (congrArg xs (law_xk p L 2 (by decide) hp hL).2)).trans ?_
    refine (u_ifeq_n cb).trans ?_
    refine u_const.trans ?_
    refine u_goto.trans ?_
    rw [yb239_41]
    refine (u_x (Int32.ofNat p) (xs (p + 3)) rfl rfl (law_xk p L 3 (by decide) hp hL).1 (congrArg xs (law_xk p L 3 (by decide) hp hL).2)).trans ?_
    refine (u_a 122 rfl).trans ?_
    refine (u_ni [.ref 0, .int (xs (p + 1)), .int (1), .int (xs (p + 3)), .ref 122] rfl rfl ⟨Nat.le_of_ble_eq_true rfl, Nat.le_of_ble_eq_true rfl, rfl⟩ (law_E.trans eW)).trans ?_
    refine (u_is ((5, .int k) :: yLO p) rfl).trans ?_
    refine (u_a 61 rfl).trans ?_
    refine (u_x (Int32.ofNat p) (xs (p + 1)) rfl rfl (law_xk p L 1 (by decide) hp hL).1 (congrArg xs (law_xk p L 1 (by decide) hp hL).2)).trans ?_
    refine (u_x (Int32.ofNat p) (xs (p + 2)) rfl rfl (law_xk p L 2 (by decide) hp hL).1 (congrArg xs (law_xk p L 2 (by decide) hp hL).2)).trans ?_
    refine (u_ifeq_n cb).trans ?_
    refine u_const.trans ?_
    refine u_goto.trans ?_
    rw [yb239_66]
    refine (u_x (Int32.ofNat p) (xs (p + 3)) rfl rfl (law_xk p L 3 (by decide) hp hL).1 (congrArg xs (law_xk p L 3 (by decide) hp hL).2)).trans ?_
    refine (u_ci [.ref 61, .int (xs (p + 1)), .int (1), .int (xs (p + 3))] rfl rfl ⟨Nat.le_of_ble_eq_true rfl, Nat.le_of_ble_eq_true rfl⟩ rfl (law_E.trans eM)).trans ?_
    refine (u_is ((6, .int v) :: (5, .int k) :: yLO p) rfl).trans ?_
    refine (u_a 61 rfl).trans ?_
    refine (u_ci [.ref 61] rfl rfl ⟨Nat.le_of_ble_eq_true rfl, Nat.le_of_ble_eq_true rfl⟩ rfl (law_E.trans (e141 xs L D hD _ _ _))).trans ?_
    refine (u_i k rfl).trans ?_
    refine (u_eq2 h1).trans ?_
    rw [yb239_80]
    exact law_ti k v rfl rfl rfl ⟨rfl, rfl⟩ yb239_82 hk
theorem yb239_18 : zC 239 18 = [(1041, 7, 1, 1, 0, 0), (1042, 7, 0, 1, 0, 0), (1043, 5, 4, 0, 0, 0), (1045, 1, 0, 0, 0, 1), (1046, 12, 0, 0, 0, 0), (1047, 81, 0, 0, 0, 0), (1048, 7, 0, 1, 0, 0), (1049, 5, 4, 0, 0, 0), (1051, 1, 0, 0, 0, 2), (1052, 12, 0, 0, 0, 0), (1053, 81, 0, 0, 0, 0), (1054, 7, 0, 1, 0, 0), (1055, 5, 4, 0, 0, 0), (1057, 1, 0, 0, 0, 3), (1058, 12, 0, 0, 0, 0), (1059, 81, 0, 0, 0, 0), (1060, 7, 3, 1, 0, 0), (1061, 105, 223, 5, 14499, 6), (1064, 8, 5, 0, 0, 0), (1066, 7, 2, 1, 0, 0), (1067, 7, 0, 1, 0, 0), (1068, 5, 4, 0, 0, 0), (1070, 1, 0, 0, 0, 1), (1071, 12, 0, 0, 0, 0), (1072, 81, 0, 0, 0, 0), (1073, 7, 0, 1, 0, 0), (1074, 5, 4, 0, 0, 0), (1076, 1, 0, 0, 0, 2), (1077, 12, 0, 0, 0, 0), (1078, 81, 0, 0, 0, 0), (1079, 7, 0, 1, 0, 0), (1080, 5, 4, 0, 0, 0), (1082, 1, 0, 0, 0, 3), (1083, 12, 0, 0, 0, 0), (1084, 81, 0, 0, 0, 0), (1085, 90, 181, 4, 14612, 0), (1088, 8, 6, 0, 0, 0), (1090, 7, 2, 1, 0, 0), (1091, 90, 141, 1, 9612, 0), (1094, 5, 5, 0, 0, 0), (1096, 48, 42, 0, 0, 0), (1099, 1, 0, 0, 0, 0), (1100, 103, 0, 0, 0, 0)] := rfl
theorem yb239_42 : zC 239 42 = [(1101, 5, 5, 0, 0, 0), (1103, 43, 67, 0, 0, 0), (1106, 7, 3, 1, 0, 0), (1107, 1, 0, 0, 0, 0), (1108, 72, 0, 0, 0, 0), (1109, 5, 6, 0, 0, 0), (1111, 42, 68, 0, 0, 0), (1114, 3, 1, 0, 0, 0), (1115, 55, 69, 0, 0, 0)] := rfl
theorem yb239_67 : zC 239 67 = [(1125, 55, 30, 0, 0, 0)] := rfl
theorem yb239_68 : zC 239 68 = [(1118, 3, 0, 0, 0, 0), (1119, 56, 69, 0, 0, 0)] := rfl
theorem yb239_69 : zC 239 69 = [(1119, 36, 0, 0, 0, 0), (1120, 42, 67, 0, 0, 0), (1123, 1, 0, 0, 0, 0), (1124, 103, 0, 0, 0, 0)] := rfl
theorem law_rate (xs : Nat → Int32) (L D p : Nat) (hD : 6 ≤ D) (hp : p + 7 ≤ L) (hL : L ≤ 3584) (hc : xs p &&& 31 = 14) (I : Nat → Nat → Int32) (J : Nat → Nat → Int64) (X : XH) (k : Int32) (v : Int32) {I1 I2 : Nat → Nat → Int32} {J1 J2 : Nat → Nat → Int64} {X2 : XH} (eW : zev xs L D 223 [.ref 0, .int (xs (p + 1)), .int (xs (p + 2)), .int (xs (p + 3)), .ref 122] (zmk I J X) = some (.inr (some (.int k)), zmk I1 J1 X2)) (eM : zev xs L D 181 [.ref 61, .int (xs (p + 1)), .int (xs (p + 2)), .int (xs (p + 3))] (zmk I1 J1 X2) = some (.inr (some (.int v)), zmk I2 J2 X2)) (h1 : I2 61 1 = k) (hk : k = 0 → J2 122 0 = if v = 0 then Int64.ofNat 0 else Int64.ofNat 1) : zgo xs L D 239 2 (yLO p) (zmk I J X) = zgo xs L D 239 2 (yLO (p + 7)) (zmk I2 J2 X2) := by
  have H := law_2 xs L D p (zmk I J X) hL (by omega)
  rw [if_neg (by omega), hc, show zswgo (fun b => zseg (zE xs L D 239) (zC 239) 688 (zC 239 b)) 30 14 (yLO p) [] (zmk I J X) (zSW 9).1 = zseg (zE xs L D 239) (zC 239) 688 (zC 239 18) (yLO p) [] (zmk I J X) from rfl] at H
  refine (H.trans (congrArg (zth xs L D 239) (?_ : _ = some (.inl (2, yLO (p + 7), zmk I2 J2 X2))))).trans zth_go
  rw [yb239_18]
  refine (u_a 0 rfl).trans ?_
  refine (u_x (Int32.ofNat p) (xs (p + 1)) rfl rfl (law_xk p L 1 (by decide) hp hL).1 (congrArg xs (law_xk p L 1 (by decide) hp hL).2)).trans ?_
  refine (u_x (Int32.ofNat p) (xs (p + 2)) rfl rfl (law_xk p L 2 (by decide) hp hL).1 (congrArg xs (law_xk p L 2 (by decide) hp hL).2)).trans ?_
  refine (u_x (Int32.ofNat p) (xs (p + 3)) rfl rfl (law_xk p L 3 (by decide) hp hL).1 (congrArg xs (law_xk p L 3 (by decide) hp hL).2)).trans ?_
  refine (u_a 122 rfl).trans ?_
  refine (u_ni [.ref 0, .int (xs (p + 1)), .int (xs (p + 2)), .int (xs (p + 3)), .ref 122] rfl rfl ⟨Nat.le_of_ble_eq_true rfl, Nat.le_of_ble_eq_true rfl, rfl⟩ (law_E.trans eW)).trans ?_
  refine (u_is ((5, .int k) :: yLO p) rfl).trans ?_
  refine (u_a 61 rfl).trans ?_
  refine (u_x (Int32.ofNat p) (xs (p + 1)) rfl rfl (law_xk p L 1 (by decide) hp hL).1 (congrArg xs (law_xk p L 1 (by decide) hp hL).2)).trans ?_
  refine (u_x (Int32.ofNat p) (xs (p + 2)) rfl rfl (law_xk p L 2 (by decide) hp hL).1 (congrArg xs (law_xk p L 2 (by decide) hp hL).2)).trans ?_
  refine (u_x (Int32.ofNat p) (xs (p + 3)) rfl rfl (law_xk p L 3 (by decide) hp hL).1 (congrArg xs (law_xk p L 3 (by decide) hp hL).2)).trans ?_
  refine (u_ci [.ref 61, .int (xs (p + 1)), .int (xs (p + 2)), .int (xs (p + 3))] rfl rfl ⟨Nat.le_of_ble_eq_true rfl, Nat.le_of_ble_eq_true rfl⟩ rfl (law_E.trans eM)).trans ?_
  refine (u_is ((6, .int v) :: (5, .int k) :: yLO p) rfl).trans ?_
  refine (u_a 61 rfl).trans ?_
  refine (u_ci [.ref 61] rfl rfl ⟨Nat.le_of_ble_eq_true rfl, Nat.le_of_ble_eq_true rfl⟩ rfl (law_E.trans (e141 xs L D hD _ _ _))).trans ?_
  refine (u_i k rfl).trans ?_
  refine (u_eq2 h1).trans ?_
  rw [yb239_42]
  exact law_tb k v rfl rfl rfl ⟨rfl, rfl⟩ yb239_67 yb239_68 yb239_69 hk
theorem yb239_19 : zC 239 19 = [(1128, 7, 1, 1, 0, 0), (1129, 7, 0, 1, 0, 0), (1130, 5, 4, 0, 0, 0), (1132, 1, 0, 0, 0, 1), (1133, 12, 0, 0, 0, 0), (1134, 81, 0, 0, 0, 0), (1135, 7, 0, 1, 0, 0), (1136, 5, 4, 0, 0, 0), (1138, 1, 0, 0, 0, 2), (1139, 12, 0, 0, 0, 0), (1140, 81, 0, 0, 0, 0), (1141, 7, 0, 1, 0, 0), (1142, 5, 4, 0, 0, 0), (1144, 1, 0, 0, 0, 3), (1145, 12, 0, 0, 0, 0), (1146, 81, 0, 0, 0, 0), (1147, 7, 3, 1, 0, 0), (1148, 105, 224, 5, 14799, 6), (1151, 8, 5, 0, 0, 0), (1153, 7, 2, 1, 0, 0), (1154, 7, 0, 1, 0, 0), (1155, 5, 4, 0, 0, 0), (1157, 1, 0, 0, 0, 1), (1158, 12, 0, 0, 0, 0), (1159, 81, 0, 0, 0, 0), (1160, 7, 0, 1, 0, 0), (1161, 5, 4, 0, 0, 0), (1163, 1, 0, 0, 0, 2), (1164, 12, 0, 0, 0, 0), (1165, 81, 0, 0, 0, 0), (1166, 7, 0, 1, 0, 0), (1167, 5, 4, 0, 0, 0), (1169, 1, 0, 0, 0, 3), (1170, 12, 0, 0, 0, 0), (1171, 81, 0, 0, 0, 0), (1172, 90, 182, 4, 14912, 0), (1175, 8, 6, 0, 0, 0), (1177, 7, 2, 1, 0, 0), (1178, 90, 141, 1, 9612, 0), (1181, 5, 5, 0, 0, 0), (1183, 48, 43, 0, 0, 0), (1186, 1, 0, 0, 0, 0), (1187, 103, 0, 0, 0, 0)] := rfl
theorem yb239_43 : zC 239 43 = [(1188, 5, 5, 0, 0, 0), (1190, 43, 70, 0, 0, 0), (1193, 7, 3, 1, 0, 0), (1194, 1, 0, 0, 0, 0), (1195, 72, 0, 0, 0, 0), (1196, 5, 6, 0, 0, 0), (1198, 34, 0, 0, 0, 0), (1199, 36, 0, 0, 0, 0), (1200, 42, 70, 0, 0, 0), (1203, 1, 0, 0, 0, 0), (1204, 103, 0, 0, 0, 0)] := rfl
theorem yb239_70 : zC 239 70 = [(1205, 55, 30, 0, 0, 0)] := rfl
theorem law_track (xs : Nat → Int32) (L D p : Nat) (hD : 6 ≤ D) (hp : p + 7 ≤ L) (hL : L ≤ 3584) (hc : xs p &&& 31 = 15) (I : Nat → Nat → Int32) (J : Nat → Nat → Int64) (X : XH) (k : Int32) (v : Int32) {I1 I2 : Nat → Nat → Int32} {J1 J2 : Nat → Nat → Int64} {X2 : XH} (eW : zev xs L D 224 [.ref 0, .int (xs (p + 1)), .int (xs (p + 2)), .int (xs (p + 3)), .ref 122] (zmk I J X) = some (.inr (some (.int k)), zmk I1 J1 X2)) (eM : zev xs L D 182 [.ref 61, .int (xs (p + 1)), .int (xs (p + 2)), .int (xs (p + 3))] (zmk I1 J1 X2) = some (.inr (some (.int v)), zmk I2 J2 X2)) (h1 : I2 61 1 = k) (hk : k = 0 → J2 122 0 = v.toInt64) : zgo xs L D 239 2 (yLO p) (zmk I J X) = zgo xs L D 239 2 (yLO (p + 7)) (zmk I2 J2 X2) := by
  have H := law_2 xs L D p (zmk I J X) hL (by omega)
  rw [if_neg (by omega), hc, show zswgo (fun b => zseg (zE xs L D 239) (zC 239) 688 (zC 239 b)) 30 15 (yLO p) [] (zmk I J X) (zSW 9).1 = zseg (zE xs L D 239) (zC 239) 688 (zC 239 19) (yLO p) [] (zmk I J X) from rfl] at H
  refine (H.trans (congrArg (zth xs L D 239) (?_ : _ = some (.inl (2, yLO (p + 7), zmk I2 J2 X2))))).trans zth_go
  rw [yb239_19]
  refine (u_a 0 rfl).trans ?_
  refine (u_x (Int32.ofNat p) (xs (p + 1)) rfl rfl (law_xk p L 1 (by decide) hp hL).1 (congrArg xs (law_xk p L 1 (by decide) hp hL).2)).trans ?_
  refine (u_x (Int32.ofNat p) (xs (p + 2)) rfl rfl (law_xk p L 2 (by decide) hp hL).1 (congrArg xs (law_xk p L 2 (by decide) hp hL).2)).trans ?_
  refine (u_x (Int32.ofNat p) (xs (p + 3)) rfl rfl (law_xk p L 3 (by decide) hp hL).1 (congrArg xs (law_xk p L 3 (by decide) hp hL).2)).trans ?_
  refine (u_a 122 rfl).trans ?_
  refine (u_ni [.ref 0, .int (xs (p + 1)), .int (xs (p + 2)), .int (xs (p + 3)), .ref 122] rfl rfl ⟨Nat.le_of_ble_eq_true rfl, Nat.le_of_ble_eq_true rfl, rfl⟩ (law_E.trans eW)).trans ?_
  refine (u_is ((5, .int k) :: yLO p) rfl).trans ?_
  refine (u_a 61 rfl).trans ?_
  refine (u_x (Int32.ofNat p) (xs (p + 1)) rfl rfl (law_xk p L 1 (by decide) hp hL).1 (congrArg xs (law_xk p L 1 (by decide) hp hL).2)).trans ?_
  refine (u_x (Int32.ofNat p) (xs (p + 2)) rfl rfl (law_xk p L 2 (by decide) hp hL).1 (congrArg xs (law_xk p L 2 (by decide) hp hL).2)).trans ?_
  refine (u_x (Int32.ofNat p) (xs (p + 3)) rfl rfl (law_xk p L 3 (by decide) hp hL).1 (congrArg xs (law_xk p L 3 (by decide) hp hL).2)).trans ?_
  refine (u_ci [.ref 61, .int (xs (p + 1)), .int (xs (p + 2)), .int (xs (p + 3))] rfl rfl ⟨Nat.le_of_ble_eq_true rfl, Nat.le_of_ble_eq_true rfl⟩ rfl (law_E.trans eM)).trans ?_
  refine (u_is ((6, .int v) :: (5, .int k) :: yLO p) rfl).trans ?_
  refine (u_a 61 rfl).trans ?_
  refine (u_ci [.ref 61] rfl rfl ⟨Nat.le_of_ble_eq_true rfl, Nat.le_of_ble_eq_true rfl⟩ rfl (law_E.trans (e141 xs L D hD _ _ _))).trans ?_
  refine (u_i k rfl).trans ?_
  refine (u_eq2 h1).trans ?_
  rw [yb239_43]
  exact law_ti k v rfl rfl rfl ⟨rfl, rfl⟩ yb239_70 hk
theorem yb239_20 : zC 239 20 = [(1208, 7, 1, 1, 0, 0), (1209, 7, 0, 1, 0, 0), (1210, 5, 4, 0, 0, 0), (1212, 1, 0, 0, 0, 1), (1213, 12, 0, 0, 0, 0), (1214, 81, 0, 0, 0, 0), (1215, 7, 0, 1, 0, 0), (1216, 5, 4, 0, 0, 0), (1218, 1, 0, 0, 0, 2), (1219, 12, 0, 0, 0, 0), (1220, 81, 0, 0, 0, 0), (1221, 7, 0, 1, 0, 0), (1222, 5, 4, 0, 0, 0), (1224, 1, 0, 0, 0, 3), (1225, 12, 0, 0, 0, 0), (1226, 81, 0, 0, 0, 0), (1227, 7, 0, 1, 0, 0), (1228, 5, 4, 0, 0, 0), (1230, 1, 0, 0, 0, 4), (1231, 12, 0, 0, 0, 0), (1232, 81, 0, 0, 0, 0), (1233, 7, 3, 1, 0, 0), (1234, 105, 225, 6, 15099, 6), (1237, 8, 5, 0, 0, 0), (1239, 7, 2, 1, 0, 0), (1240, 7, 0, 1, 0, 0), (1241, 5, 4, 0, 0, 0), (1243, 1, 0, 0, 0, 1), (1244, 12, 0, 0, 0, 0), (1245, 81, 0, 0, 0, 0), (1246, 7, 0, 1, 0, 0), (1247, 5, 4, 0, 0, 0), (1249, 1, 0, 0, 0, 2), (1250, 12, 0, 0, 0, 0), (1251, 81, 0, 0, 0, 0), (1252, 7, 0, 1, 0, 0), (1253, 5, 4, 0, 0, 0), (1255, 1, 0, 0, 0, 3), (1256, 12, 0, 0, 0, 0), (1257, 81, 0, 0, 0, 0), (1258, 7, 0, 1, 0, 0), (1259, 5, 4, 0, 0, 0), (1261, 1, 0, 0, 0, 4), (1262, 12, 0, 0, 0, 0), (1263, 81, 0, 0, 0, 0), (1264, 90, 198, 5, 15312, 0), (1267, 8, 6, 0, 0, 0), (1269, 7, 2, 1, 0, 0), (1270, 90, 141, 1, 9612, 0), (1273, 5, 5, 0, 0, 0), (1275, 48, 44, 0, 0, 0), (1278, 1, 0, 0, 0, 0), (1279, 103, 0, 0, 0, 0)] := rfl
theorem yb239_44 : zC 239 44 = [(1280, 5, 5, 0, 0, 0), (1282, 43, 71, 0, 0, 0), (1285, 7, 3, 1, 0, 0), (1286, 1, 0, 0, 0, 0), (1287, 72, 0, 0, 0, 0), (1288, 5, 6, 0, 0, 0), (1290, 34, 0, 0, 0, 0), (1291, 36, 0, 0, 0, 0), (1292, 42, 71, 0, 0, 0), (1295, 1, 0, 0, 0, 0), (1296, 103, 0, 0, 0, 0)] := rfl
theorem yb239_71 : zC 239 71 = [(1297, 55, 30, 0, 0, 0)] := rfl
theorem law_passage (xs : Nat → Int32) (L D p : Nat) (hD : 6 ≤ D) (hp : p + 7 ≤ L) (hL : L ≤ 3584) (hc : xs p &&& 31 = 16) (I : Nat → Nat → Int32) (J : Nat → Nat → Int64) (X : XH) (k : Int32) (v : Int32) {I1 I2 : Nat → Nat → Int32} {J1 J2 : Nat → Nat → Int64} {X2 : XH} (eW : zev xs L D 225 [.ref 0, .int (xs (p + 1)), .int (xs (p + 2)), .int (xs (p + 3)), .int (xs (p + 4)), .ref 122] (zmk I J X) = some (.inr (some (.int k)), zmk I1 J1 X2)) (eM : zev xs L D 198 [.ref 61, .int (xs (p + 1)), .int (xs (p + 2)), .int (xs (p + 3)), .int (xs (p + 4))] (zmk I1 J1 X2) = some (.inr (some (.int v)), zmk I2 J2 X2)) (h1 : I2 61 1 = k) (hk : k = 0 → J2 122 0 = v.toInt64) : zgo xs L D 239 2 (yLO p) (zmk I J X) = zgo xs L D 239 2 (yLO (p + 7)) (zmk I2 J2 X2) := by
  have H := law_2 xs L D p (zmk I J X) hL (by omega)
  rw [if_neg (by omega), hc, show zswgo (fun b => zseg (zE xs L D 239) (zC 239) 688 (zC 239 b)) 30 16 (yLO p) [] (zmk I J X) (zSW 9).1 = zseg (zE xs L D 239) (zC 239) 688 (zC 239 20) (yLO p) [] (zmk I J X) from rfl] at H
  refine (H.trans (congrArg (zth xs L D 239) (?_ : _ = some (.inl (2, yLO (p + 7), zmk I2 J2 X2))))).trans zth_go
  rw [yb239_20]
  refine (u_a 0 rfl).trans ?_
  refine (u_x (Int32.ofNat p) (xs (p + 1)) rfl rfl (law_xk p L 1 (by decide) hp hL).1 (congrArg xs (law_xk p L 1 (by decide) hp hL).2)).trans ?_
  refine (u_x (Int32.ofNat p) (xs (p + 2)) rfl rfl (law_xk p L 2 (by decide) hp hL).1 (congrArg xs (law_xk p L 2 (by decide) hp hL).2)).trans ?_
  refine (u_x (Int32.ofNat p) (xs (p + 3)) rfl rfl (law_xk p L 3 (by decide) hp hL).1 (congrArg xs (law_xk p L 3 (by decide) hp hL).2)).trans ?_
  refine (u_x (Int32.ofNat p) (xs (p + 4)) rfl rfl (law_xk p L 4 (by decide) hp hL).1 (congrArg xs (law_xk p L 4 (by decide) hp hL).2)).trans ?_
  refine (u_a 122 rfl).trans ?_
  refine (u_ni [.ref 0, .int (xs (p + 1)), .int (xs (p + 2)), .int (xs (p + 3)), .int (xs (p + 4)), .ref 122] rfl rfl ⟨Nat.le_of_ble_eq_true rfl, Nat.le_of_ble_eq_true rfl, rfl⟩ (law_E.trans eW)).trans ?_
  refine (u_is ((5, .int k) :: yLO p) rfl).trans ?_
  refine (u_a 61 rfl).trans ?_
  refine (u_x (Int32.ofNat p) (xs (p + 1)) rfl rfl (law_xk p L 1 (by decide) hp hL).1 (congrArg xs (law_xk p L 1 (by decide) hp hL).2)).trans ?_
  refine (u_x (Int32.ofNat p) (xs (p + 2)) rfl rfl (law_xk p L 2 (by decide) hp hL).1 (congrArg xs (law_xk p L 2 (by decide) hp hL).2)).trans ?_
  refine (u_x (Int32.ofNat p) (xs (p + 3)) rfl rfl (law_xk p L 3 (by decide) hp hL).1 (congrArg xs (law_xk p L 3 (by decide) hp hL).2)).trans ?_
  refine (u_x (Int32.ofNat p) (xs (p + 4)) rfl rfl (law_xk p L 4 (by decide) hp hL).1 (congrArg xs (law_xk p L 4 (by decide) hp hL).2)).trans ?_
  refine (u_ci [.ref 61, .int (xs (p + 1)), .int (xs (p + 2)), .int (xs (p + 3)), .int (xs (p + 4))] rfl rfl ⟨Nat.le_of_ble_eq_true rfl, Nat.le_of_ble_eq_true rfl⟩ rfl (law_E.trans eM)).trans ?_
  refine (u_is ((6, .int v) :: (5, .int k) :: yLO p) rfl).trans ?_
  refine (u_a 61 rfl).trans ?_
  refine (u_ci [.ref 61] rfl rfl ⟨Nat.le_of_ble_eq_true rfl, Nat.le_of_ble_eq_true rfl⟩ rfl (law_E.trans (e141 xs L D hD _ _ _))).trans ?_
  refine (u_i k rfl).trans ?_
  refine (u_eq2 h1).trans ?_
  rw [yb239_44]
  exact law_ti k v rfl rfl rfl ⟨rfl, rfl⟩ yb239_71 hk
theorem yb239_21 : zC 239 21 = [(1300, 7, 1, 1, 0, 0), (1301, 7, 0, 1, 0, 0), (1302, 5, 4, 0, 0, 0), (1304, 1, 0, 0, 0, 1), (1305, 12, 0, 0, 0, 0), (1306, 81, 0, 0, 0, 0), (1307, 7, 0, 1, 0, 0), (1308, 5, 4, 0, 0, 0), (1310, 1, 0, 0, 0, 2), (1311, 12, 0, 0, 0, 0), (1312, 81, 0, 0, 0, 0), (1313, 7, 0, 1, 0, 0), (1314, 5, 4, 0, 0, 0), (1316, 1, 0, 0, 0, 3), (1317, 12, 0, 0, 0, 0), (1318, 81, 0, 0, 0, 0), (1319, 7, 0, 1, 0, 0), (1320, 5, 4, 0, 0, 0), (1322, 1, 0, 0, 0, 4), (1323, 12, 0, 0, 0, 0), (1324, 81, 0, 0, 0, 0), (1325, 7, 3, 1, 0, 0), (1326, 105, 226, 6, 15499, 6), (1329, 8, 5, 0, 0, 0), (1331, 7, 2, 1, 0, 0), (1332, 7, 0, 1, 0, 0), (1333, 5, 4, 0, 0, 0), (1335, 1, 0, 0, 0, 1), (1336, 12, 0, 0, 0, 0), (1337, 81, 0, 0, 0, 0), (1338, 7, 0, 1, 0, 0), (1339, 5, 4, 0, 0, 0), (1341, 1, 0, 0, 0, 2), (1342, 12, 0, 0, 0, 0), (1343, 81, 0, 0, 0, 0), (1344, 7, 0, 1, 0, 0), (1345, 5, 4, 0, 0, 0), (1347, 1, 0, 0, 0, 3), (1348, 12, 0, 0, 0, 0), (1349, 81, 0, 0, 0, 0), (1350, 7, 0, 1, 0, 0), (1351, 5, 4, 0, 0, 0), (1353, 1, 0, 0, 0, 4), (1354, 12, 0, 0, 0, 0), (1355, 81, 0, 0, 0, 0), (1356, 91, 200, 5, 15612, 0), (1359, 9, 6, 0, 0, 0), (1361, 7, 2, 1, 0, 0), (1362, 90, 141, 1, 9612, 0), (1365, 5, 5, 0, 0, 0), (1367, 48, 45, 0, 0, 0), (1370, 1, 0, 0, 0, 0), (1371, 103, 0, 0, 0, 0)] := rfl
theorem yb239_45 : zC 239 45 = [(1372, 5, 5, 0, 0, 0), (1374, 43, 72, 0, 0, 0), (1377, 7, 3, 1, 0, 0), (1378, 1, 0, 0, 0, 0), (1379, 72, 0, 0, 0, 0), (1380, 6, 6, 0, 0, 0), (1382, 36, 0, 0, 0, 0), (1383, 42, 72, 0, 0, 0), (1386, 1, 0, 0, 0, 0), (1387, 103, 0, 0, 0, 0)] := rfl
theorem yb239_72 : zC 239 72 = [(1388, 55, 30, 0, 0, 0)] := rfl
theorem law_due (xs : Nat → Int32) (L D p : Nat) (hD : 6 ≤ D) (hp : p + 7 ≤ L) (hL : L ≤ 3584) (hc : xs p &&& 31 = 17) (I : Nat → Nat → Int32) (J : Nat → Nat → Int64) (X : XH) (k : Int32) (v : Int64) {I1 I2 : Nat → Nat → Int32} {J1 J2 : Nat → Nat → Int64} {X2 : XH} (eW : zev xs L D 226 [.ref 0, .int (xs (p + 1)), .int (xs (p + 2)), .int (xs (p + 3)), .int (xs (p + 4)), .ref 122] (zmk I J X) = some (.inr (some (.int k)), zmk I1 J1 X2)) (eM : zev xs L D 200 [.ref 61, .int (xs (p + 1)), .int (xs (p + 2)), .int (xs (p + 3)), .int (xs (p + 4))] (zmk I1 J1 X2) = some (.inr (some (.long v)), zmk I2 J2 X2)) (h1 : I2 61 1 = k) (hk : k = 0 → J2 122 0 = v) : zgo xs L D 239 2 (yLO p) (zmk I J X) = zgo xs L D 239 2 (yLO (p + 7)) (zmk I2 J2 X2) := by
  have H := law_2 xs L D p (zmk I J X) hL (by omega)
  rw [if_neg (by omega), hc, show zswgo (fun b => zseg (zE xs L D 239) (zC 239) 688 (zC 239 b)) 30 17 (yLO p) [] (zmk I J X) (zSW 9).1 = zseg (zE xs L D 239) (zC 239) 688 (zC 239 21) (yLO p) [] (zmk I J X) from rfl] at H
  refine (H.trans (congrArg (zth xs L D 239) (?_ : _ = some (.inl (2, yLO (p + 7), zmk I2 J2 X2))))).trans zth_go
  rw [yb239_21]
  refine (u_a 0 rfl).trans ?_
  refine (u_x (Int32.ofNat p) (xs (p + 1)) rfl rfl (law_xk p L 1 (by decide) hp hL).1 (congrArg xs (law_xk p L 1 (by decide) hp hL).2)).trans ?_
  refine (u_x (Int32.ofNat p) (xs (p + 2)) rfl rfl (law_xk p L 2 (by decide) hp hL).1 (congrArg xs (law_xk p L 2 (by decide) hp hL).2)).trans ?_
  refine (u_x (Int32.ofNat p) (xs (p + 3)) rfl rfl (law_xk p L 3 (by decide) hp hL).1 (congrArg xs (law_xk p L 3 (by decide) hp hL).2)).trans ?_
  refine (u_x (Int32.ofNat p) (xs (p + 4)) rfl rfl (law_xk p L 4 (by decide) hp hL).1 (congrArg xs (law_xk p L 4 (by decide) hp hL).2)).trans ?_
  refine (u_a 122 rfl).trans ?_
  refine (u_ni [.ref 0, .int (xs (p + 1)), .int (xs (p + 2)), .int (xs (p + 3)), .int (xs (p + 4)), .ref 122] rfl rfl ⟨Nat.le_of_ble_eq_true rfl, Nat.le_of_ble_eq_true rfl, rfl⟩ (law_E.trans eW)).trans ?_
  refine (u_is ((5, .int k) :: yLO p) rfl).trans ?_
  refine (u_a 61 rfl).trans ?_
  refine (u_x (Int32.ofNat p) (xs (p + 1)) rfl rfl (law_xk p L 1 (by decide) hp hL).1 (congrArg xs (law_xk p L 1 (by decide) hp hL).2)).trans ?_
  refine (u_x (Int32.ofNat p) (xs (p + 2)) rfl rfl (law_xk p L 2 (by decide) hp hL).1 (congrArg xs (law_xk p L 2 (by decide) hp hL).2)).trans ?_
  refine (u_x (Int32.ofNat p) (xs (p + 3)) rfl rfl (law_xk p L 3 (by decide) hp hL).1 (congrArg xs (law_xk p L 3 (by decide) hp hL).2)).trans ?_
  refine (u_x (Int32.ofNat p) (xs (p + 4)) rfl rfl (law_xk p L 4 (by decide) hp hL).1 (congrArg xs (law_xk p L 4 (by decide) hp hL).2)).trans ?_
  refine (u_cl [.ref 61, .int (xs (p + 1)), .int (xs (p + 2)), .int (xs (p + 3)), .int (xs (p + 4))] rfl rfl ⟨Nat.le_of_ble_eq_true rfl, Nat.le_of_ble_eq_true rfl⟩ rfl (law_E.trans eM)).trans ?_
  refine (u_ls ((6, .long v) :: (5, .int k) :: yLO p) rfl).trans ?_
  refine (u_a 61 rfl).trans ?_
  refine (u_ci [.ref 61] rfl rfl ⟨Nat.le_of_ble_eq_true rfl, Nat.le_of_ble_eq_true rfl⟩ rfl (law_E.trans (e141 xs L D hD _ _ _))).trans ?_
  refine (u_i k rfl).trans ?_
  refine (u_eq2 h1).trans ?_
  rw [yb239_45]
  exact law_tl k v rfl rfl rfl ⟨rfl, rfl⟩ yb239_72 hk
theorem yb239_22 : zC 239 22 = [(1391, 7, 1, 1, 0, 0), (1392, 7, 0, 1, 0, 0), (1393, 5, 4, 0, 0, 0), (1395, 1, 0, 0, 0, 1), (1396, 12, 0, 0, 0, 0), (1397, 81, 0, 0, 0, 0), (1398, 7, 0, 1, 0, 0), (1399, 5, 4, 0, 0, 0), (1401, 1, 0, 0, 0, 2), (1402, 12, 0, 0, 0, 0), (1403, 81, 0, 0, 0, 0), (1404, 7, 0, 1, 0, 0), (1405, 5, 4, 0, 0, 0), (1407, 1, 0, 0, 0, 3), (1408, 12, 0, 0, 0, 0), (1409, 81, 0, 0, 0, 0), (1410, 7, 3, 1, 0, 0), (1411, 105, 227, 5, 15799, 6), (1414, 8, 5, 0, 0, 0), (1416, 7, 2, 1, 0, 0), (1417, 7, 0, 1, 0, 0), (1418, 5, 4, 0, 0, 0), (1420, 1, 0, 0, 0, 1), (1421, 12, 0, 0, 0, 0), (1422, 81, 0, 0, 0, 0), (1423, 7, 0, 1, 0, 0), (1424, 5, 4, 0, 0, 0), (1426, 1, 0, 0, 0, 2), (1427, 12, 0, 0, 0, 0), (1428, 81, 0, 0, 0, 0), (1429, 7, 0, 1, 0, 0), (1430, 5, 4, 0, 0, 0), (1432, 1, 0, 0, 0, 3), (1433, 12, 0, 0, 0, 0), (1434, 81, 0, 0, 0, 0), (1435, 90, 204, 4, 15912, 0), (1438, 8, 6, 0, 0, 0), (1440, 7, 2, 1, 0, 0), (1441, 90, 141, 1, 9612, 0), (1444, 5, 5, 0, 0, 0), (1446, 48, 46, 0, 0, 0), (1449, 1, 0, 0, 0, 0), (1450, 103, 0, 0, 0, 0)] := rfl
theorem yb239_46 : zC 239 46 = [(1451, 5, 5, 0, 0, 0), (1453, 43, 73, 0, 0, 0), (1456, 7, 3, 1, 0, 0), (1457, 1, 0, 0, 0, 0), (1458, 72, 0, 0, 0, 0), (1459, 5, 6, 0, 0, 0), (1461, 34, 0, 0, 0, 0), (1462, 36, 0, 0, 0, 0), (1463, 42, 73, 0, 0, 0), (1466, 1, 0, 0, 0, 0), (1467, 103, 0, 0, 0, 0)] := rfl
theorem yb239_73 : zC 239 73 = [(1468, 55, 30, 0, 0, 0)] := rfl
theorem law_unpaid (xs : Nat → Int32) (L D p : Nat) (hD : 6 ≤ D) (hp : p + 7 ≤ L) (hL : L ≤ 3584) (hc : xs p &&& 31 = 18) (I : Nat → Nat → Int32) (J : Nat → Nat → Int64) (X : XH) (k : Int32) (v : Int32) {I1 I2 : Nat → Nat → Int32} {J1 J2 : Nat → Nat → Int64} {X2 : XH} (eW : zev xs L D 227 [.ref 0, .int (xs (p + 1)), .int (xs (p + 2)), .int (xs (p + 3)), .ref 122] (zmk I J X) = some (.inr (some (.int k)), zmk I1 J1 X2)) (eM : zev xs L D 204 [.ref 61, .int (xs (p + 1)), .int (xs (p + 2)), .int (xs (p + 3))] (zmk I1 J1 X2) = some (.inr (some (.int v)), zmk I2 J2 X2)) (h1 : I2 61 1 = k) (hk : k = 0 → J2 122 0 = v.toInt64) : zgo xs L D 239 2 (yLO p) (zmk I J X) = zgo xs L D 239 2 (yLO (p + 7)) (zmk I2 J2 X2) := by
  have H := law_2 xs L D p (zmk I J X) hL (by omega)
  rw [if_neg (by omega), hc, show zswgo (fun b => zseg (zE xs L D 239) (zC 239) 688 (zC 239 b)) 30 18 (yLO p) [] (zmk I J X) (zSW 9).1 = zseg (zE xs L D 239) (zC 239) 688 (zC 239 22) (yLO p) [] (zmk I J X) from rfl] at H
  refine (H.trans (congrArg (zth xs L D 239) (?_ : _ = some (.inl (2, yLO (p + 7), zmk I2 J2 X2))))).trans zth_go
  rw [yb239_22]
  refine (u_a 0 rfl).trans ?_
  refine (u_x (Int32.ofNat p) (xs (p + 1)) rfl rfl (law_xk p L 1 (by decide) hp hL).1 (congrArg xs (law_xk p L 1 (by decide) hp hL).2)).trans ?_
  refine (u_x (Int32.ofNat p) (xs (p + 2)) rfl rfl (law_xk p L 2 (by decide) hp hL).1 (congrArg xs (law_xk p L 2 (by decide) hp hL).2)).trans ?_
  refine (u_x (Int32.ofNat p) (xs (p + 3)) rfl rfl (law_xk p L 3 (by decide) hp hL).1 (congrArg xs (law_xk p L 3 (by decide) hp hL).2)).trans ?_
  refine (u_a 122 rfl).trans ?_
  refine (u_ni [.ref 0, .int (xs (p + 1)), .int (xs (p + 2)), .int (xs (p + 3)), .ref 122] rfl rfl ⟨Nat.le_of_ble_eq_true rfl, Nat.le_of_ble_eq_true rfl, rfl⟩ (law_E.trans eW)).trans ?_
  refine (u_is ((5, .int k) :: yLO p) rfl).trans ?_
  refine (u_a 61 rfl).trans ?_
  refine (u_x (Int32.ofNat p) (xs (p + 1)) rfl rfl (law_xk p L 1 (by decide) hp hL).1 (congrArg xs (law_xk p L 1 (by decide) hp hL).2)).trans ?_
  refine (u_x (Int32.ofNat p) (xs (p + 2)) rfl rfl (law_xk p L 2 (by decide) hp hL).1 (congrArg xs (law_xk p L 2 (by decide) hp hL).2)).trans ?_
  refine (u_x (Int32.ofNat p) (xs (p + 3)) rfl rfl (law_xk p L 3 (by decide) hp hL).1 (congrArg xs (law_xk p L 3 (by decide) hp hL).2)).trans ?_
  refine (u_ci [.ref 61, .int (xs (p + 1)), .int (xs (p + 2)), .int (xs (p + 3))] rfl rfl ⟨Nat.le_of_ble_eq_true rfl, Nat.le_of_ble_eq_true rfl⟩ rfl (law_E.trans eM)).trans ?_
  refine (u_is ((6, .int v) :: (5, .int k) :: yLO p) rfl).trans ?_
  refine (u_a 61 rfl).trans ?_
  refine (u_ci [.ref 61] rfl rfl ⟨Nat.le_of_ble_eq_true rfl, Nat.le_of_ble_eq_true rfl⟩ rfl (law_E.trans (e141 xs L D hD _ _ _))).trans ?_
  refine (u_i k rfl).trans ?_
  refine (u_eq2 h1).trans ?_
  rw [yb239_46]
  exact law_ti k v rfl rfl rfl ⟨rfl, rfl⟩ yb239_73 hk
theorem yb239_23 : zC 239 23 = [(1471, 7, 1, 1, 0, 0), (1472, 7, 0, 1, 0, 0), (1473, 5, 4, 0, 0, 0), (1475, 1, 0, 0, 0, 1), (1476, 12, 0, 0, 0, 0), (1477, 81, 0, 0, 0, 0), (1478, 7, 0, 1, 0, 0), (1479, 5, 4, 0, 0, 0), (1481, 1, 0, 0, 0, 2), (1482, 12, 0, 0, 0, 0), (1483, 81, 0, 0, 0, 0), (1484, 7, 0, 1, 0, 0), (1485, 5, 4, 0, 0, 0), (1487, 1, 0, 0, 0, 3), (1488, 12, 0, 0, 0, 0), (1489, 81, 0, 0, 0, 0), (1490, 7, 3, 1, 0, 0), (1491, 105, 228, 5, 16099, 6), (1494, 8, 5, 0, 0, 0), (1496, 7, 2, 1, 0, 0), (1497, 7, 0, 1, 0, 0), (1498, 5, 4, 0, 0, 0), (1500, 1, 0, 0, 0, 1), (1501, 12, 0, 0, 0, 0), (1502, 81, 0, 0, 0, 0), (1503, 7, 0, 1, 0, 0), (1504, 5, 4, 0, 0, 0), (1506, 1, 0, 0, 0, 2), (1507, 12, 0, 0, 0, 0), (1508, 81, 0, 0, 0, 0), (1509, 7, 0, 1, 0, 0), (1510, 5, 4, 0, 0, 0), (1512, 1, 0, 0, 0, 3), (1513, 12, 0, 0, 0, 0), (1514, 81, 0, 0, 0, 0), (1515, 91, 205, 4, 16212, 0), (1518, 9, 6, 0, 0, 0), (1520, 7, 2, 1, 0, 0), (1521, 90, 141, 1, 9612, 0), (1524, 5, 5, 0, 0, 0), (1526, 48, 47, 0, 0, 0), (1529, 1, 0, 0, 0, 0), (1530, 103, 0, 0, 0, 0)] := rfl
theorem yb239_47 : zC 239 47 = [(1531, 5, 5, 0, 0, 0), (1533, 43, 74, 0, 0, 0), (1536, 7, 3, 1, 0, 0), (1537, 1, 0, 0, 0, 0), (1538, 72, 0, 0, 0, 0), (1539, 6, 6, 0, 0, 0), (1541, 36, 0, 0, 0, 0), (1542, 42, 74, 0, 0, 0), (1545, 1, 0, 0, 0, 0), (1546, 103, 0, 0, 0, 0)] := rfl
theorem yb239_74 : zC 239 74 = [(1547, 55, 30, 0, 0, 0)] := rfl
theorem law_falls (xs : Nat → Int32) (L D p : Nat) (hD : 6 ≤ D) (hp : p + 7 ≤ L) (hL : L ≤ 3584) (hc : xs p &&& 31 = 19) (I : Nat → Nat → Int32) (J : Nat → Nat → Int64) (X : XH) (k : Int32) (v : Int64) {I1 I2 : Nat → Nat → Int32} {J1 J2 : Nat → Nat → Int64} {X2 : XH} (eW : zev xs L D 228 [.ref 0, .int (xs (p + 1)), .int (xs (p + 2)), .int (xs (p + 3)), .ref 122] (zmk I J X) = some (.inr (some (.int k)), zmk I1 J1 X2)) (eM : zev xs L D 205 [.ref 61, .int (xs (p + 1)), .int (xs (p + 2)), .int (xs (p + 3))] (zmk I1 J1 X2) = some (.inr (some (.long v)), zmk I2 J2 X2)) (h1 : I2 61 1 = k) (hk : k = 0 → J2 122 0 = v) : zgo xs L D 239 2 (yLO p) (zmk I J X) = zgo xs L D 239 2 (yLO (p + 7)) (zmk I2 J2 X2) := by
  have H := law_2 xs L D p (zmk I J X) hL (by omega)
  rw [if_neg (by omega), hc, show zswgo (fun b => zseg (zE xs L D 239) (zC 239) 688 (zC 239 b)) 30 19 (yLO p) [] (zmk I J X) (zSW 9).1 = zseg (zE xs L D 239) (zC 239) 688 (zC 239 23) (yLO p) [] (zmk I J X) from rfl] at H
  refine (H.trans (congrArg (zth xs L D 239) (?_ : _ = some (.inl (2, yLO (p + 7), zmk I2 J2 X2))))).trans zth_go
  rw [yb239_23]
  refine (u_a 0 rfl).trans ?_
  refine (u_x (Int32.ofNat p) (xs (p + 1)) rfl rfl (law_xk p L 1 (by decide) hp hL).1 (congrArg xs (law_xk p L 1 (by decide) hp hL).2)).trans ?_
  refine (u_x (Int32.ofNat p) (xs (p + 2)) rfl rfl (law_xk p L 2 (by decide) hp hL).1 (congrArg xs (law_xk p L 2 (by decide) hp hL).2)).trans ?_
  refine (u_x (Int32.ofNat p) (xs (p + 3)) rfl rfl (law_xk p L 3 (by decide) hp hL).1 (congrArg xs (law_xk p L 3 (by decide) hp hL).2)).trans ?_
  refine (u_a 122 rfl).trans ?_
  refine (u_ni [.ref 0, .int (xs (p + 1)), .int (xs (p + 2)), .int (xs (p + 3)), .ref 122] rfl rfl ⟨Nat.le_of_ble_eq_true rfl, Nat.le_of_ble_eq_true rfl, rfl⟩ (law_E.trans eW)).trans ?_
  refine (u_is ((5, .int k) :: yLO p) rfl).trans ?_
  refine (u_a 61 rfl).trans ?_
  refine (u_x (Int32.ofNat p) (xs (p + 1)) rfl rfl (law_xk p L 1 (by decide) hp hL).1 (congrArg xs (law_xk p L 1 (by decide) hp hL).2)).trans ?_
  refine (u_x (Int32.ofNat p) (xs (p + 2)) rfl rfl (law_xk p L 2 (by decide) hp hL).1 (congrArg xs (law_xk p L 2 (by decide) hp hL).2)).trans ?_
  refine (u_x (Int32.ofNat p) (xs (p + 3)) rfl rfl (law_xk p L 3 (by decide) hp hL).1 (congrArg xs (law_xk p L 3 (by decide) hp hL).2)).trans ?_
  refine (u_cl [.ref 61, .int (xs (p + 1)), .int (xs (p + 2)), .int (xs (p + 3))] rfl rfl ⟨Nat.le_of_ble_eq_true rfl, Nat.le_of_ble_eq_true rfl⟩ rfl (law_E.trans eM)).trans ?_
  refine (u_ls ((6, .long v) :: (5, .int k) :: yLO p) rfl).trans ?_
  refine (u_a 61 rfl).trans ?_
  refine (u_ci [.ref 61] rfl rfl ⟨Nat.le_of_ble_eq_true rfl, Nat.le_of_ble_eq_true rfl⟩ rfl (law_E.trans (e141 xs L D hD _ _ _))).trans ?_
  refine (u_i k rfl).trans ?_
  refine (u_eq2 h1).trans ?_
  rw [yb239_47]
  exact law_tl k v rfl rfl rfl ⟨rfl, rfl⟩ yb239_74 hk
theorem yb239_24 : zC 239 24 = [(1550, 7, 1, 1, 0, 0), (1551, 7, 0, 1, 0, 0), (1552, 5, 4, 0, 0, 0), (1554, 1, 0, 0, 0, 1), (1555, 12, 0, 0, 0, 0), (1556, 81, 0, 0, 0, 0), (1557, 7, 0, 1, 0, 0), (1558, 5, 4, 0, 0, 0), (1560, 1, 0, 0, 0, 2), (1561, 12, 0, 0, 0, 0), (1562, 81, 0, 0, 0, 0), (1563, 34, 0, 0, 0, 0), (1564, 1, 0, 1, 0, 32), (1566, 31, 0, 0, 0, 0), (1567, 7, 0, 1, 0, 0), (1568, 5, 4, 0, 0, 0), (1570, 1, 0, 0, 0, 3), (1571, 12, 0, 0, 0, 0), (1572, 81, 0, 0, 0, 0), (1573, 34, 0, 0, 0, 0), (1574, 3, 4294967295, 3, 163, 0), (1577, 29, 0, 0, 0, 0), (1578, 30, 0, 0, 0, 0), (1579, 7, 0, 1, 0, 0), (1580, 5, 4, 0, 0, 0), (1582, 1, 0, 0, 0, 4), (1583, 12, 0, 0, 0, 0), (1584, 81, 0, 0, 0, 0), (1585, 7, 3, 1, 0, 0), (1586, 105, 229, 5, 16599, 6), (1589, 8, 5, 0, 0, 0), (1591, 7, 2, 1, 0, 0), (1592, 7, 0, 1, 0, 0), (1593, 5, 4, 0, 0, 0), (1595, 1, 0, 0, 0, 1), (1596, 12, 0, 0, 0, 0), (1597, 81, 0, 0, 0, 0), (1598, 7, 0, 1, 0, 0), (1599, 5, 4, 0, 0, 0), (1601, 1, 0, 0, 0, 2), (1602, 12, 0, 0, 0, 0), (1603, 81, 0, 0, 0, 0), (1604, 34, 0, 0, 0, 0), (1605, 1, 0, 1, 0, 32), (1607, 31, 0, 0, 0, 0), (1608, 7, 0, 1, 0, 0), (1609, 5, 4, 0, 0, 0), (1611, 1, 0, 0, 0, 3), (1612, 12, 0, 0, 0, 0), (1613, 81, 0, 0, 0, 0), (1614, 34, 0, 0, 0, 0), (1615, 3, 4294967295, 3, 163, 0), (1618, 29, 0, 0, 0, 0), (1619, 30, 0, 0, 0, 0), (1620, 7, 0, 1, 0, 0), (1621, 5, 4, 0, 0, 0), (1623, 1, 0, 0, 0, 4), (1624, 12, 0, 0, 0, 0), (1625, 81, 0, 0, 0, 0), (1626, 90, 206, 4, 16812, 0), (1629, 8, 6, 0, 0, 0), (1631, 7, 2, 1, 0, 0), (1632, 90, 141, 1, 9612, 0), (1635, 5, 5, 0, 0, 0), (1637, 48, 48, 0, 0, 0), (1640, 1, 0, 0, 0, 0), (1641, 103, 0, 0, 0, 0)] := rfl
theorem yb239_48 : zC 239 48 = [(1642, 5, 5, 0, 0, 0), (1644, 43, 75, 0, 0, 0), (1647, 7, 3, 1, 0, 0), (1648, 1, 0, 0, 0, 0), (1649, 72, 0, 0, 0, 0), (1650, 5, 6, 0, 0, 0), (1652, 34, 0, 0, 0, 0), (1653, 36, 0, 0, 0, 0), (1654, 42, 75, 0, 0, 0), (1657, 1, 0, 0, 0, 0), (1658, 103, 0, 0, 0, 0)] := rfl
theorem yb239_75 : zC 239 75 = [(1659, 55, 30, 0, 0, 0)] := rfl
theorem law_way (xs : Nat → Int32) (L D p : Nat) (hD : 6 ≤ D) (hp : p + 7 ≤ L) (hL : L ≤ 3584) (hc : xs p &&& 31 = 20) (I : Nat → Nat → Int32) (J : Nat → Nat → Int64) (X : XH) (row : Int64) (hrow : row = (((xs (p + 2)).toInt64 <<< ((32 : Int32).toInt64 &&& 63)) ||| ((xs (p + 3)).toInt64 &&& Int64.ofNat 4294967295))) (k : Int32) (v : Int32) {I1 I2 : Nat → Nat → Int32} {J1 J2 : Nat → Nat → Int64} {X2 : XH} (eW : zev xs L D 229 [.ref 0, .int (xs (p + 1)), .long row, .int (xs (p + 4)), .ref 122] (zmk I J X) = some (.inr (some (.int k)), zmk I1 J1 X2)) (eM : zev xs L D 206 [.ref 61, .int (xs (p + 1)), .long row, .int (xs (p + 4))] (zmk I1 J1 X2) = some (.inr (some (.int v)), zmk I2 J2 X2)) (h1 : I2 61 1 = k) (hk : k = 0 → J2 122 0 = v.toInt64) : zgo xs L D 239 2 (yLO p) (zmk I J X) = zgo xs L D 239 2 (yLO (p + 7)) (zmk I2 J2 X2) := by
  subst hrow
  have H := law_2 xs L D p (zmk I J X) hL (by omega)
  rw [if_neg (by omega), hc, show zswgo (fun b => zseg (zE xs L D 239) (zC 239) 688 (zC 239 b)) 30 20 (yLO p) [] (zmk I J X) (zSW 9).1 = zseg (zE xs L D 239) (zC 239) 688 (zC 239 24) (yLO p) [] (zmk I J X) from rfl] at H
  refine (H.trans (congrArg (zth xs L D 239) (?_ : _ = some (.inl (2, yLO (p + 7), zmk I2 J2 X2))))).trans zth_go
  rw [yb239_24]
  refine (u_a 0 rfl).trans ?_
  refine (u_x (Int32.ofNat p) (xs (p + 1)) rfl rfl (law_xk p L 1 (by decide) hp hL).1 (congrArg xs (law_xk p L 1 (by decide) hp hL).2)).trans ?_
  refine (u_x (Int32.ofNat p) (xs (p + 2)) rfl rfl (law_xk p L 2 (by decide) hp hL).1 (congrArg xs (law_xk p L 2 (by decide) hp hL).2)).trans ?_
  refine u_i2l.trans ?_
  refine u_const.trans ?_
  refine u_lshl.trans ?_
  refine (u_x (Int32.ofNat p) (xs (p + 3)) rfl rfl (law_xk p L 3 (by decide) hp hL).1 (congrArg xs (law_xk p L 3 (by decide) hp hL).2)).trans ?_
  refine u_i2l.trans ?_
  refine u_lcn.trans ?_
  refine u_land.trans ?_
  refine u_lor.trans ?_
  refine (u_x (Int32.ofNat p) (xs (p + 4)) rfl rfl (law_xk p L 4 (by decide) hp hL).1 (congrArg xs (law_xk p L 4 (by decide) hp hL).2)).trans ?_
  refine (u_a 122 rfl).trans ?_
  refine (u_ni [.ref 0, .int (xs (p + 1)), .long ((((xs (p + 2)).toInt64 <<< ((32 : Int32).toInt64 &&& 63)) ||| ((xs (p + 3)).toInt64 &&& Int64.ofNat 4294967295))), .int (xs (p + 4)), .ref 122] rfl rfl ⟨Nat.le_of_ble_eq_true rfl, Nat.le_of_ble_eq_true rfl, rfl⟩ (law_E.trans eW)).trans ?_
  refine (u_is ((5, .int k) :: yLO p) rfl).trans ?_
  refine (u_a 61 rfl).trans ?_
  refine (u_x (Int32.ofNat p) (xs (p + 1)) rfl rfl (law_xk p L 1 (by decide) hp hL).1 (congrArg xs (law_xk p L 1 (by decide) hp hL).2)).trans ?_
  refine (u_x (Int32.ofNat p) (xs (p + 2)) rfl rfl (law_xk p L 2 (by decide) hp hL).1 (congrArg xs (law_xk p L 2 (by decide) hp hL).2)).trans ?_
  refine u_i2l.trans ?_
  refine u_const.trans ?_
  refine u_lshl.trans ?_
  refine (u_x (Int32.ofNat p) (xs (p + 3)) rfl rfl (law_xk p L 3 (by decide) hp hL).1 (congrArg xs (law_xk p L 3 (by decide) hp hL).2)).trans ?_
  refine u_i2l.trans ?_
  refine u_lcn.trans ?_
  refine u_land.trans ?_
  refine u_lor.trans ?_
  refine (u_x (Int32.ofNat p) (xs (p + 4)) rfl rfl (law_xk p L 4 (by decide) hp hL).1 (congrArg xs (law_xk p L 4 (by decide) hp hL).2)).trans ?_
  refine (u_ci [.ref 61, .int (xs (p + 1)), .long ((((xs (p + 2)).toInt64 <<< ((32 : Int32).toInt64 &&& 63)) ||| ((xs (p + 3)).toInt64 &&& Int64.ofNat 4294967295))), .int (xs (p + 4))] rfl rfl ⟨Nat.le_of_ble_eq_true rfl, Nat.le_of_ble_eq_true rfl⟩ rfl (law_E.trans eM)).trans ?_
  refine (u_is ((6, .int v) :: (5, .int k) :: yLO p) rfl).trans ?_
  refine (u_a 61 rfl).trans ?_
  refine (u_ci [.ref 61] rfl rfl ⟨Nat.le_of_ble_eq_true rfl, Nat.le_of_ble_eq_true rfl⟩ rfl (law_E.trans (e141 xs L D hD _ _ _))).trans ?_
  refine (u_i k rfl).trans ?_
  refine (u_eq2 h1).trans ?_
  rw [yb239_48]
  exact law_ti k v rfl rfl rfl ⟨rfl, rfl⟩ yb239_75 hk
theorem yb239_25 : zC 239 25 = [(1662, 7, 1, 1, 0, 0), (1663, 7, 0, 1, 0, 0), (1664, 5, 4, 0, 0, 0), (1666, 1, 0, 0, 0, 1), (1667, 12, 0, 0, 0, 0), (1668, 81, 0, 0, 0, 0), (1669, 7, 3, 1, 0, 0), (1670, 105, 230, 3, 16999, 6), (1673, 8, 5, 0, 0, 0), (1675, 7, 2, 1, 0, 0), (1676, 7, 0, 1, 0, 0), (1677, 5, 4, 0, 0, 0), (1679, 1, 0, 0, 0, 1), (1680, 12, 0, 0, 0, 0), (1681, 81, 0, 0, 0, 0), (1682, 90, 209, 2, 17112, 0), (1685, 8, 6, 0, 0, 0), (1687, 7, 2, 1, 0, 0), (1688, 90, 141, 1, 9612, 0), (1691, 5, 5, 0, 0, 0), (1693, 48, 49, 0, 0, 0), (1696, 1, 0, 0, 0, 0), (1697, 103, 0, 0, 0, 0)] := rfl
theorem yb239_49 : zC 239 49 = [(1698, 5, 5, 0, 0, 0), (1700, 43, 76, 0, 0, 0), (1703, 7, 3, 1, 0, 0), (1704, 1, 0, 0, 0, 0), (1705, 72, 0, 0, 0, 0), (1706, 5, 6, 0, 0, 0), (1708, 34, 0, 0, 0, 0), (1709, 36, 0, 0, 0, 0), (1710, 42, 76, 0, 0, 0), (1713, 1, 0, 0, 0, 0), (1714, 103, 0, 0, 0, 0)] := rfl
theorem yb239_76 : zC 239 76 = [(1715, 55, 30, 0, 0, 0)] := rfl
theorem law_cameras (xs : Nat → Int32) (L D p : Nat) (hD : 6 ≤ D) (hp : p + 7 ≤ L) (hL : L ≤ 3584) (hc : xs p &&& 31 = 21) (I : Nat → Nat → Int32) (J : Nat → Nat → Int64) (X : XH) (k : Int32) (v : Int32) {I1 I2 : Nat → Nat → Int32} {J1 J2 : Nat → Nat → Int64} {X2 : XH} (eW : zev xs L D 230 [.ref 0, .int (xs (p + 1)), .ref 122] (zmk I J X) = some (.inr (some (.int k)), zmk I1 J1 X2)) (eM : zev xs L D 209 [.ref 61, .int (xs (p + 1))] (zmk I1 J1 X2) = some (.inr (some (.int v)), zmk I2 J2 X2)) (h1 : I2 61 1 = k) (hk : k = 0 → J2 122 0 = v.toInt64) : zgo xs L D 239 2 (yLO p) (zmk I J X) = zgo xs L D 239 2 (yLO (p + 7)) (zmk I2 J2 X2) := by
  have H := law_2 xs L D p (zmk I J X) hL (by omega)
  rw [if_neg (by omega), hc, show zswgo (fun b => zseg (zE xs L D 239) (zC 239) 688 (zC 239 b)) 30 21 (yLO p) [] (zmk I J X) (zSW 9).1 = zseg (zE xs L D 239) (zC 239) 688 (zC 239 25) (yLO p) [] (zmk I J X) from rfl] at H
  refine (H.trans (congrArg (zth xs L D 239) (?_ : _ = some (.inl (2, yLO (p + 7), zmk I2 J2 X2))))).trans zth_go
  rw [yb239_25]
  refine (u_a 0 rfl).trans ?_
  refine (u_x (Int32.ofNat p) (xs (p + 1)) rfl rfl (law_xk p L 1 (by decide) hp hL).1 (congrArg xs (law_xk p L 1 (by decide) hp hL).2)).trans ?_
  refine (u_a 122 rfl).trans ?_
  refine (u_ni [.ref 0, .int (xs (p + 1)), .ref 122] rfl rfl ⟨Nat.le_of_ble_eq_true rfl, Nat.le_of_ble_eq_true rfl, rfl⟩ (law_E.trans eW)).trans ?_
  refine (u_is ((5, .int k) :: yLO p) rfl).trans ?_
  refine (u_a 61 rfl).trans ?_
  refine (u_x (Int32.ofNat p) (xs (p + 1)) rfl rfl (law_xk p L 1 (by decide) hp hL).1 (congrArg xs (law_xk p L 1 (by decide) hp hL).2)).trans ?_
  refine (u_ci [.ref 61, .int (xs (p + 1))] rfl rfl ⟨Nat.le_of_ble_eq_true rfl, Nat.le_of_ble_eq_true rfl⟩ rfl (law_E.trans eM)).trans ?_
  refine (u_is ((6, .int v) :: (5, .int k) :: yLO p) rfl).trans ?_
  refine (u_a 61 rfl).trans ?_
  refine (u_ci [.ref 61] rfl rfl ⟨Nat.le_of_ble_eq_true rfl, Nat.le_of_ble_eq_true rfl⟩ rfl (law_E.trans (e141 xs L D hD _ _ _))).trans ?_
  refine (u_i k rfl).trans ?_
  refine (u_eq2 h1).trans ?_
  rw [yb239_49]
  exact law_ti k v rfl rfl rfl ⟨rfl, rfl⟩ yb239_76 hk
theorem yb239_26 : zC 239 26 = [(1718, 7, 1, 1, 0, 0), (1719, 7, 0, 1, 0, 0), (1720, 5, 4, 0, 0, 0), (1722, 1, 0, 0, 0, 1), (1723, 12, 0, 0, 0, 0), (1724, 81, 0, 0, 0, 0), (1725, 90, 106, 2, 17211, 0), (1728, 7, 2, 1, 0, 0), (1729, 7, 0, 1, 0, 0), (1730, 5, 4, 0, 0, 0), (1732, 1, 0, 0, 0, 1), (1733, 12, 0, 0, 0, 0), (1734, 81, 0, 0, 0, 0), (1735, 90, 207, 2, 17512, 0), (1738, 48, 30, 0, 0, 0), (1741, 1, 0, 0, 0, 0), (1742, 103, 0, 0, 0, 0)] := rfl
theorem law_sees (xs : Nat → Int32) (L D p : Nat) (hD : 6 ≤ D) (hp : p + 7 ≤ L) (hL : L ≤ 3584) (hc : xs p &&& 31 = 22) (I : Nat → Nat → Int32) (J : Nat → Nat → Int64) (X : XH) (v : Int32) {I1 I2 : Nat → Nat → Int32} (eW : zev xs L D 106 [.ref 0, .int (xs (p + 1))] (zmk I J X) = some (.inr (some (.int v)), zmk I1 J X)) (eM : zev xs L D 207 [.ref 61, .int (xs (p + 1))] (zmk I1 J X) = some (.inr (some (.int v)), zmk I2 J X)) : zgo xs L D 239 2 (yLO p) (zmk I J X) = zgo xs L D 239 2 (yLO (p + 7)) (zmk I2 J X) := by
  have H := law_2 xs L D p (zmk I J X) hL (by omega)
  rw [if_neg (by omega), hc, show zswgo (fun b => zseg (zE xs L D 239) (zC 239) 688 (zC 239 b)) 30 22 (yLO p) [] (zmk I J X) (zSW 9).1 = zseg (zE xs L D 239) (zC 239) 688 (zC 239 26) (yLO p) [] (zmk I J X) from rfl] at H
  refine (H.trans (congrArg (zth xs L D 239) (?_ : _ = some (.inl (2, yLO (p + 7), zmk I2 J X))))).trans zth_go
  rw [yb239_26]
  refine (u_a 0 rfl).trans ?_
  refine (u_x (Int32.ofNat p) (xs (p + 1)) rfl rfl (law_xk p L 1 (by decide) hp hL).1 (congrArg xs (law_xk p L 1 (by decide) hp hL).2)).trans ?_
  refine (u_ci [.ref 0, .int (xs (p + 1))] rfl rfl ⟨Nat.le_of_ble_eq_true rfl, Nat.le_of_ble_eq_true rfl⟩ rfl (law_E.trans eW)).trans ?_
  refine (u_a 61 rfl).trans ?_
  refine (u_x (Int32.ofNat p) (xs (p + 1)) rfl rfl (law_xk p L 1 (by decide) hp hL).1 (congrArg xs (law_xk p L 1 (by decide) hp hL).2)).trans ?_
  refine (u_ci [.ref 61, .int (xs (p + 1))] rfl rfl ⟨Nat.le_of_ble_eq_true rfl, Nat.le_of_ble_eq_true rfl⟩ rfl (law_E.trans eM)).trans ?_
  refine (u_eq2 rfl).trans ?_
  exact law_30 ⟨rfl, rfl⟩
theorem yb239_27 : zC 239 27 = [(1743, 7, 1, 1, 0, 0), (1744, 7, 0, 1, 0, 0), (1745, 5, 4, 0, 0, 0), (1747, 1, 0, 0, 0, 1), (1748, 12, 0, 0, 0, 0), (1749, 81, 0, 0, 0, 0), (1750, 7, 0, 1, 0, 0), (1751, 5, 4, 0, 0, 0), (1753, 1, 0, 0, 0, 2), (1754, 12, 0, 0, 0, 0), (1755, 81, 0, 0, 0, 0), (1756, 7, 0, 1, 0, 0), (1757, 5, 4, 0, 0, 0), (1759, 1, 0, 0, 0, 3), (1760, 12, 0, 0, 0, 0), (1761, 81, 0, 0, 0, 0), (1762, 7, 3, 1, 0, 0), (1763, 105, 231, 5, 17699, 6), (1766, 8, 5, 0, 0, 0), (1768, 7, 2, 1, 0, 0), (1769, 7, 0, 1, 0, 0), (1770, 5, 4, 0, 0, 0), (1772, 1, 0, 0, 0, 1), (1773, 12, 0, 0, 0, 0), (1774, 81, 0, 0, 0, 0), (1775, 7, 0, 1, 0, 0), (1776, 5, 4, 0, 0, 0), (1778, 1, 0, 0, 0, 2), (1779, 12, 0, 0, 0, 0), (1780, 81, 0, 0, 0, 0), (1781, 7, 0, 1, 0, 0), (1782, 5, 4, 0, 0, 0), (1784, 1, 0, 0, 0, 3), (1785, 12, 0, 0, 0, 0), (1786, 81, 0, 0, 0, 0), (1787, 90, 210, 4, 17812, 0), (1790, 8, 6, 0, 0, 0), (1792, 7, 2, 1, 0, 0), (1793, 90, 141, 1, 9612, 0), (1796, 5, 5, 0, 0, 0), (1798, 48, 50, 0, 0, 0), (1801, 1, 0, 0, 0, 0), (1802, 103, 0, 0, 0, 0)] := rfl
theorem yb239_50 : zC 239 50 = [(1803, 5, 5, 0, 0, 0), (1805, 43, 77, 0, 0, 0), (1808, 7, 3, 1, 0, 0), (1809, 1, 0, 0, 0, 0), (1810, 72, 0, 0, 0, 0), (1811, 5, 6, 0, 0, 0), (1813, 34, 0, 0, 0, 0), (1814, 36, 0, 0, 0, 0), (1815, 42, 77, 0, 0, 0), (1818, 1, 0, 0, 0, 0), (1819, 103, 0, 0, 0, 0)] := rfl
theorem yb239_77 : zC 239 77 = [(1820, 55, 30, 0, 0, 0)] := rfl
theorem law_attempt (xs : Nat → Int32) (L D p : Nat) (hD : 6 ≤ D) (hp : p + 7 ≤ L) (hL : L ≤ 3584) (hc : xs p &&& 31 = 23) (I : Nat → Nat → Int32) (J : Nat → Nat → Int64) (X : XH) (k : Int32) (v : Int32) {I1 I2 : Nat → Nat → Int32} {J1 J2 : Nat → Nat → Int64} {X2 : XH} (eW : zev xs L D 231 [.ref 0, .int (xs (p + 1)), .int (xs (p + 2)), .int (xs (p + 3)), .ref 122] (zmk I J X) = some (.inr (some (.int k)), zmk I1 J1 X2)) (eM : zev xs L D 210 [.ref 61, .int (xs (p + 1)), .int (xs (p + 2)), .int (xs (p + 3))] (zmk I1 J1 X2) = some (.inr (some (.int v)), zmk I2 J2 X2)) (h1 : I2 61 1 = k) (hk : k = 0 → J2 122 0 = v.toInt64) : zgo xs L D 239 2 (yLO p) (zmk I J X) = zgo xs L D 239 2 (yLO (p + 7)) (zmk I2 J2 X2) := by
  have H := law_2 xs L D p (zmk I J X) hL (by omega)
  rw [if_neg (by omega), hc, show zswgo (fun b => zseg (zE xs L D 239) (zC 239) 688 (zC 239 b)) 30 23 (yLO p) [] (zmk I J X) (zSW 9).1 = zseg (zE xs L D 239) (zC 239) 688 (zC 239 27) (yLO p) [] (zmk I J X) from rfl] at H
  refine (H.trans (congrArg (zth xs L D 239) (?_ : _ = some (.inl (2, yLO (p + 7), zmk I2 J2 X2))))).trans zth_go
  rw [yb239_27]
  refine (u_a 0 rfl).trans ?_
  refine (u_x (Int32.ofNat p) (xs (p + 1)) rfl rfl (law_xk p L 1 (by decide) hp hL).1 (congrArg xs (law_xk p L 1 (by decide) hp hL).2)).trans ?_
  refine (u_x (Int32.ofNat p) (xs (p + 2)) rfl rfl (law_xk p L 2 (by decide) hp hL).1 (congrArg xs (law_xk p L 2 (by decide) hp hL).2)).trans ?_
  refine (u_x (Int32.ofNat p) (xs (p + 3)) rfl rfl (law_xk p L 3 (by decide) hp hL).1 (congrArg xs (law_xk p L 3 (by decide) hp hL).2)).trans ?_
  refine (u_a 122 rfl).trans ?_
  refine (u_ni [.ref 0, .int (xs (p + 1)), .int (xs (p + 2)), .int (xs (p + 3)), .ref 122] rfl rfl ⟨Nat.le_of_ble_eq_true rfl, Nat.le_of_ble_eq_true rfl, rfl⟩ (law_E.trans eW)).trans ?_
  refine (u_is ((5, .int k) :: yLO p) rfl).trans ?_
  refine (u_a 61 rfl).trans ?_
  refine (u_x (Int32.ofNat p) (xs (p + 1)) rfl rfl (law_xk p L 1 (by decide) hp hL).1 (congrArg xs (law_xk p L 1 (by decide) hp hL).2)).trans ?_
  refine (u_x (Int32.ofNat p) (xs (p + 2)) rfl rfl (law_xk p L 2 (by decide) hp hL).1 (congrArg xs (law_xk p L 2 (by decide) hp hL).2)).trans ?_
  refine (u_x (Int32.ofNat p) (xs (p + 3)) rfl rfl (law_xk p L 3 (by decide) hp hL).1 (congrArg xs (law_xk p L 3 (by decide) hp hL).2)).trans ?_
  refine (u_ci [.ref 61, .int (xs (p + 1)), .int (xs (p + 2)), .int (xs (p + 3))] rfl rfl ⟨Nat.le_of_ble_eq_true rfl, Nat.le_of_ble_eq_true rfl⟩ rfl (law_E.trans eM)).trans ?_
  refine (u_is ((6, .int v) :: (5, .int k) :: yLO p) rfl).trans ?_
  refine (u_a 61 rfl).trans ?_
  refine (u_ci [.ref 61] rfl rfl ⟨Nat.le_of_ble_eq_true rfl, Nat.le_of_ble_eq_true rfl⟩ rfl (law_E.trans (e141 xs L D hD _ _ _))).trans ?_
  refine (u_i k rfl).trans ?_
  refine (u_eq2 h1).trans ?_
  rw [yb239_50]
  exact law_ti k v rfl rfl rfl ⟨rfl, rfl⟩ yb239_77 hk
theorem yb239_28 : zC 239 28 = [(1823, 7, 1, 1, 0, 0), (1824, 90, 108, 1, 17911, 0), (1827, 7, 2, 1, 0, 0), (1828, 90, 212, 1, 18212, 0), (1831, 48, 30, 0, 0, 0), (1834, 1, 0, 0, 0, 0), (1835, 103, 0, 0, 0, 0)] := rfl
theorem law_more (xs : Nat → Int32) (L D p : Nat) (hD : 6 ≤ D) (hp : p + 7 ≤ L) (hL : L ≤ 3584) (hc : xs p &&& 31 = 24) (I : Nat → Nat → Int32) (J : Nat → Nat → Int64) (X : XH) (v : Int32) {I1 I2 : Nat → Nat → Int32} (eW : zev xs L D 108 [.ref 0] (zmk I J X) = some (.inr (some (.int v)), zmk I1 J X)) (eM : zev xs L D 212 [.ref 61] (zmk I1 J X) = some (.inr (some (.int v)), zmk I2 J X)) : zgo xs L D 239 2 (yLO p) (zmk I J X) = zgo xs L D 239 2 (yLO (p + 7)) (zmk I2 J X) := by
  have H := law_2 xs L D p (zmk I J X) hL (by omega)
  rw [if_neg (by omega), hc, show zswgo (fun b => zseg (zE xs L D 239) (zC 239) 688 (zC 239 b)) 30 24 (yLO p) [] (zmk I J X) (zSW 9).1 = zseg (zE xs L D 239) (zC 239) 688 (zC 239 28) (yLO p) [] (zmk I J X) from rfl] at H
  refine (H.trans (congrArg (zth xs L D 239) (?_ : _ = some (.inl (2, yLO (p + 7), zmk I2 J X))))).trans zth_go
  rw [yb239_28]
  refine (u_a 0 rfl).trans ?_
  refine (u_ci [.ref 0] rfl rfl ⟨Nat.le_of_ble_eq_true rfl, Nat.le_of_ble_eq_true rfl⟩ rfl (law_E.trans eW)).trans ?_
  refine (u_a 61 rfl).trans ?_
  refine (u_ci [.ref 61] rfl rfl ⟨Nat.le_of_ble_eq_true rfl, Nat.le_of_ble_eq_true rfl⟩ rfl (law_E.trans eM)).trans ?_
  refine (u_eq2 rfl).trans ?_
  exact law_30 ⟨rfl, rfl⟩
theorem yb239_29 : zC 239 29 = [(1836, 7, 1, 1, 0, 0), (1837, 7, 0, 1, 0, 0), (1838, 5, 4, 0, 0, 0), (1840, 1, 0, 0, 0, 1), (1841, 12, 0, 0, 0, 0), (1842, 81, 0, 0, 0, 0), (1843, 7, 3, 1, 0, 0), (1844, 105, 232, 3, 18399, 6), (1847, 8, 5, 0, 0, 0), (1849, 7, 2, 1, 0, 0), (1850, 7, 0, 1, 0, 0), (1851, 5, 4, 0, 0, 0), (1853, 1, 0, 0, 0, 1), (1854, 12, 0, 0, 0, 0), (1855, 81, 0, 0, 0, 0), (1856, 90, 213, 2, 18512, 0), (1859, 8, 6, 0, 0, 0), (1861, 7, 2, 1, 0, 0), (1862, 90, 141, 1, 9612, 0), (1865, 5, 5, 0, 0, 0), (1867, 48, 51, 0, 0, 0), (1870, 1, 0, 0, 0, 0), (1871, 103, 0, 0, 0, 0)] := rfl
theorem yb239_51 : zC 239 51 = [(1872, 5, 5, 0, 0, 0), (1874, 43, 78, 0, 0, 0), (1877, 7, 3, 1, 0, 0), (1878, 1, 0, 0, 0, 0), (1879, 72, 0, 0, 0, 0), (1880, 5, 6, 0, 0, 0), (1882, 34, 0, 0, 0, 0), (1883, 36, 0, 0, 0, 0), (1884, 42, 78, 0, 0, 0), (1887, 1, 0, 0, 0, 0), (1888, 103, 0, 0, 0, 0)] := rfl
theorem yb239_78 : zC 239 78 = [(1889, 55, 30, 0, 0, 0)] := rfl
theorem law_count (xs : Nat → Int32) (L D p : Nat) (hD : 6 ≤ D) (hp : p + 7 ≤ L) (hL : L ≤ 3584) (hc : xs p &&& 31 = 25) (I : Nat → Nat → Int32) (J : Nat → Nat → Int64) (X : XH) (k : Int32) (v : Int32) {I1 I2 : Nat → Nat → Int32} {J1 J2 : Nat → Nat → Int64} {X2 : XH} (eW : zev xs L D 232 [.ref 0, .int (xs (p + 1)), .ref 122] (zmk I J X) = some (.inr (some (.int k)), zmk I1 J1 X2)) (eM : zev xs L D 213 [.ref 61, .int (xs (p + 1))] (zmk I1 J1 X2) = some (.inr (some (.int v)), zmk I2 J2 X2)) (h1 : I2 61 1 = k) (hk : k = 0 → J2 122 0 = v.toInt64) : zgo xs L D 239 2 (yLO p) (zmk I J X) = zgo xs L D 239 2 (yLO (p + 7)) (zmk I2 J2 X2) := by
  have H := law_2 xs L D p (zmk I J X) hL (by omega)
  rw [if_neg (by omega), hc, show zswgo (fun b => zseg (zE xs L D 239) (zC 239) 688 (zC 239 b)) 30 25 (yLO p) [] (zmk I J X) (zSW 9).1 = zseg (zE xs L D 239) (zC 239) 688 (zC 239 29) (yLO p) [] (zmk I J X) from rfl] at H
  refine (H.trans (congrArg (zth xs L D 239) (?_ : _ = some (.inl (2, yLO (p + 7), zmk I2 J2 X2))))).trans zth_go
  rw [yb239_29]
  refine (u_a 0 rfl).trans ?_
  refine (u_x (Int32.ofNat p) (xs (p + 1)) rfl rfl (law_xk p L 1 (by decide) hp hL).1 (congrArg xs (law_xk p L 1 (by decide) hp hL).2)).trans ?_
  refine (u_a 122 rfl).trans ?_
  refine (u_ni [.ref 0, .int (xs (p + 1)), .ref 122] rfl rfl ⟨Nat.le_of_ble_eq_true rfl, Nat.le_of_ble_eq_true rfl, rfl⟩ (law_E.trans eW)).trans ?_
  refine (u_is ((5, .int k) :: yLO p) rfl).trans ?_
  refine (u_a 61 rfl).trans ?_
  refine (u_x (Int32.ofNat p) (xs (p + 1)) rfl rfl (law_xk p L 1 (by decide) hp hL).1 (congrArg xs (law_xk p L 1 (by decide) hp hL).2)).trans ?_
  refine (u_ci [.ref 61, .int (xs (p + 1))] rfl rfl ⟨Nat.le_of_ble_eq_true rfl, Nat.le_of_ble_eq_true rfl⟩ rfl (law_E.trans eM)).trans ?_
  refine (u_is ((6, .int v) :: (5, .int k) :: yLO p) rfl).trans ?_
  refine (u_a 61 rfl).trans ?_
  refine (u_ci [.ref 61] rfl rfl ⟨Nat.le_of_ble_eq_true rfl, Nat.le_of_ble_eq_true rfl⟩ rfl (law_E.trans (e141 xs L D hD _ _ _))).trans ?_
  refine (u_i k rfl).trans ?_
  refine (u_eq2 h1).trans ?_
  rw [yb239_51]
  exact law_ti k v rfl rfl rfl ⟨rfl, rfl⟩ yb239_78 hk
theorem law_none (xs : Nat → Int32) (L D p : Nat) (hp : p + 7 ≤ L) (hL : L ≤ 3584) (h : AH) (n0 : ¬ xs p &&& 31 = 0) (n1 : ¬ xs p &&& 31 = 1) (n2 : ¬ xs p &&& 31 = 2) (n3 : ¬ xs p &&& 31 = 3) (n4 : ¬ xs p &&& 31 = 4) (n5 : ¬ xs p &&& 31 = 5) (n6 : ¬ xs p &&& 31 = 6) (n7 : ¬ xs p &&& 31 = 7) (n8 : ¬ xs p &&& 31 = 8) (n9 : ¬ xs p &&& 31 = 9) (n10 : ¬ xs p &&& 31 = 10) (n11 : ¬ xs p &&& 31 = 11) (n12 : ¬ xs p &&& 31 = 12) (n13 : ¬ xs p &&& 31 = 13) (n14 : ¬ xs p &&& 31 = 14) (n15 : ¬ xs p &&& 31 = 15) (n16 : ¬ xs p &&& 31 = 16) (n17 : ¬ xs p &&& 31 = 17) (n18 : ¬ xs p &&& 31 = 18) (n19 : ¬ xs p &&& 31 = 19) (n20 : ¬ xs p &&& 31 = 20) (n21 : ¬ xs p &&& 31 = 21) (n22 : ¬ xs p &&& 31 = 22) (n23 : ¬ xs p &&& 31 = 23) (n24 : ¬ xs p &&& 31 = 24) (n25 : ¬ xs p &&& 31 = 25) : zgo xs L D 239 2 (yLO p) h = zgo xs L D 239 2 (yLO (p + 7)) h := by
  have H := law_2 xs L D p h hL (by omega)
  rw [if_neg (by omega)] at H
  refine (H.trans (congrArg (zth xs L D 239) (?_ : _ = some (.inl (2, yLO (p + 7), h))))).trans zth_go
  refine (if_neg n0).trans ?_
  refine (if_neg n1).trans ?_
  refine (if_neg n2).trans ?_
  refine (if_neg n3).trans ?_
  refine (if_neg n4).trans ?_
  refine (if_neg n5).trans ?_
  refine (if_neg n6).trans ?_
  refine (if_neg n7).trans ?_
  refine (if_neg n8).trans ?_
  refine (if_neg n9).trans ?_
  refine (if_neg n10).trans ?_
  refine (if_neg n11).trans ?_
  refine (if_neg n12).trans ?_
  refine (if_neg n13).trans ?_
  refine (if_neg n14).trans ?_
  refine (if_neg n15).trans ?_
  refine (if_neg n16).trans ?_
  refine (if_neg n17).trans ?_
  refine (if_neg n18).trans ?_
  refine (if_neg n19).trans ?_
  refine (if_neg n20).trans ?_
  refine (if_neg n21).trans ?_
  refine (if_neg n22).trans ?_
  refine (if_neg n23).trans ?_
  refine (if_neg n24).trans ?_
  refine (if_neg n25).trans ?_
  exact law_30 ⟨rfl, rfl⟩
