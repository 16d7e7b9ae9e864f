/-! THE PURE PART: the model's constructor. Written by program (wip/whole/mk9796.py). -/
theorem yhp_61 {I : Nat → Nat → Int32} {l : List (Nat × Nat × Nat)} {n c s : Nat} (h : 61 < n) : hK (yhp I l n c s) 61 = (22, 0) := by
  show ykk n 61 = _
  unfold ykk
  rw [show Nat.blt 61 n = true from Nat.blt_eq.mpr h]
  rfl
theorem unit_new {E : Evn} {C : Nat → List MI} {f p1 p2 p3 p4 b1 j1 b2 j2 op b3 j3 slot j4 : Nat} {x1 v x3 x4 : Int32} {is : List MI} {I : Nat → Nat → Int32} {l : List (Nat × Nat × Nat)} {n c s : Nat} (tag len m c2 s2 : Nat) (hop : zop op = z_newa tag) (hv : ¬ v < 0 ∧ v.toNatClampNeg = len ∧ len ≤ 60000) (hk : (tag, len) = zK0.getD n (0, 0)) (hn : 62 ≤ n) (hm : n + 1 = m) (hc : c + 1 = c2) (hs : s + len = s2) : zseg E C (f + 4) ((p1, 7, 0, b1, j1, x1) :: (p2, 1, 0, b2, j2, v) :: (p3, op, 0, b3, j3, x3) :: (p4, 66, 12, slot, j4, x4) :: is) [(0, .ref 61)] [] (yhp I l n c s) = zseg E C f is [(0, .ref 61)] [] (yhp I ((61, slot, n) :: l) m c2 s2) := by
  have step : zseg E C (f + 4) ((p1, 7, 0, b1, j1, x1) :: (p2, 1, 0, b2, j2, v) :: (p3, op, 0, b3, j3, x3) :: (p4, 66, 12, slot, j4, x4) :: is) [(0, .ref 61)] [] (yhp I l n c s) = zop op E (zseg E C (f + 1) ((p4, 66, 12, slot, j4, x4) :: is)) (fun b => zseg E C (f + 1) (C b)) (p3, op, 0, b3, j3, x3) [(0, .ref 61)] [.int v, .ref 61] (yhp I l n c s) := rfl
  rw [step, hop]
  refine (if_pos ⟨hv.1, by rw [hv.2.1]; exact hv.2.2⟩).trans ?_
  rw [hv.2.1, yhp_new hk hm hc hs]
  exact (if_pos (yhp_61 (by omega))).trans rfl
theorem unit_put {E : Evn} {C : Nat → List MI} {f p slot j v : Nat} {x : Int32} {is : List MI} {lo : LV} {I : Nat → Nat → Int32} {l : List (Nat × Nat × Nat)} {n c s : Nat} (h : 61 < n) : zseg E C (f + 1) ((p, 66, 12, slot, j, x) :: is) lo [.ref v, .ref 61] (yhp I l n c s) = zseg E C f is lo [] (yhp I ((61, slot, v) :: l) n c s) := (if_pos (yhp_61 h)).trans rfl
theorem unit_int {E : Evn} {C : Nat → List MI} {f p1 p2 p4 b1 j1 b2 j2 slot j4 : Nat} {x1 v x4 : Int32} {is : List MI} {I : Nat → Nat → Int32} {l : List (Nat × Nat × Nat)} {n c s : Nat} (hn : 62 ≤ n) : zseg E C (f + 3) ((p1, 7, 0, b1, j1, x1) :: (p2, 1, 0, b2, j2, v) :: (p4, 63, 12, slot, j4, x4) :: is) [(0, .ref 61)] [] (yhp I l n c s) = zseg E C f is [(0, .ref 61)] [] (yhp (zup I 61 slot v) l n c s) := (if_pos (yhp_61 (by omega))).trans rfl
theorem unit_str {E : Evn} {C : Nat → List MI} {f p1 p2 p3 p4 a1 b1 j1 b2 j2 i b3 j3 b4 j4 : Nat} {x1 v x3 x4 : Int32} {a4 : Nat} {is : List MI} {I : Nat → Nat → Int32} {l : List (Nat × Nat × Nat)} {c s : Nat} (k : Nat) (hv : ¬ v < 0 ∧ v.toNatClampNeg = k ∧ k < 8) (hi : i < 16 ∧ (UInt32.ofNat i).toNat = i) : zseg E C (f + 4) ((p1, 38, a1, b1, j1, x1) :: (p2, 1, 0, b2, j2, v) :: (p3, 4, i, b3, j3, x3) :: (p4, 79, a4, b4, j4, x4) :: is) [(0, .ref 61)] [.ref 62, .ref 61] (yhp I l 63 c s) = zseg E C f is [(0, .ref 61)] [.ref 62, .ref 61] (yhp I ((62, k, i) :: l) 63 c s) := by
  refine (if_pos (show zin (yhp I l 63 c s) 62 4 v ∧ (UInt32.ofNat i).toNat < 16 from ⟨⟨rfl, fun z => ?_⟩, ?_⟩)).trans ?_
  · rcases z with z | z
    · exact hv.1 z
    · rw [hv.2.1] at z
      have z : 8 ≤ k := z
      omega
  · rw [hi.2]
    exact hi.1
  · show zseg E C f is [(0, .ref 61)] [.ref 62, .ref 61] (setR (yhp I l 63 c s) 62 v.toNatClampNeg (some (UInt32.ofNat i).toNat)) = _
    rw [hv.2.1, hi.2]
    rfl
theorem unit_first {E : Evn} {C : Nat → List MI} {f p1 p2 p3 p4 p5 b1 j1 a2 b2 j2 b3 j3 b4 j4 a5 b5 j5 : Nat} {x1 x2 x3 x5 : Int32} {is : List MI} {I : Nat → Nat → Int32} {l : List (Nat × Nat × Nat)} {c s : Nat} (c2 s2 : Nat) (hc : c + 1 = c2) (hs : s + 8 = s2) : zseg E C (f + 5) ((p1, 7, 0, b1, j1, x1) :: (p2, 97, a2, b2, j2, x2) :: (p3, 7, 0, b3, j3, x3) :: (p4, 1, 0, b4, j4, 8) :: (p5, 88, a5, b5, j5, x5) :: is) [(0, .ref 61)] [] (yhp I l 62 c s) = zseg E C f is [(0, .ref 61)] [.ref 62, .ref 61] (yhp I l 63 c2 s2) := by
  rw [← yhp_new (I := I) (l := l) (n := 62) (m := 63) (c2 := c2) (s2 := s2) (kd := (4, 8)) rfl rfl hc hs]
  rfl
theorem yi140_l : zC 140 0 = [(0, 7, 0, 1, 0, 0), (1, 97, 0, 0, 1, 0), (4, 7, 0, 1, 0, 0), (5, 1, 0, 1, 0, 8), (7, 88, 0, 0, 7, 0), (10, 38, 0, 0, 0, 0), (11, 1, 0, 0, 0, 0), (12, 4, 1, 3, 9, 0), (14, 79, 0, 0, 0, 0), (15, 38, 0, 0, 0, 0), (16, 1, 0, 0, 0, 1), (17, 4, 2, 3, 11, 0), (19, 79, 0, 0, 0, 0), (20, 38, 0, 0, 0, 0), (21, 1, 0, 0, 0, 2), (22, 4, 3, 3, 13, 0), (24, 79, 0, 0, 0, 0), (25, 38, 0, 0, 0, 0), (26, 1, 0, 0, 0, 3), (27, 4, 4, 3, 15, 0), (29, 79, 0, 0, 0, 0), (30, 38, 0, 0, 0, 0), (31, 1, 0, 0, 0, 4), (32, 4, 5, 3, 17, 0), (34, 79, 0, 0, 0, 0), (35, 38, 0, 0, 0, 0), (36, 1, 0, 0, 0, 5), (37, 4, 6, 3, 19, 0), (39, 79, 0, 0, 0, 0), (40, 38, 0, 0, 0, 0), (41, 1, 0, 1, 0, 6), (43, 4, 7, 3, 21, 0), (45, 79, 0, 0, 0, 0), (46, 38, 0, 0, 0, 0), (47, 1, 0, 1, 0, 7), (49, 4, 8, 3, 23, 0), (51, 79, 0, 0, 0, 0), (52, 66, 12, 0, 25, 2), (55, 7, 0, 1, 0, 0), (56, 1, 0, 1, 0, 40), (58, 84, 0, 0, 0, 0), (60, 66, 12, 8, 31, 2), (63, 7, 0, 1, 0, 0), (64, 1, 0, 1, 0, 40), (66, 84, 0, 0, 0, 0), (68, 66, 12, 9, 35, 2), (71, 7, 0, 1, 0, 0), (72, 1, 0, 1, 0, 40), (74, 84, 0, 0, 0, 0), (76, 66, 12, 10, 38, 2), (79, 7, 0, 1, 0, 0), (80, 1, 0, 1, 0, 40), (82, 84, 0, 0, 0, 0), (84, 66, 12, 11, 41, 2), (87, 7, 0, 1, 0, 0), (88, 1, 0, 1, 0, 40), (90, 84, 0, 0, 0, 0), (92, 66, 12, 12, 44, 2), (95, 7, 0, 1, 0, 0), (96, 1, 0, 1, 0, 6), (98, 84, 0, 0, 0, 0), (100, 66, 12, 13, 47, 2), (103, 7, 0, 1, 0, 0), (104, 1, 0, 1, 0, 16), (106, 84, 0, 0, 0, 0), (108, 66, 12, 14, 50, 2), (111, 7, 0, 1, 0, 0), (112, 1, 0, 1, 0, 16), (114, 84, 0, 0, 0, 0), (116, 66, 12, 15, 52, 2), (119, 7, 0, 1, 0, 0), (120, 1, 0, 1, 0, 24), (122, 84, 0, 0, 0, 0), (124, 66, 12, 16, 54, 2), (127, 7, 0, 1, 0, 0), (128, 1, 0, 1, 0, 24), (130, 84, 0, 0, 0, 0), (132, 66, 12, 17, 57, 2), (135, 7, 0, 1, 0, 0), (136, 1, 0, 1, 0, 40), (138, 85, 0, 0, 0, 0), (140, 66, 12, 18, 60, 2), (143, 7, 0, 1, 0, 0), (144, 1, 0, 2, 0, 300), (147, 84, 0, 0, 0, 0), (149, 66, 12, 24, 64, 2), (152, 7, 0, 1, 0, 0), (153, 1, 0, 2, 0, 300), (156, 84, 0, 0, 0, 0), (158, 66, 12, 25, 67, 2), (161, 7, 0, 1, 0, 0), (162, 1, 0, 2, 0, 300), (165, 84, 0, 0, 0, 0), (167, 66, 12, 26, 70, 2), (170, 7, 0, 1, 0, 0), (171, 1, 0, 2, 0, 300), (174, 84, 0, 0, 0, 0), (176, 66, 12, 27, 73, 2), (179, 7, 0, 1, 0, 0), (180, 1, 0, 2, 0, 300), (183, 84, 0, 0, 0, 0), (185, 66, 12, 28, 76, 2), (188, 7, 0, 1, 0, 0), (189, 1, 0, 1, 0, 40), (191, 84, 0, 0, 0, 0), (193, 66, 12, 29, 79, 2), (196, 7, 0, 1, 0, 0), (197, 1, 0, 1, 0, 40), (199, 84, 0, 0, 0, 0), (201, 66, 12, 30, 82, 2), (204, 7, 0, 1, 0, 0), (205, 1, 0, 1, 0, 40), (207, 84, 0, 0, 0, 0), (209, 66, 12, 31, 85, 2), (212, 7, 0, 1, 0, 0), (213, 1, 0, 1, 0, 40), (215, 84, 0, 0, 0, 0), (217, 66, 12, 32, 88, 2), (220, 7, 0, 1, 0, 0), (221, 1, 0, 1, 0, 40), (223, 84, 0, 0, 0, 0), (225, 66, 12, 33, 91, 2), (228, 7, 0, 1, 0, 0), (229, 1, 0, 1, 0, 60), (231, 84, 0, 0, 0, 0), (233, 66, 12, 34, 94, 2), (236, 7, 0, 1, 0, 0), (237, 1, 0, 1, 0, 60), (239, 84, 0, 0, 0, 0), (241, 66, 12, 35, 97, 2), (244, 7, 0, 1, 0, 0), (245, 1, 0, 1, 0, 60), (247, 84, 0, 0, 0, 0), (249, 66, 12, 36, 100, 2), (252, 7, 0, 1, 0, 0), (253, 1, 0, 1, 0, 60), (255, 84, 0, 0, 0, 0), (257, 66, 12, 37, 103, 2), (260, 7, 0, 1, 0, 0), (261, 1, 0, 1, 0, 60), (263, 84, 0, 0, 0, 0), (265, 66, 12, 38, 106, 2), (268, 7, 0, 1, 0, 0), (269, 1, 0, 1, 0, 60), (271, 84, 0, 0, 0, 0), (273, 66, 12, 39, 109, 2), (276, 7, 0, 1, 0, 0), (277, 1, 0, 1, 0, 60), (279, 84, 0, 0, 0, 0), (281, 66, 12, 40, 112, 2), (284, 7, 0, 1, 0, 0), (285, 1, 0, 1, 0, 60), (287, 85, 0, 0, 0, 0), (289, 66, 12, 41, 115, 2), (292, 7, 0, 1, 0, 0), (293, 1, 0, 1, 0, 9), (295, 84, 0, 0, 0, 0), (297, 66, 12, 42, 118, 2), (300, 7, 0, 1, 0, 0), (301, 1, 0, 1, 0, 37), (303, 84, 0, 0, 0, 0), (305, 66, 12, 43, 121, 2), (308, 7, 0, 1, 0, 0), (309, 1, 0, 1, 0, 37), (311, 84, 0, 0, 0, 0), (313, 66, 12, 44, 124, 2), (316, 7, 0, 1, 0, 0), (317, 1, 0, 1, 0, 37), (319, 84, 0, 0, 0, 0), (321, 66, 12, 45, 127, 2), (324, 7, 0, 1, 0, 0), (325, 1, 0, 1, 0, 37), (327, 84, 0, 0, 0, 0), (329, 66, 12, 46, 130, 2), (332, 7, 0, 1, 0, 0), (333, 1, 0, 1, 0, 37), (335, 84, 0, 0, 0, 0), (337, 66, 12, 47, 133, 2), (340, 7, 0, 1, 0, 0), (341, 1, 0, 2, 0, 592), (344, 84, 0, 0, 0, 0), (346, 66, 12, 48, 136, 2), (349, 7, 0, 1, 0, 0), (350, 1, 0, 2, 0, 592), (353, 84, 0, 0, 0, 0), (355, 66, 12, 49, 139, 2), (358, 7, 0, 1, 0, 0), (359, 1, 0, 2, 0, 592), (362, 84, 0, 0, 0, 0), (364, 66, 12, 50, 142, 2), (367, 7, 0, 1, 0, 0), (368, 1, 0, 2, 0, 23680), (371, 84, 0, 0, 0, 0), (373, 66, 12, 51, 145, 2), (376, 7, 0, 1, 0, 0), (377, 1, 0, 1, 0, 8), (379, 84, 0, 0, 0, 0), (381, 66, 12, 52, 148, 2), (384, 7, 0, 1, 0, 0), (385, 1, 0, 2, 0, 200), (388, 84, 0, 0, 0, 0), (390, 66, 12, 53, 151, 2), (393, 7, 0, 1, 0, 0), (394, 1, 0, 0, 0, (-1)), (395, 63, 12, 54, 154, 0), (398, 7, 0, 1, 0, 0), (399, 1, 0, 2, 0, 400), (402, 84, 0, 0, 0, 0), (404, 66, 12, 56, 158, 2), (407, 7, 0, 1, 0, 0), (408, 1, 0, 0, 0, (-1)), (409, 63, 12, 67, 161, 0), (412, 7, 0, 1, 0, 0), (413, 1, 0, 1, 0, 20), (415, 84, 0, 0, 0, 0), (417, 66, 12, 70, 164, 2), (420, 7, 0, 1, 0, 0), (421, 1, 0, 1, 0, 20), (423, 84, 0, 0, 0, 0), (425, 66, 12, 71, 167, 2), (428, 7, 0, 1, 0, 0), (429, 1, 0, 1, 0, 120), (431, 84, 0, 0, 0, 0), (433, 66, 12, 72, 170, 2), (436, 7, 0, 1, 0, 0), (437, 1, 0, 2, 0, 300), (440, 84, 0, 0, 0, 0), (442, 66, 12, 73, 173, 2), (445, 7, 0, 1, 0, 0), (446, 1, 0, 2, 0, 300), (449, 85, 0, 0, 0, 0), (451, 66, 12, 74, 176, 2), (454, 7, 0, 1, 0, 0), (455, 1, 0, 2, 0, 576), (458, 84, 0, 0, 0, 0), (460, 66, 12, 75, 179, 2), (463, 7, 0, 1, 0, 0), (464, 1, 0, 2, 0, 300), (467, 84, 0, 0, 0, 0), (469, 66, 12, 78, 182, 2), (472, 7, 0, 1, 0, 0), (473, 1, 0, 2, 0, 8000), (476, 84, 0, 0, 0, 0), (478, 66, 12, 79, 185, 2), (481, 7, 0, 1, 0, 0), (482, 1, 0, 2, 0, 8000), (485, 84, 0, 0, 0, 0), (487, 66, 12, 80, 188, 2), (490, 7, 0, 1, 0, 0), (491, 1, 0, 2, 0, 8000), (494, 84, 0, 0, 0, 0), (496, 66, 12, 81, 191, 2), (499, 7, 0, 1, 0, 0), (500, 1, 0, 2, 0, 8000), (503, 84, 0, 0, 0, 0), (505, 66, 12, 82, 194, 2), (508, 7, 0, 1, 0, 0), (509, 1, 0, 2, 0, 8000), (512, 84, 0, 0, 0, 0), (514, 66, 12, 83, 197, 2), (517, 7, 0, 1, 0, 0), (518, 1, 0, 1, 0, 27), (520, 84, 0, 0, 0, 0), (522, 66, 12, 84, 200, 2), (525, 7, 0, 1, 0, 0), (526, 1, 0, 2, 0, 8000), (529, 85, 0, 0, 0, 0), (531, 66, 12, 85, 202, 2), (534, 7, 0, 1, 0, 0), (535, 1, 0, 1, 0, 9), (537, 86, 0, 0, 0, 0), (539, 66, 12, 86, 205, 2), (542, 7, 0, 1, 0, 0), (543, 1, 0, 1, 0, 9), (545, 86, 0, 0, 0, 0), (547, 66, 12, 87, 209, 2), (550, 7, 0, 1, 0, 0), (551, 1, 0, 1, 0, 9), (553, 86, 0, 0, 0, 0), (555, 66, 12, 88, 212, 2), (558, 102, 0, 0, 0, 0)] := rfl
theorem yi140_s (xs : Nat → Int32) (L d : Nat) (I : Nat → Nat → Int32) (l : List (Nat × Nat × Nat)) : zseg (zE xs L (d + 5) 140) (zC 140) 700 (zC 140 0) [(0, .ref 61)] [] (yhp I (l) 62 62 5995) = some (.inr (.inr none, (yhp (zup (zup I 61 54 (-1)) 61 67 (-1)) ((61, 88, 121) :: (61, 87, 120) :: (61, 86, 119) :: (61, 85, 118) :: (61, 84, 117) :: (61, 83, 116) :: (61, 82, 115) :: (61, 81, 114) :: (61, 80, 113) :: (61, 79, 112) :: (61, 78, 111) :: (61, 75, 110) :: (61, 74, 109) :: (61, 73, 108) :: (61, 72, 107) :: (61, 71, 106) :: (61, 70, 105) :: (61, 56, 104) :: (61, 53, 103) :: (61, 52, 102) :: (61, 51, 101) :: (61, 50, 100) :: (61, 49, 99) :: (61, 48, 98) :: (61, 47, 97) :: (61, 46, 96) :: (61, 45, 95) :: (61, 44, 94) :: (61, 43, 93) :: (61, 42, 92) :: (61, 41, 91) :: (61, 40, 90) :: (61, 39, 89) :: (61, 38, 88) :: (61, 37, 87) :: (61, 36, 86) :: (61, 35, 85) :: (61, 34, 84) :: (61, 33, 83) :: (61, 32, 82) :: (61, 31, 81) :: (61, 30, 80) :: (61, 29, 79) :: (61, 28, 78) :: (61, 27, 77) :: (61, 26, 76) :: (61, 25, 75) :: (61, 24, 74) :: (61, 18, 73) :: (61, 17, 72) :: (61, 16, 71) :: (61, 15, 70) :: (61, 14, 69) :: (61, 13, 68) :: (61, 12, 67) :: (61, 11, 66) :: (61, 10, 65) :: (61, 9, 64) :: (61, 8, 63) :: (61, 0, 62) :: (62, 7, 8) :: (62, 6, 7) :: (62, 5, 6) :: (62, 4, 5) :: (62, 3, 4) :: (62, 2, 3) :: (62, 1, 2) :: (62, 0, 1) :: l) 122 122 84457))) := by
  rw [yi140_l]
  refine (unit_first 63 6003 rfl rfl).trans ?_
  refine (unit_str 0 (by decide) (by decide)).trans ?_
  refine (unit_str 1 (by decide) (by decide)).trans ?_
  refine (unit_str 2 (by decide) (by decide)).trans ?_
  refine (unit_str 3 (by decide) (by decide)).trans ?_
  refine (unit_str 4 (by decide) (by decide)).trans ?_
  refine (unit_str 5 (by decide) (by decide)).trans ?_
  refine (unit_str 6 (by decide) (by decide)).trans ?_
  refine (unit_str 7 (by decide) (by decide)).trans ?_
  refine (unit_put (by decide)).trans ?_
  refine (unit_new 0 40 64 64 6043 rfl (by decide) rfl (by decide) rfl rfl rfl).trans ?_
  refine (unit_new 0 40 65 65 6083 rfl (by decide) rfl (by decide) rfl rfl rfl).trans ?_
  refine (unit_new 0 40 66 66 6123 rfl (by decide) rfl (by decide) rfl rfl rfl).trans ?_
  refine (unit_new 0 40 67 67 6163 rfl (by decide) rfl (by decide) rfl rfl rfl).trans ?_
  refine (unit_new 0 40 68 68 6203 rfl (by decide) rfl (by decide) rfl rfl rfl).trans ?_
  refine (unit_new 0 6 69 69 6209 rfl (by decide) rfl (by decide) rfl rfl rfl).trans ?_
  refine (unit_new 0 16 70 70 6225 rfl (by decide) rfl (by decide) rfl rfl rfl).trans ?_
  refine (unit_new 0 16 71 71 6241 rfl (by decide) rfl (by decide) rfl rfl rfl).trans ?_
  refine (unit_new 0 24 72 72 6265 rfl (by decide) rfl (by decide) rfl rfl rfl).trans ?_
  refine (unit_new 0 24 73 73 6289 rfl (by decide) rfl (by decide) rfl rfl rfl).trans ?_
  refine (unit_new 1 40 74 74 6329 rfl (by decide) rfl (by decide) rfl rfl rfl).trans ?_
  refine (unit_new 0 300 75 75 6629 rfl (by decide) rfl (by decide) rfl rfl rfl).trans ?_
  refine (unit_new 0 300 76 76 6929 rfl (by decide) rfl (by decide) rfl rfl rfl).trans ?_
  refine (unit_new 0 300 77 77 7229 rfl (by decide) rfl (by decide) rfl rfl rfl).trans ?_
  refine (unit_new 0 300 78 78 7529 rfl (by decide) rfl (by decide) rfl rfl rfl).trans ?_
  refine (unit_new 0 300 79 79 7829 rfl (by decide) rfl (by decide) rfl rfl rfl).trans ?_
  refine (unit_new 0 40 80 80 7869 rfl (by decide) rfl (by decide) rfl rfl rfl).trans ?_
  refine (unit_new 0 40 81 81 7909 rfl (by decide) rfl (by decide) rfl rfl rfl).trans ?_
  refine (unit_new 0 40 82 82 7949 rfl (by decide) rfl (by decide) rfl rfl rfl).trans ?_
  refine (unit_new 0 40 83 83 7989 rfl (by decide) rfl (by decide) rfl rfl rfl).trans ?_
  refine (unit_new 0 40 84 84 8029 rfl (by decide) rfl (by decide) rfl rfl rfl).trans ?_
  refine (unit_new 0 60 85 85 8089 rfl (by decide) rfl (by decide) rfl rfl rfl).trans ?_
  refine (unit_new 0 60 86 86 8149 rfl (by decide) rfl (by decide) rfl rfl rfl).trans ?_
  refine (unit_new 0 60 87 87 8209 rfl (by decide) rfl (by decide) rfl rfl rfl).trans ?_
  refine (unit_new 0 60 88 88 8269 rfl (by decide) rfl (by decide) rfl rfl rfl).trans ?_
  refine (unit_new 0 60 89 89 8329 rfl (by decide) rfl (by decide) rfl rfl rfl).trans ?_
  refine (unit_new 0 60 90 90 8389 rfl (by decide) rfl (by decide) rfl rfl rfl).trans ?_
  refine (unit_new 0 60 91 91 8449 rfl (by decide) rfl (by decide) rfl rfl rfl).trans ?_
  refine (unit_new 1 60 92 92 8509 rfl (by decide) rfl (by decide) rfl rfl rfl).trans ?_
  refine (unit_new 0 9 93 93 8518 rfl (by decide) rfl (by decide) rfl rfl rfl).trans ?_
  refine (unit_new 0 37 94 94 8555 rfl (by decide) rfl (by decide) rfl rfl rfl).trans ?_
  refine (unit_new 0 37 95 95 8592 rfl (by decide) rfl (by decide) rfl rfl rfl).trans ?_
  refine (unit_new 0 37 96 96 8629 rfl (by decide) rfl (by decide) rfl rfl rfl).trans ?_
  refine (unit_new 0 37 97 97 8666 rfl (by decide) rfl (by decide) rfl rfl rfl).trans ?_
  refine (unit_new 0 37 98 98 8703 rfl (by decide) rfl (by decide) rfl rfl rfl).trans ?_
  refine (unit_new 0 592 99 99 9295 rfl (by decide) rfl (by decide) rfl rfl rfl).trans ?_
  refine (unit_new 0 592 100 100 9887 rfl (by decide) rfl (by decide) rfl rfl rfl).trans ?_
  refine (unit_new 0 592 101 101 10479 rfl (by decide) rfl (by decide) rfl rfl rfl).trans ?_
  refine (unit_new 0 23680 102 102 34159 rfl (by decide) rfl (by decide) rfl rfl rfl).trans ?_
  refine (unit_new 0 8 103 103 34167 rfl (by decide) rfl (by decide) rfl rfl rfl).trans ?_
  refine (unit_new 0 200 104 104 34367 rfl (by decide) rfl (by decide) rfl rfl rfl).trans ?_
  refine (unit_int (by decide)).trans ?_
  refine (unit_new 0 400 105 105 34767 rfl (by decide) rfl (by decide) rfl rfl rfl).trans ?_
  refine (unit_int (by decide)).trans ?_
  refine (unit_new 0 20 106 106 34787 rfl (by decide) rfl (by decide) rfl rfl rfl).trans ?_
  refine (unit_new 0 20 107 107 34807 rfl (by decide) rfl (by decide) rfl rfl rfl).trans ?_
  refine (unit_new 0 120 108 108 34927 rfl (by decide) rfl (by decide) rfl rfl rfl).trans ?_
  refine (unit_new 0 300 109 109 35227 rfl (by decide) rfl (by decide) rfl rfl rfl).trans ?_
  refine (unit_new 1 300 110 110 35527 rfl (by decide) rfl (by decide) rfl rfl rfl).trans ?_
  refine (unit_new 0 576 111 111 36103 rfl (by decide) rfl (by decide) rfl rfl rfl).trans ?_
  refine (unit_new 0 300 112 112 36403 rfl (by decide) rfl (by decide) rfl rfl rfl).trans ?_
  refine (unit_new 0 8000 113 113 44403 rfl (by decide) rfl (by decide) rfl rfl rfl).trans ?_
  refine (unit_new 0 8000 114 114 52403 rfl (by decide) rfl (by decide) rfl rfl rfl).trans ?_
  refine (unit_new 0 8000 115 115 60403 rfl (by decide) rfl (by decide) rfl rfl rfl).trans ?_
  refine (unit_new 0 8000 116 116 68403 rfl (by decide) rfl (by decide) rfl rfl rfl).trans ?_
  refine (unit_new 0 8000 117 117 76403 rfl (by decide) rfl (by decide) rfl rfl rfl).trans ?_
  refine (unit_new 0 27 118 118 76430 rfl (by decide) rfl (by decide) rfl rfl rfl).trans ?_
  refine (unit_new 1 8000 119 119 84430 rfl (by decide) rfl (by decide) rfl rfl rfl).trans ?_
  refine (unit_new 2 9 120 120 84439 rfl (by decide) rfl (by decide) rfl rfl rfl).trans ?_
  refine (unit_new 2 9 121 121 84448 rfl (by decide) rfl (by decide) rfl rfl rfl).trans ?_
  refine (unit_new 2 9 122 122 84457 rfl (by decide) rfl (by decide) rfl rfl rfl).trans ?_
  rfl
theorem yi140 (xs : Nat → Int32) (L D : Nat) (hD : 6 ≤ D) (I : Nat → Nat → Int32) (l : List (Nat × Nat × Nat)) : zev xs L D 140 [.ref 61] (yhp I (l) 62 62 5995) = some (.inr none, (yhp (zup (zup I 61 54 (-1)) 61 67 (-1)) ((61, 88, 121) :: (61, 87, 120) :: (61, 86, 119) :: (61, 85, 118) :: (61, 84, 117) :: (61, 83, 116) :: (61, 82, 115) :: (61, 81, 114) :: (61, 80, 113) :: (61, 79, 112) :: (61, 78, 111) :: (61, 75, 110) :: (61, 74, 109) :: (61, 73, 108) :: (61, 72, 107) :: (61, 71, 106) :: (61, 70, 105) :: (61, 56, 104) :: (61, 53, 103) :: (61, 52, 102) :: (61, 51, 101) :: (61, 50, 100) :: (61, 49, 99) :: (61, 48, 98) :: (61, 47, 97) :: (61, 46, 96) :: (61, 45, 95) :: (61, 44, 94) :: (61, 43, 93) :: (61, 42, 92) :: (61, 41, 91) :: (61, 40, 90) :: (61, 39, 89) :: (61, 38, 88) :: (61, 37, 87) :: (61, 36, 86) :: (61, 35, 85) :: (61, 34, 84) :: (61, 33, 83) :: (61, 32, 82) :: (61, 31, 81) :: (61, 30, 80) :: (61, 29, 79) :: (61, 28, 78) :: (61, 27, 77) :: (61, 26, 76) :: (61, 25, 75) :: (61, 24, 74) :: (61, 18, 73) :: (61, 17, 72) :: (61, 16, 71) :: (61, 15, 70) :: (61, 14, 69) :: (61, 13, 68) :: (61, 12, 67) :: (61, 11, 66) :: (61, 10, 65) :: (61, 9, 64) :: (61, 8, 63) :: (61, 0, 62) :: (62, 7, 8) :: (62, 6, 7) :: (62, 5, 6) :: (62, 4, 5) :: (62, 3, 4) :: (62, 2, 3) :: (62, 1, 2) :: (62, 0, 1) :: l) 122 122 84457)) := by
  obtain ⟨d, rfl⟩ := Nat.exists_eq_add_of_le hD
  rw [Nat.add_comm 6 d]
  refine (zcS (yi140_s xs L d I l)).trans ?_
  rfl
