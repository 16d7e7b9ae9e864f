/-! THE PURE PART: track, the class. -/
def ytv (V : Nat → Nat → Int32) (C : Nat → List (Bool × List Int32)) (k : Int32) (b : Nat) (w : Int32) (x : ZP) (g : Int32) : Int32 := if w = 0 then 1 else if w = 1 then 0 else if w = 2 then ych V C k b x g else if w = 3 then V 66 x.1 else if w = 4 then (if x.2.2.2 = true then 1 else 0) else if x.2.2.1 = -1 then 1 else 0
def ytl (V : Nat → Nat → Int32) (C : Nat → List (Bool × List Int32)) (k : Int32) (b : Nat) (w : Int32) : (Nat → Int32) → List ZP → Int32 → Int32
  | _, [], s => s
  | G, x :: l, s => ytl V C k b w (zgn V x G) l (s + ytv V C k b w x (G (zcell V x)))
theorem part_c (xs : Nat → Int32) (L D : Nat) (hD : 11 ≤ D) {V H : Nat → Nat → Int32} (J : Nat → Nat → Int64) (X : XH) {C : Nat → List (Bool × List Int32)} (k : Int32) (b : Nat) (x : ZP) (g w : Int32) (hw : 0 ≤ w.toInt ∧ w.toInt ≤ 5) (hB : PB V) (hC : zCH V k H) (hT : PTm V X C k) (hx : zPok V x) (hb : b < nv (V 61 7)) (h8 : H 49 8 = Int32.ofNat b) (h9 : H 49 9 = k) (h13 : H 49 13 = Int32.ofNat x.1) (h14 : H 49 14 = x.2.1) (h15 : H 49 15 = x.2.2.1) (h16 : H 49 16 = g) (h17 : H 49 17 = if x.2.2.2 = true then 1 else 0) : ∃ H', zev xs L D 126 [.ref 0, .int w] (zmk H J X) = some (.inr (some (.int (ytv V C k b w x g))), zmk H' J X) ∧ zfr8 [51, 52] [] H H' := by
  obtain ⟨d, rfl⟩ := Nat.exists_eq_add_of_le hD
  rw [show 11 + d = d + 5 + 6 by omega]
  have S := zcS (as := [.ref 0, .int w]) (S126_0 xs L (d + 5) H J X w)
  have hRd := hB.2.2.2.2.2.1
  unfold ytv
  by_cases c0 : w = 0
  · rw [if_pos c0] at S
    rw [if_pos c0]
    exact ⟨H, S, zfr8_rfl⟩
  rw [if_neg c0] at S
  rw [if_neg c0]
  by_cases c1 : w = 1
  · rw [if_pos c1] at S
    rw [if_pos c1]
    exact ⟨H, S, zfr8_rfl⟩
  rw [if_neg c1] at S
  rw [if_neg c1]
  by_cases c2 : w = 2
  · obtain ⟨H2, b1, b2⟩ := charge_c xs L (d + 5 + 5) (by omega) J X k b x g hB hC hT hx hb h8 h9 h13 h14 h15 h16 h17
    rw [if_pos c2, b1, zci_i, T126_3_3_695 xs L (d + 5)] at S
    rw [if_pos c2]
    exact ⟨H2, S, b2⟩
  rw [if_neg c2] at S
  rw [if_neg c2]
  by_cases c3 : w = 3
  · have hn40 := hRd.1.2.2
    have n4 := nv_int hRd.1.2.1
    have hx1 := hx.1
    rw [if_pos c3, h13, zat_nat (by omega) (by omega)] at S
    rw [if_pos c3]
    have e5 : H 5 = V 66 := by
      rw [hC.1 5 (by decide) (by decide)]
      exact hRd.2.1.2.2.2.1
    rw [e5] at S
    exact ⟨H, S, zfr8_rfl⟩
  rw [if_neg c3] at S
  rw [if_neg c3]
  by_cases c4 : w = 4
  · rw [if_pos c4] at S
    rw [if_pos c4]
    refine ⟨H, ?_, zfr8_rfl⟩
    by_cases q : x.2.2.2 = true
    · rw [if_pos q] at h17
      rw [if_neg (fun z => by
        rw [h17] at z
        exact absurd (of_decide_eq_true z) (by decide))] at S
      rw [if_pos q]
      exact S
    · rw [if_neg q] at h17
      rw [if_pos (decide_eq_true h17)] at S
      rw [if_neg q]
      exact S
  rw [if_neg c4] at S
  rw [if_neg c4]
  have c5 : w = 5 := by
    have e0 : w.toInt ≠ 0 := fun z => c0 (i32_eq.mpr z)
    have e1 : w.toInt ≠ 1 := fun z => c1 (i32_eq.mpr z)
    have e2 : w.toInt ≠ 2 := fun z => c2 (i32_eq.mpr z)
    have e3 : w.toInt ≠ 3 := fun z => c3 (i32_eq.mpr z)
    have e4 : w.toInt ≠ 4 := fun z => c4 (i32_eq.mpr z)
    apply i32_eq.mpr
    show w.toInt = 5
    omega
  rw [if_pos c5, h15] at S
  refine ⟨H, ?_, zfr8_rfl⟩
  by_cases q : x.2.2.1 = -1
  · rw [if_neg (fun z => (of_decide_eq_true z) q)] at S
    rw [if_pos q]
    exact S
  · rw [if_pos (decide_eq_true q)] at S
    rw [if_neg q]
    exact S
theorem trk_loop (xs : Nat → Int32) (L d : Nat) {V : Nat → Nat → Int32} (J : Nat → Nat → Int64) (X : XH) {C : Nat → List (Bool × List Int32)} (k w : Int32) (b tot : Nat) (hw : 0 ≤ w.toInt ∧ w.toInt ≤ 5) (hB : PB V) (hT : PTm V X C k) (hb : b < nv (V 61 7)) : ∀ (l : List ZP) (i : Nat) (G : Nat → Int32) (H : Nat → Nat → Int32) (s : Int32), ZW V H k (Int32.ofNat b) l tot → zCH V k H → (∀ c, c < 27 → H 50 c = G c) → i + l.length ≤ 7200 → ∃ H', zgo xs L (d + 6 + 5) 124 2 [(0, .ref 0), (1, .int (Int32.ofNat b)), (2, .int w), (3, .int k), (4, .int s), (5, .int (Int32.ofNat i))] (zmk H J X) = some (.inr (some (.int (if w = 1 then Int32.ofNat tot else ytl V C k b w G l s))), zmk H' J X) ∧ zfr8 [49, 50, 51, 52] [] H H' ∧ PWk H'
  | [], i, G, H, s, hW, hC, hG, hi => by
    refine ⟨H, ?_, zfr8_rfl, ZW_pw hW⟩
    obtain ⟨n1, n2⟩ := step_n xs L (d + 6 + 5) (by omega) J X k (Int32.ofNat b) tot hW
    rw [zgo_q, S124_2 xs L (d + 6)]
    by_cases c : (7200 : Int32) ≤ Int32.ofNat i
    · rw [if_pos (decide_eq_true c)]
      by_cases c1 : w = 1
      · rw [if_neg (fun z => (of_decide_eq_true z) c1), if_pos c1, n2]
        rfl
      · rw [if_pos (decide_eq_true c1), if_neg c1]
        rfl
    · rw [if_neg (fun z => c (of_decide_eq_true z)), n1, zci_i, T124_2_6_694 xs L (d + 6), if_pos (by decide)]
      by_cases c1 : w = 1
      · rw [if_neg (fun z => (of_decide_eq_true z) c1), if_pos c1, n2]
        rfl
      · rw [if_pos (decide_eq_true c1), if_neg c1]
        rfl
  | x :: l, i, G, H, s, hW, hC, hG, hi => by
    have hlen : (x :: l).length = l.length + 1 := List.length_cons
    obtain ⟨hx, H1, a1, a2, a3, a4, a5, a6, a7, a8, a9⟩ := step_y xs L (d + 6 + 5) (by omega) J X k (Int32.ofNat b) x l tot hB hC hW
    have hL := hB.2.1
    have hRd := hB.2.2.2.2.2.1
    have hC1 := zCH_fr hC (zfr8_sub (S := [49, 50, 51, 52]) (T := []) a2 (fun b h => List.mem_append_left [51, 52] h) (fun _ h => h))
    have hcl := (zcell_ok hRd hL hx).1
    obtain ⟨w8, w9⟩ := ZW_89 a9
    obtain ⟨H2, b1, b2⟩ := part_c xs L (d + 6 + 5) (by omega) J X k b x (G (zcell V x)) w hw hB hC1 hT hx hb w8 w9 a3 a4 a5 (by rw [a7, hG _ hcl]) a6
    have hC2 := zCH_fr hC1 (zfr8_sub (S := [49, 50, 51, 52]) (T := []) b2 (fun b h => List.mem_append_right [49, 50] h) (fun _ h => h))
    have hW2 := ZW_fr a9 (b2.1 49 (by decide) (by decide))
    have hG2 : ∀ c, c < 27 → H2 50 c = zgn V x G c := by
      intro c hc
      rw [b2.1 50 (by decide) (by decide), a8]
      unfold zgn
      by_cases q : x.2.2.2 = true
      · rw [if_pos q, if_pos q]
        exact hG c hc
      · rw [if_neg q, if_neg q]
        unfold zset
        rw [hG _ hcl, hG c hc]
    have fr : zfr8 [49, 50, 51, 52] [] H H2 := zfr8_tr (zfr8_sub a2 (fun b h => List.mem_append_left [51, 52] h) (fun _ h => h)) b2 (fun b h => List.mem_append_right [49, 50] h) (fun _ h => h)
    have hn7200 : ¬ decide ((7200 : Int32) ≤ Int32.ofNat i) = true := fun z => by
      have := (nat_le (a := 7200) (b := i) (by omega) (by omega)).mp (of_decide_eq_true z)
      omega
    obtain ⟨H', q1, q2, q3⟩ := trk_loop xs L d J X k w b tot hw hB hT hb l (i + 1) (zgn V x G) H2 (s + ytv V C k b w x (G (zcell V x))) hW2 hC2 hG2 (by omega)
    refine ⟨H', ?_, zfr8_tr fr q2 (fun _ h => h) (fun _ h => h), q3⟩
    rw [zgo_q, S124_2 xs L (d + 6), if_neg hn7200, a1, zci_i, T124_2_6_694 xs L (d + 6), if_neg (by decide), b1, zci_i, T124_2_11_689 xs L (d + 6), zth_go, nat_succ]
    exact q1
