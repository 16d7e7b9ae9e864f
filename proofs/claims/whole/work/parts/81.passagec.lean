/-! THE PURE PART: passage, the class, and what the model's rows hold. -/
def ypv (V : Nat → Nat → Int32) (C : Nat → List (Bool × List Int32)) (k : Int32) (b : Nat) (w : Int32) (x : ZP) (g : Int32) : Int32 := if w = 0 then Int32.ofNat x.1 else if w = 1 then x.2.1 else if w = 2 then ych V C k b x g else if w = 3 then x.2.2.1 else if w = 4 then (if x.2.2.2 = true then 1 else 0) else if w = 5 then g else if ybx V k b x = 0 then 0 else 1
def ypw (V : Nat → Nat → Int32) : (Nat → Int32) → List ZP → Nat → Option (ZP × Int32)
  | _, [], _ => none
  | G, x :: _, 0 => some (x, G (zcell V x))
  | G, x :: l, m + 1 => ypw V (zgn V x G) l m
theorem ypw_rows {V M : Nat → Nat → Int32} {C : Nat → List (Bool × List Int32)} {k : Int32} {b : Nat} : ∀ (l : List ZP) (i m : Nat) (G : Nat → Int32), yr3 M i l → yric V C k b M i G l → (∀ x, x ∈ l → zPok V x) → (l.length ≤ m ∧ ypw V G l m = none) ∨ (m < l.length ∧ ∃ x g, ypw V G l m = some (x, g) ∧ zPok V x ∧ (M 112 (i + m) = Int32.ofNat x.1 ∧ M 113 (i + m) = x.2.1 ∧ M 114 (i + m) = x.2.2.1) ∧ M 118 (i + m) = (if x.2.2.2 = true then 1 else 0) ∧ M 116 (i + m) = g ∧ M 115 (i + m) = ych V C k b x g)
  | [], _, _, _, _, _, _ => Or.inl ⟨Nat.zero_le _, rfl⟩
  | x :: l, i, 0, G, h3, hr, hx => by
    refine Or.inr ⟨Nat.succ_pos _, x, G (zcell V x), rfl, hx x List.mem_cons_self, h3.1, hr.1.1, hr.1.2.1, hr.1.2.2⟩
  | x :: l, i, m + 1, G, h3, hr, hx => by
    have hlen : (x :: l).length = l.length + 1 := List.length_cons
    rcases ypw_rows l (i + 1) m (zgn V x G) h3.2 hr.2 (fun y hy => hx y (List.mem_cons_of_mem _ hy)) with ⟨h1, h2⟩ | ⟨h1, y, g, h2, h4⟩
    · exact Or.inl ⟨by omega, h2⟩
    · rw [show i + 1 + m = i + (m + 1) by omega] at h4
      exact Or.inr ⟨by omega, y, g, h2, h4⟩
theorem part_p (xs : Nat → Int32) (L D : Nat) (hD : 11 ≤ D) {V H : Nat → Nat → Int32} (J : Nat → Nat → Int64) (X : XH) {C : Nat → List (Bool × List Int32)} (k : Int32) (b : Nat) (x : ZP) (g w : Int32) (hw : 0 ≤ w.toInt ∧ w.toInt ≤ 6) (hB : PB V) (hK : PBlk V) (hC : zCH V k H) (hT : PTm V X C k) (hx : zPok V x) (hb : b < nv (V 61 7)) (h8 : H 49 8 = Int32.ofNat b) (h9 : H 49 9 = k) (h13 : H 49 13 = Int32.ofNat x.1) (h14 : H 49 14 = x.2.1) (h15 : H 49 15 = x.2.2.1) (h16 : H 49 16 = g) (h17 : H 49 17 = if x.2.2.2 = true then 1 else 0) : ∃ H', zev xs L D 128 [.ref 0, .int w] (zmk H J X) = some (.inr (some (.int (ypv V C k b w x g))), zmk H' J X) ∧ zfr8 [51, 52] [] H H' := by
  obtain ⟨d, rfl⟩ := Nat.exists_eq_add_of_le hD
  rw [show 11 + d = d + 5 + 6 by omega]
  have S := zcS (as := [.ref 0, .int w]) (S128_0 xs L (d + 5) H J X w)
  unfold ypv
  by_cases c0 : w = 0
  · rw [if_pos c0, h13] at S
    rw [if_pos c0]
    exact ⟨H, S, zfr8_rfl⟩
  rw [if_neg c0] at S
  rw [if_neg c0]
  by_cases c1 : w = 1
  · rw [if_pos c1, h14] at S
    rw [if_pos c1]
    exact ⟨H, S, zfr8_rfl⟩
  rw [if_neg c1] at S
  rw [if_neg c1]
  by_cases c2 : w = 2
  · obtain ⟨H2, b1, b2⟩ := charge_c xs L (d + 5 + 5) (by omega) J X k b x g hB hC hT hx hb h8 h9 h13 h14 h15 h16 h17
    rw [if_pos c2, b1, zci_i, T128_3_3_695 xs L (d + 5)] at S
    rw [if_pos c2]
    exact ⟨H2, S, b2⟩
  rw [if_neg c2] at S
  rw [if_neg c2]
  by_cases c3 : w = 3
  · rw [if_pos c3, h15] at S
    rw [if_pos c3]
    exact ⟨H, S, zfr8_rfl⟩
  rw [if_neg c3] at S
  rw [if_neg c3]
  by_cases c4 : w = 4
  · rw [if_pos c4] at S
    rw [if_pos c4]
    refine ⟨H, ?_, zfr8_rfl⟩
    by_cases q : x.2.2.2 = true
    · rw [if_pos q] at h17
      rw [if_neg (fun z => by
        rw [h17] at z
        exact absurd (of_decide_eq_true z) (by decide))] at S
      rw [if_pos q]
      exact S
    · rw [if_neg q] at h17
      rw [if_pos (decide_eq_true h17)] at S
      rw [if_neg q]
      exact S
  rw [if_neg c4] at S
  rw [if_neg c4]
  by_cases c5 : w = 5
  · rw [if_pos c5, h16] at S
    rw [if_pos c5]
    exact ⟨H, S, zfr8_rfl⟩
  rw [if_neg c5] at S
  rw [if_neg c5]
  have hu := unpaid_c xs L (d + 5 + 5) (by omega) J X k (Int32.ofNat b) x.2.1 hK hC h8 h9 h14
  have hu : zev xs L (d + 5 + 5) 89 [.ref 49] (zmk H J X) = some (.inr (some (.int (ybx V k b x))), zmk H J X) := hu
  rw [hu, zci_i, T128_7_3_695 xs L (d + 5)] at S
  refine ⟨H, ?_, zfr8_rfl⟩
  by_cases q : ybx V k b x = 0
  · rw [if_pos (decide_eq_true q)] at S
    rw [if_pos q]
    exact S
  · rw [if_neg (fun z => q (of_decide_eq_true z))] at S
    rw [if_neg q]
    exact S
theorem psg_loop (xs : Nat → Int32) (L d : Nat) {V : Nat → Nat → Int32} (J : Nat → Nat → Int64) (X : XH) {C : Nat → List (Bool × List Int32)} (k w : Int32) (b tot : Nat) (hw : 0 ≤ w.toInt ∧ w.toInt ≤ 6) (hB : PB V) (hK : PBlk V) (hT : PTm V X C k) (hb : b < nv (V 61 7)) : ∀ (l : List ZP) (i m : Nat) (G : Nat → Int32) (H : Nat → Nat → Int32), ZW V H k (Int32.ofNat b) l tot → zCH V k H → (∀ c, c < 27 → H 50 c = G c) → i + m < 7200 → ∃ H', zgo xs L (d + 6 + 5) 127 2 [(0, .ref 0), (1, .int (Int32.ofNat b)), (2, .int (Int32.ofNat (i + m))), (3, .int w), (4, .int k), (5, .int (Int32.ofNat i))] (zmk H J X) = (match ypw V G l m with
    | some y => some (.inr (some (.int (ypv V C k b w y.1 y.2))), zmk H' J X)
    | none => some (.inl 0, zmk H' J (zXe X))) ∧ zfr8 [49, 50, 51, 52] [] H H' ∧ PWk H'
  | [], i, m, G, H, hW, hC, hG, hi => by
    refine ⟨H, ?_, zfr8_rfl, ZW_pw hW⟩
    obtain ⟨n1, n2⟩ := step_n xs L (d + 6 + 5) (by omega) J X k (Int32.ofNat b) tot hW
    rw [zgo_q, S127_2 xs L (d + 6), if_neg (fun z => by
      have z := i32_lt.mp (of_decide_eq_true z)
      rw [i32_toInt (by omega), i32_toInt (by omega)] at z
      omega), n1, zci_i, T127_2_6_694 xs L (d + 6), if_neg (by decide)]
    rfl
  | x :: l, i, m, G, H, hW, hC, hG, hi => by
    obtain ⟨hx, H1, a1, a2, a3, a4, a5, a6, a7, a8, a9⟩ := step_y xs L (d + 6 + 5) (by omega) J X k (Int32.ofNat b) x l tot hB hC hW
    have hL := hB.2.1
    have hRd := hB.2.2.2.2.2.1
    have fr1 : zfr8 [49, 50, 51, 52] [] H H1 := zfr8_sub a2 (fun b h => List.mem_append_left [51, 52] h) (fun _ h => h)
    have hC1 := zCH_fr hC fr1
    have hcl := (zcell_ok hRd hL hx).1
    obtain ⟨w8, w9⟩ := ZW_89 a9
    have S := zgo_q xs L (d + 6 + 5) 127 2 [(0, .ref 0), (1, .int (Int32.ofNat b)), (2, .int (Int32.ofNat (i + m))), (3, .int w), (4, .int k), (5, .int (Int32.ofNat i))] (zmk H J X)
    rw [S127_2 xs L (d + 6), if_neg (fun z => by
      have z := i32_lt.mp (of_decide_eq_true z)
      rw [i32_toInt (by omega), i32_toInt (by omega)] at z
      omega), a1, zci_i, T127_2_6_694 xs L (d + 6), if_pos (by decide), zth_go, nat_succ] at S
    cases m with
    | zero =>
      obtain ⟨H2, b1, b2⟩ := part_p xs L (d + 6 + 5) (by omega) J X k b x (G (zcell V x)) w hw hB hK hC1 hT hx hb w8 w9 a3 a4 a5 (by rw [a7, hG _ hcl]) a6
      have hW2 := ZW_fr a9 (b2.1 49 (by decide) (by decide))
      refine ⟨H2, S.trans ?_, zfr8_tr fr1 b2 (fun b h => List.mem_append_right [49, 50] h) (fun _ h => h), ZW_pw hW2⟩
      rw [zgo_q, S127_2 xs L (d + 6), if_pos (decide_eq_true (i32_lt.mpr (by
        rw [i32_toInt (by omega), i32_toInt (by omega)]
        omega))), b1, zci_i, T127_3_3_694 xs L (d + 6)]
      rfl
    | succ m =>
      have hG2 : ∀ c, c < 27 → H1 50 c = zgn V x G c := by
        intro c hc
        rw [a8]
        unfold zgn
        by_cases q : x.2.2.2 = true
        · rw [if_pos q, if_pos q]
          exact hG c hc
        · rw [if_neg q, if_neg q]
          unfold zset
          rw [hG _ hcl, hG c hc]
      obtain ⟨H', q1, q2, q3⟩ := psg_loop xs L d J X k w b tot hw hB hK hT hb l (i + 1) m (zgn V x G) H1 a9 hC1 hG2 (by omega)
      rw [show i + 1 + m = i + (m + 1) by omega] at q1
      exact ⟨H', S.trans q1, zfr8_tr fr1 q2 (fun _ h => h) (fun _ h => h), q3⟩
