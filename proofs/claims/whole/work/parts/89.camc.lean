/-! THE PURE PART: sees on both sides, cameras in the class. -/
theorem a_sees (xs : Nat → Int32) (L d : Nat) (I : Nat → Nat → Int32) (J : Nat → Nat → Int64) (X : XH) (a : Int32) (hP : PWay I) : ∃ v I2, zev xs L (d + 7) 106 [.ref 0, .int a] (zmk I J X) = some (.inr (some (.int v)), zmk I J X) ∧ zev xs L (d + 7) 207 [.ref 61, .int a] (zmk I J X) = some (.inr (some (.int v)), zmk I2 J X) ∧ zfr8 [] [1] I I2 := by
  have hm := nv_int hP.1.2.1
  have hm2 := hP.1.2.2
  have sc := seen_c xs L (d + 1 + 5) (by omega) I J X a (nv (I 61 69)) (by rw [hP.1.1, nv_of hP.1.2.1]) (by omega)
  have sm := seen_m xs L (d + 1 + 5) (by omega) (V := I) (M := zup I 61 1 0) J X a hP rfl rfl rfl rfl
  refine ⟨yse I a (nv (I 61 69)), zup I 61 1 0, ?_, ?_, zfr8_m zfr8_rfl (by decide)⟩
  · refine (zcS (S106_0 xs L (d + 1) I J X a)).trans ?_
    rw [sc, zci_i, T106_0_4_696 xs L (d + 1)]
    rfl
  · refine (zcS (S207_0 xs L (d + 1) I J X a)).trans ?_
    rw [sm, zci_i, T207_0_6_694 xs L (d + 1)]
    rfl
/-- the ways as numbers -/
def yWs (I : Nat → Nat → Int32) (A W : Nat → Nat) (m k : Nat) : Prop := m ≤ 20 ∧ ∀ j, j < m → I 58 j = Int32.ofNat (A j) ∧ A j < 2 ^ k ∧ I 59 j = Int32.ofNat (W j) ∧ 1 ≤ W j ∧ W j ≤ 999
theorem PWay_ws {I : Nat → Nat → Int32} (h : PWay I) (hR : 0 ≤ (I 61 4).toInt) : yWs I (fun j => nv (I 58 j)) (fun j => nv (I 59 j)) (nv (I 61 69)) (min 12 (nv (I 61 4))) := by
  have hm := nv_int h.1.2.1
  have hm2 := h.1.2.2
  refine ⟨by omega, fun j hj => ?_⟩
  obtain ⟨w1, w2, w3, w4, w5⟩ := h.2.1 j hj
  have h4 := nv_int hR
  obtain ⟨A, a1, a2⟩ := ymk_nat (fun i => I 107 (6 * j + i)) (min 12 (nv (I 61 4))) (by omega) (nv (I 105 j)) (fun i hi => ⟨(w2 i hi).1, by
    have := (w2 i hi).2
    show (I 107 (6 * j + i)).toInt < _ ∨ 12 ≤ (I 107 (6 * j + i)).toInt
    omega⟩)
  have hA : A < 4096 := by
    have : 2 ^ (min 12 (nv (I 61 4))) ≤ 2 ^ 12 := Nat.pow_le_pow_right (by decide) (by omega)
    have : 2 ^ 12 = 4096 := rfl
    omega
  have e58 : nv (I 58 j) = A := by rw [w3, a1, nv_nat (by omega)]
  have h9 := nv_int (x := I 59 j) (by rw [w4]; omega)
  rw [w4] at h9
  show I 58 j = Int32.ofNat (nv (I 58 j)) ∧ nv (I 58 j) < _ ∧ I 59 j = Int32.ofNat (nv (I 59 j)) ∧ 1 ≤ nv (I 59 j) ∧ nv (I 59 j) ≤ 999
  rw [e58, w4]
  exact ⟨w3.trans a1, a2, (nv_of (by omega)).symm, by omega, by omega⟩
theorem yse_nat {I : Nat → Nat → Int32} {A W : Nat → Nat} {m k s : Nat} (hk : k ≤ 12) (hs : s < 4096) (h : ∀ j, j < m → I 58 j = Int32.ofNat (A j) ∧ A j < 2 ^ k ∧ I 59 j = Int32.ofNat (W j) ∧ 1 ≤ W j ∧ W j ≤ 999) : yse I (Int32.ofNat s) m = Int32.ofNat (ysn A W m s) := by
  induction m with
  | zero => rfl
  | succ m ih =>
    obtain ⟨h1, h2, h3, _⟩ := h m (by omega)
    have hA : A m &&& s ≤ s := Nat.and_le_right
    show yse I (Int32.ofNat s) m + (if I 58 m &&& Int32.ofNat s = 0 then 0 else I 59 m) = Int32.ofNat (ysn A W m s + (if A m &&& s = 0 then 0 else W m))
    rw [ih (fun j hj => h j (by omega)), h1, h3, i32_and, ← nat_add]
    by_cases c : A m &&& s = 0
    · rw [c, if_pos rfl, if_pos (show Int32.ofNat 0 = (0 : Int32) from rfl)]
      rfl
    · rw [if_neg c, if_neg (show ¬ Int32.ofNat (A m &&& s) = (0 : Int32) from fun z => c (i32_nat_inj (b := 0) (by omega) (by decide) z))]
theorem or_loop (xs : Nat → Int32) (L d : Nat) {I : Nat → Nat → Int32} (J : Nat → Nat → Int64) (X : XH) {A W : Nat → Nat} {m k : Nat} (h0 : I 57 0 = Int32.ofNat m) (hw : yWs I A W m k) : ∀ (q j : Nat), j + q = m → zgo xs L (d + 5) 96 2 [(0, .ref 57), (1, .int (Int32.ofNat (yor A j))), (2, .int (Int32.ofNat j))] (zmk I J X) = zgo xs L (d + 5) 96 5 [(0, .ref 57), (1, .int (Int32.ofNat (yor A m))), (2, .int 1)] (zmk (zov I 60 (zpre (fun _ => 0) (I 60) 13)) J X)
  | 0, j, hj => by
    have hj : j = m := hj
    have hm := hw.1
    have hf := fill_eq xs L (d + 4) 60 13 0 (zmk I J X) (by omega) rfl
    have hz : zfil (zmk I J X) 60 0 0 13 = zmk (zov I 60 (zpre (fun _ => 0) (I 60) 13)) J X := by
      unfold zfil zmk zov zpre
      refine Prod.ext (funext fun a => ?_) rfl
      show (if a = 60 then _ else _) = (if a = 60 then _ else _)
      by_cases c : a = 60
      · rw [if_pos c, if_pos c]
        funext x
        by_cases c2 : x < 13
        · rw [if_pos ⟨Nat.zero_le x, c2⟩, if_pos c2]
        · rw [if_neg (fun z => c2 z.2), if_neg c2]
      · rw [if_neg c, if_neg c]
    rw [hz] at hf
    rw [zgo_q, S96_2 xs L d, h0, if_pos (decide_eq_true ((nat_le (by omega) (by omega)).mpr (by omega))), hf, zqv_v, T96_3_4_692 xs L d, zth_go, hj]
  | q + 1, j, hj => by
    have hm := hw.1
    have ih := or_loop xs L d J X h0 hw q (j + 1) (by omega)
    rw [zgo_q, S96_2 xs L d, h0, if_neg (fun z => by
      have := (nat_le (by omega) (by omega)).mp (of_decide_eq_true z)
      omega), zat_nat (by omega) (by omega), (hw.2 j (by omega)).1, i32_or, zth_go, nat_succ]
    exact ih
theorem better_c (xs : Nat → Int32) (L D : Nat) (hD : 7 ≤ D) {I : Nat → Nat → Int32} (J : Nat → Nat → Int64) (X : XH) {A W : Nat → Nat} {m k : Nat} (hk : k ≤ 12) (h0 : I 57 0 = Int32.ofNat m) (hw : yWs I A W m k) (s t : Nat) (hs : s < 4096) (ht : t < 4096) : ∃ b : Int32, zev xs L D 97 [.ref 57, .int (Int32.ofNat s), .int (Int32.ofNat t)] (zmk I J X) = some (.inr (some (.int b)), zmk I J X) ∧ ((b = 0 ∧ ¬ ybet A W m s t) ∨ (b = 1 ∧ ybet A W m s t)) := by
  obtain ⟨d, rfl⟩ := Nat.exists_eq_add_of_le hD
  rw [show 7 + d = d + 1 + 6 by omega]
  have c1 := seen_c xs L (d + 1 + 5) (by omega) I J X (Int32.ofNat s) m h0 hw.1
  have c2 := seen_c xs L (d + 1 + 5) (by omega) I J X (Int32.ofNat t) m h0 hw.1
  rw [yse_nat hk hs hw.2] at c1
  rw [yse_nat hk ht hw.2] at c2
  have hm := hw.1
  have l1 := ysn_le (A := A) s m (fun j hj => (hw.2 j hj).2.2.2.2)
  have l2 := ysn_le (A := A) t m (fun j hj => (hw.2 j hj).2.2.2.2)
  have es : (Int32.ofNat (ysn A W m s)).toInt = (ysn A W m s : Int) := i32_toInt (by omega)
  have et : (Int32.ofNat (ysn A W m t)).toInt = (ysn A W m t : Int) := i32_toInt (by omega)
  have ed : (Int32.ofNat (ysn A W m s) - Int32.ofNat (ysn A W m t)).toInt = (ysn A W m s : Int) - ysn A W m t := by
    rw [i32_sub (by omega) (by omega), es, et]
  have hx : s ^^^ t < 4096 := Nat.xor_lt_two_pow (n := 12) hs ht
  have S := zcS (as := [.ref 57, .int (Int32.ofNat s), .int (Int32.ofNat t)]) (S97_0 xs L (d + 1) I J X (Int32.ofNat s) (Int32.ofNat t))
  rw [c1, zci_i, T97_0_3_697 xs L (d + 1), c2, zci_i, T97_0_6_694 xs L (d + 1)] at S
  have h00 : (0 : Int32).toInt = 0 := by decide
  unfold ybet
  by_cases q1 : ysn A W m t < ysn A W m s
  · rw [if_pos (decide_eq_true (i32_lt.mpr (by
      rw [ed, h00]
      omega)))] at S
    exact ⟨1, S, Or.inr ⟨rfl, Or.inl q1⟩⟩
  · rw [if_neg (fun z => by
      have z := i32_lt.mp (of_decide_eq_true z)
      rw [ed, h00] at z
      omega)] at S
    by_cases q2 : ysn A W m s = ysn A W m t
    · rw [if_neg (fun z => (of_decide_eq_true z) (i32_eq.mpr (by
        rw [ed, h00]
        omega))), i32_xor] at S
      have e4 : Int32.ofNat s &&& Int32.ofNat (s ^^^ t) &&& -Int32.ofNat (s ^^^ t) = Int32.ofNat (s &&& ylw 12 (s ^^^ t)) := by
        rw [Int32.and_assoc, low_lw _ hx, i32_and]
      rw [e4] at S
      have hl : s &&& ylw 12 (s ^^^ t) ≤ s := Nat.and_le_left
      have tie := ytie 12 s t hs ht
      by_cases q3 : s &&& ylw 12 (s ^^^ t) = 0
      · rw [if_pos (decide_eq_true (show Int32.ofNat (s &&& ylw 12 (s ^^^ t)) = 0 by
          rw [q3]
          rfl))] at S
        exact ⟨0, S, Or.inl ⟨rfl, fun z => by
          rcases z with z | z
          · exact q1 z
          · exact tie.mpr z.2 q3⟩⟩
      · rw [if_neg (show ¬ decide (Int32.ofNat (s &&& ylw 12 (s ^^^ t)) = (0 : Int32)) = true from fun z => q3 (i32_nat_inj (b := 0) (by omega) (by decide) (of_decide_eq_true z)))] at S
        exact ⟨1, S, Or.inr ⟨rfl, Or.inr ⟨q2, tie.mp q3⟩⟩⟩
    · rw [if_pos (decide_eq_true (show ¬ Int32.ofNat (ysn A W m s) - Int32.ofNat (ysn A W m t) = 0 from fun z => by
        have := congrArg Int32.toInt z
        rw [ed, h00] at this
        omega))] at S
      exact ⟨0, S, Or.inl ⟨rfl, fun z => by
        rcases z with z | z
        · exact q1 z
        · exact q2 z.1⟩⟩
theorem sub_loop (xs : Nat → Int32) (L d : Nat) {I : Nat → Nat → Int32} (J : Nat → Nat → Int64) (X : XH) {A W : Nat → Nat} {m k : Nat} (hk : k ≤ 12) (h0 : I 57 0 = Int32.ofNat m) (hw : yWs I A W m k) : ∀ (q s : Nat) (g : Nat → Int32) (B : Nat → Nat), s + q = 4096 → 1 ≤ s → (∀ z, z ≤ 12 → g z = Int32.ofNat (B z)) → yQ2 A W m s B → ∃ g' B', zgo xs L (d + 2 + 5) 96 5 [(0, .ref 57), (1, .int (Int32.ofNat (yor A m))), (2, .int (Int32.ofNat s))] (zmk (zov I 60 g) J X) = zgo xs L (d + 2 + 5) 96 9 [(0, .ref 57), (1, .int (Int32.ofNat (yor A m))), (2, .int 1)] (zmk (zov I 60 g') J X) ∧ (∀ z, z ≤ 12 → g' z = Int32.ofNat (B' z)) ∧ yQ1 A W m 0 B' := by
  have hm := hw.1
  have hW : ∀ j, j < m → 1 ≤ W j := fun j hj => (hw.2 j hj).2.2.2.1
  intro q
  induction q with
  | zero =>
    intro s g B hq h1 hg hQ
    have e : s = 4096 := hq
    subst e
    refine ⟨g, B, ?_, hg, yQ2_end hQ⟩
    rw [zgo_q, S96_5 xs L (d + 2), if_pos (decide_eq_true (show (4096 : Int32) ≤ Int32.ofNat 4096 by decide)), zth_go]
  | succ q ih =>
    intro s g B hq h1 hg hQ
    have hs : s < 4096 := by omega
    have hp12 := ypc_le 12 s
    have hBz : B (ypc 12 s) < 4096 := by
      rcases Nat.eq_zero_or_pos (ypc 12 s) with z | z
      · rw [z, hQ.1]
        decide
      · rcases hQ.2 _ z hp12 with ⟨u1, _⟩ | ⟨_, u2, _⟩
        · rw [u1]
          decide
        · exact u2
    have hw' : yWs (zov I 60 g) A W m k := hw
    have h0' : zov I 60 g 57 0 = Int32.ofNat m := h0
    have S := zgo_q xs L (d + 2 + 5) 96 5 [(0, .ref 57), (1, .int (Int32.ofNat (yor A m))), (2, .int (Int32.ofNat s))] (zmk (zov I 60 g) J X)
    rw [S96_5 xs L (d + 2), if_neg (fun z => by
      have z := i32_le.mp (of_decide_eq_true z)
      rw [i32_toInt (by omega)] at z
      have : (4096 : Int32).toInt = 4096 := by decide
      omega)] at S
    by_cases c1 : s &&& yor A m = s
    · obtain ⟨b, b1, b2⟩ := better_c xs L (d + 2 + 5) (by omega) (I := zov I 60 g) J X hk h0' hw' s (B (ypc 12 s)) hs hBz
      have eat : zat (zov I 60 g) 60 13 (zbc (Int32.ofNat s)) = Int32.ofNat (B (ypc 12 s)) := by
        rw [zbc_pc s hs, zat_nat (by omega) (by omega), zov_at, hg _ hp12]
      rw [if_neg (fun z => (of_decide_eq_true z) ((ynot_i s (yor A m) hs).mpr c1)), eat, b1, zci_i, T96_5_19_681 xs L (d + 2), zbc_pc s hs] at S
      rcases b2 with ⟨e, b2⟩ | ⟨e, b2⟩
      · subst e
        rw [if_pos (show decide ((0 : Int32) = 0) = true by decide), zth_go, nat_succ] at S
        obtain ⟨g', B', r1, r2, r3⟩ := ih (s + 1) g B (by omega) (by omega) hg (yQ2_step hW hs h1 hQ (Or.inr ⟨Or.inr b2, rfl⟩))
        exact ⟨g', B', S.trans r1, r2, r3⟩
      · subst e
        have ep : zput (zov I 60 g) 60 13 (Int32.ofNat (ypc 12 s)) (Int32.ofNat s) = zov I 60 (zset g (ypc 12 s) (Int32.ofNat s)) := by
          rw [zput_nat (by omega) (by omega), zup_zov]
        rw [if_neg (show ¬ decide ((1 : Int32) = 0) = true by decide), ep, zth_go, nat_succ] at S
        obtain ⟨g', B', r1, r2, r3⟩ := ih (s + 1) (zset g (ypc 12 s) (Int32.ofNat s)) (fun i => if i = ypc 12 s then s else B i) (by omega) (by omega) (fun z hz => by
          show (if z = ypc 12 s then Int32.ofNat s else g z) = Int32.ofNat (if z = ypc 12 s then s else B z)
          by_cases c : z = ypc 12 s
          · rw [if_pos c, if_pos c]
          · rw [if_neg c, if_neg c, hg z hz]) (yQ2_step hW hs h1 hQ (Or.inl ⟨c1, b2, rfl⟩))
        exact ⟨g', B', S.trans r1, r2, r3⟩
    · rw [if_pos (decide_eq_true (show ¬ Int32.ofNat s &&& (Int32.ofNat (yor A m) ^^^ (-1)) = 0 from fun z => c1 ((ynot_i s (yor A m) hs).mp z))), zth_go, nat_succ] at S
      obtain ⟨g', B', r1, r2, r3⟩ := ih (s + 1) g B (by omega) (by omega) hg (yQ2_step hW hs h1 hQ (Or.inr ⟨Or.inl c1, rfl⟩))
      exact ⟨g', B', S.trans r1, r2, r3⟩
