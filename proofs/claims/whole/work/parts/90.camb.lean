/-! THE PURE PART: cameras in the class. -/
theorem fin_loop (xs : Nat → Int32) (L d : Nat) {I : Nat → Nat → Int32} (J : Nat → Nat → Int64) (X : XH) {A W : Nat → Nat} {m k : Nat} (hk : k ≤ 12) (h0 : I 57 0 = Int32.ofNat m) (hw : yWs I A W m k) (a : Int32) (B : Nat → Nat) (hQ : yQ1 A W m 0 B) : ∀ (q z : Nat) (g : Nat → Int32), z + q = 13 → 1 ≤ z → (∀ y, y < z → ∃ f, g y = Int32.ofNat f ∧ yisB A W m y f) → (∀ y, z ≤ y → y ≤ 12 → g y = Int32.ofNat (B y)) → ∃ g', zgo xs L (d + 2 + 5) 96 9 [(0, .ref 57), (1, .int a), (2, .int (Int32.ofNat z))] (zmk (zov I 60 g) J X) = some (.inr none, zmk (zov I 60 g') J X) ∧ ∀ y, y ≤ 12 → ∃ f, g' y = Int32.ofNat f ∧ yisB A W m y f
  | 0, z, g, hz, h1, hf, hg => by
    have hz : z = 13 := hz
    refine ⟨g, ?_, fun y hy => hf y (by omega)⟩
    rw [zgo_q, S96_9 xs L (d + 2), hz, if_pos (show decide ((12 : Int32) < Int32.ofNat 13) = true by decide)]
    rfl
  | q + 1, z, g, hz, h1, hf, hg => by
    obtain ⟨f, f1, f2⟩ := hf (z - 1) (by omega)
    have hm := hw.1
    have hw' : yWs (zov I 60 g) A W m k := hw
    have h0' : zov I 60 g 57 0 = Int32.ofNat m := h0
    have hBz : B z < 4096 := by
      rcases hQ.2 z h1 (by omega) with ⟨u1, _⟩ | ⟨_, u2, _⟩
      · rw [u1]
        decide
      · exact u2
    have c1 := seen_c xs L (d + 2 + 5) (by omega) (zov I 60 g) J X (Int32.ofNat (B z)) m h0' hm
    have c2 := seen_c xs L (d + 2 + 5) (by omega) (zov I 60 g) J X (Int32.ofNat f) m h0' hm
    rw [yse_nat hk hBz hw'.2] at c1
    rw [yse_nat hk f2.1 hw'.2] at c2
    have l1 := ysn_le (A := A) (B z) m (fun j hj => (hw.2 j hj).2.2.2.2)
    have l2 := ysn_le (A := A) f m (fun j hj => (hw.2 j hj).2.2.2.2)
    have e1 : zat (zov I 60 g) 60 13 (Int32.ofNat z) = Int32.ofNat (B z) := by
      rw [zat_nat (by omega) (by omega), zov_at, hg z (Nat.le_refl _) (by omega)]
    have e2 : zat (zov I 60 g) 60 13 (Int32.ofNat z - 1) = Int32.ofNat f := by
      have : Int32.ofNat z - 1 = Int32.ofNat (z - 1) := by
        have e : z = z - 1 + 1 := by omega
        rw [e, ← nat_succ, Int32.add_sub_cancel]
        rfl
      rw [this, zat_nat (by omega) (by omega), zov_at, f1]
    have st := yisB_step (z := z - 1) hQ (by omega) f2
    rw [show z - 1 + 1 = z by omega] at st
    have S := zgo_q xs L (d + 2 + 5) 96 9 [(0, .ref 57), (1, .int a), (2, .int (Int32.ofNat z))] (zmk (zov I 60 g) J X)
    rw [S96_9 xs L (d + 2), if_neg (fun y => by
      have y := i32_lt.mp (of_decide_eq_true y)
      rw [i32_toInt (by omega)] at y
      have : (12 : Int32).toInt = 12 := by decide
      omega), e1, e2, c1, zci_i, T96_9_16_684 xs L (d + 2), c2, zci_i, T96_9_19_681 xs L (d + 2)] at S
    by_cases c : ysn A W m f < ysn A W m (B z)
    · rw [if_pos (decide_eq_true (i32_lt.mpr (by
        rw [i32_toInt (by omega), i32_toInt (by omega)]
        omega))), zth_go, nat_succ] at S
      obtain ⟨g', r1, r2⟩ := fin_loop xs L d J X hk h0 hw a B hQ q (z + 1) g (by omega) (by omega) (fun y hy => by
        by_cases e : y = z
        · subst e
          exact ⟨B y, hg y (Nat.le_refl _) (by omega), st.2 c⟩
        · exact hf y (by omega)) (fun y hy hy2 => hg y (by omega) hy2)
      exact ⟨g', S.trans r1, r2⟩
    · have ep : zput (zov I 60 g) 60 13 (Int32.ofNat z) (Int32.ofNat f) = zov I 60 (zset g z (Int32.ofNat f)) := by
        rw [zput_nat (by omega) (by omega), zup_zov]
      rw [if_neg (fun y => by
        have y := i32_lt.mp (of_decide_eq_true y)
        rw [i32_toInt (by omega), i32_toInt (by omega)] at y
        omega), ep, zth_go, nat_succ] at S
      obtain ⟨g', r1, r2⟩ := fin_loop xs L d J X hk h0 hw a B hQ q (z + 1) (zset g z (Int32.ofNat f)) (by omega) (by omega) (fun y hy => by
        by_cases e : y = z
        · subst e
          exact ⟨f, zset_at, st.1 (by omega)⟩
        · rw [zset_ne e]
          exact hf y (by omega)) (fun y hy hy2 => by
          rw [zset_ne (by omega)]
          exact hg y (by omega) hy2)
      exact ⟨g', S.trans r1, r2⟩
theorem find_c (xs : Nat → Int32) (L D : Nat) (hD : 8 ≤ D) {I : Nat → Nat → Int32} (J : Nat → Nat → Int64) (X : XH) {A W : Nat → Nat} {m k : Nat} (hk : k ≤ 12) (h0 : I 57 0 = Int32.ofNat m) (hw : yWs I A W m k) : ∃ g, zev xs L D 96 [.ref 57] (zmk I J X) = some (.inr none, zmk (zov I 60 g) J X) ∧ ∀ y, y ≤ 12 → ∃ f, g y = Int32.ofNat f ∧ yisB A W m y f := by
  obtain ⟨d, rfl⟩ := Nat.exists_eq_add_of_le hD
  rw [show 8 + d = d + 2 + 6 by omega]
  have o := or_loop xs L (d + 2) J X h0 hw m 0 (Nat.zero_add _)
  obtain ⟨g1, B, s1, s2, s3⟩ := sub_loop xs L d J X hk h0 hw 4095 1 (zpre (fun _ => 0) (I 60) 13) (fun _ => 0) rfl (Nat.le_refl _) (fun z hz => if_pos (by omega)) (yQ2_one A W m)
  obtain ⟨g2, r1, r2⟩ := fin_loop xs L d J X hk h0 hw (Int32.ofNat (yor A m)) B s3 12 1 g1 rfl (Nat.le_refl _) (fun y hy => by
    have e : y = 0 := by omega
    subst e
    refine ⟨0, ?_, yisB_0 A W m⟩
    rw [s2 0 (by decide), s3.1]) (fun y hy hy2 => s2 y hy2)
  refine ⟨g2, ?_, r2⟩
  refine (zcS (S96_0 xs L (d + 2) I J X)).trans ?_
  rw [zth_go]
  exact o.trans (s1.trans r1)
theorem cam_c (xs : Nat → Int32) (L D : Nat) (hD : 9 ≤ D) {I : Nat → Nat → Int32} (J : Nat → Nat → Int64) (X : XH) (hP : PWay I) (h4 : 0 ≤ (I 61 4).toInt) (z : Nat) (hz : z ≤ 12) : ∃ s H, zev xs L D 95 [.ref 57, .int (Int32.ofNat z)] (zmk I J X) = some (.inr (some (.int (Int32.ofNat s))), zmk H J X) ∧ yisB (fun j => nv (I 58 j)) (fun j => nv (I 59 j)) (nv (I 61 69)) z s ∧ PWay H ∧ zfr8 [57, 60] [] I H ∧ H 57 0 = I 57 0 := by
  obtain ⟨d, rfl⟩ := Nat.exists_eq_add_of_le hD
  rw [show 9 + d = d + 3 + 6 by omega]
  have S := zcS (as := [.ref 57, .int (Int32.ofNat z)]) (S95_0 xs L (d + 3) I J X (Int32.ofNat z))
  by_cases c : I 57 4 = 0
  · obtain ⟨g, g1, g2⟩ := find_c xs L (d + 3 + 5) (by omega) J X (Nat.min_le_left 12 (nv (I 61 4))) (by rw [hP.1.1, nv_of hP.1.2.1]) (PWay_ws hP h4)
    obtain ⟨s, s1, s2⟩ := g2 z hz
    rw [if_neg (fun y => (of_decide_eq_true y) c), g1, zcw_v, T95_0_5_695 xs L (d + 3), zat_nat (by omega) (by omega), zov_at, s1] at S
    refine ⟨s, zup (zov I 60 g) 57 4 1, S, s2, ⟨hP.1, hP.2.1, Or.inr (fun y hy => ?_)⟩, zfr8_up (zfr8_ov zfr8_rfl (by decide) (by decide)) (by decide) (by decide), rfl⟩
    exact g2 y hy
  · rcases hP.2.2 with e | e
    · exact absurd e c
    · obtain ⟨s, s1, s2⟩ := e z hz
      rw [if_pos (decide_eq_true c), zat_nat (by omega) (by omega), s1] at S
      exact ⟨s, I, S, s2, hP, zfr8_rfl, rfl⟩
