/-! THE PURE PART: cameras, the answer. -/
theorem a_cameras (xs : Nat → Int32) (L d : Nat) (I : Nat → Nat → Int32) (J : Nat → Nat → Int64) (X : XH) (a : Int32) (hP : PWay I) (h4 : 0 ≤ (I 61 4).toInt) : ∃ I2 J2 X2, zAns xs L (d + 11) 230 209 [.int a] I J X I2 J2 X2 ∧ PWay I2 ∧ zfr8 [57, 60] [1] I I2 ∧ zOut J J2 ∧ (X2 = X ∨ X2 = zXe X) := by
  by_cases P : 0 ≤ a.toInt ∧ a.toInt ≤ 12
  · have ea := nv_of P.1
    have na := nv_int P.1
    obtain ⟨z, hz⟩ : ∃ z, z = nv a := ⟨_, rfl⟩
    rw [← hz] at ea na
    obtain ⟨s, H, c1, c2, c3, c4, c5⟩ := cam_c xs L (d + 4 + 5) (by omega) J X hP h4 z (by omega)
    rw [ea] at c1
    have hcl : zev xs L (d + 5 + 5) 136 [.ref 0, .int a] (zmk I J X) = some (.inr (some (.int (Int32.ofNat s))), zmk H J X) := by
      have S := zcS (as := [.ref 0, .int a]) (S136_0 xs L (d + 4) I J X a)
      simp only [decide_eq_true_eq, zbi_eq0, i32_le, i32_lt, Int32.reduceToInt] at S
      rw [if_pos (by omega), c1, zci_i, T136_1_4_691 xs L (d + 4)] at S
      exact S
    obtain ⟨n, hn⟩ : ∃ n, n = min 12 (nv (I 61 4)) := ⟨_, rfl⟩
    have n4 := nv_int h4
    have hw := PWay_ws hP h4
    have h12 : (12 : Int32).toInt = 12 := by decide
    have ezm : zmn 12 (I 61 4) = Int32.ofNat n := by
      apply i32_eq.mpr
      rw [zmn_int, i32_toInt (by omega), h12]
      omega
    obtain ⟨M, hM⟩ : ∃ M, M = zup H 61 1 0 := ⟨_, rfl⟩
    have pM : PWay M := by
      rw [hM]
      exact PWay_fr (S := []) (T := [1]) (I := H) (zfr8_m (k := 1) (v := 0) zfr8_rfl (by decide)) (by decide) (by decide) (Int.le_refl _) c3
    obtain ⟨J1, hJ1⟩ : ∃ J1, J1 = zup J 122 0 (Int32.ofNat s).toInt64 := ⟨_, rfl⟩
    have frM : zfr8 [57, 60] [1] I M := by
      rw [hM]
      exact zfr8_m (zfr8_sub c4 (fun _ h => h) (fun b h => by cases h)) (by decide)
    obtain ⟨b3, b4, b5, m1, m2⟩ := cam_loop xs L (d + 4) J1 X z n (by omega) hP h4 hn (frM.1 105 (by decide) (by decide)) (frM.1 106 (by decide) (by decide)) (frM.1 107 (by decide) (by decide)) (frM.2 69 (by decide)) (2 ^ n) 0 (-1) 0 (Nat.le_refl _) (Or.inl ⟨rfl, rfl, fun r' h1 h2 => by omega⟩)
    have p12 : 2 ^ 12 = 4096 := rfl
    have l2 : 2 ^ n ≤ 2 ^ 12 := Nat.pow_le_pow_right (by decide) (by omega)
    have hs : s < 2 ^ n := by
      have h1 := yor_lt (A := fun j => nv (I 58 j)) (k := n) (nv (I 61 69)) (fun j hj => by
        rw [hn]
        exact (hw.2 j hj).2.1)
      have h2 : s &&& yor (fun j => nv (I 58 j)) (nv (I 61 69)) ≤ yor (fun j => nv (I 58 j)) (nv (I 61 69)) := Nat.and_le_right
      rw [c2.2.1] at h2
      omega
    have eb : b3 = Int32.ofNat s := by
      rcases m2 with ⟨g1, g2, g3⟩ | ⟨t, g1, g2, g3, g4, g5, g6, g7⟩
      · have := g3 (yrv n 0) (Nat.zero_le _) (yrv_lt n 0)
        rw [yit_onto n 0 (by omega) (Nat.two_pow_pos n)] at this
        have : ypc 12 0 = 0 := by decide
        omega
      · have q1 := g7 (yrv n s) (Nat.zero_le _) (yrv_lt n s)
        rw [yit_onto n s (by omega) hs] at q1
        have q2 := yisB_all c2 t g4 g6
        rw [g1, yky_inj g4 c2.1 q2 (q1 c2.2.2.1)]
    refine ⟨M, J1, X, ⟨0, b3, H, ?_, ?_, ?_, fun _ => ?_⟩, pM, frM, Or.inr ⟨_, hJ1⟩, Or.inl rfl⟩
    · rw [hJ1]
      exact w230_ok xs L (d + 5) I J X a H J X _ hcl
    · have S := zcS (as := [.ref 61, .int a]) (S209_0 xs L (d + 5) H J1 X a)
      have i4 : H 61 4 = I 61 4 := c4.2 4 (by decide)
      simp only [decide_eq_true_eq, i32_le, i32_lt, Int32.reduceToInt, i4, ezm] at S
      rw [if_neg (by omega), if_pos (by omega), shl_k13 n (by omega), zth_go, ← hM, ← ea] at S
      have S2 := S.trans m1
      rw [ea] at S2
      exact S2
    · rw [hM]
      exact zup_at
    · rw [hJ1, eb]
      exact zup_at
  · have hcl : zev xs L (d + 5 + 5) 136 [.ref 0, .int a] (zmk I J X) = some (.inl 1, zmk I J (zXe X)) := by
      have S := zcS (as := [.ref 0, .int a]) (S136_0 xs L (d + 4) I J X a)
      simp only [decide_eq_true_eq, zbi_eq0, i32_le, i32_lt, Int32.reduceToInt] at S
      rw [if_neg (by omega)] at S
      exact S
    refine ⟨zup (zup I 61 1 0) 61 1 1, J, zXe X, ⟨1, 0, I, w230_x1 xs L (d + 5) I J X a I J (zXe X) hcl, ?_, zup_at, fun q => absurd q (by decide)⟩, ?_, zfr8_m (zfr8_m zfr8_rfl (by decide)) (by decide), Or.inl rfl, Or.inr rfl⟩
    · refine (zcS (S209_0 xs L (d + 5) I J (zXe X) a)).trans ?_
      simp only [decide_eq_true_eq, i32_le, i32_lt, Int32.reduceToInt]
      by_cases c1 : a.toInt < 0
      · rw [if_pos c1]
        rfl
      rw [if_neg c1, if_neg (by omega)]
      rfl
    · exact PWay_fr (S := []) (T := [1]) (I := I) (zfr8_m (k := 1) (zfr8_m (k := 1) (v := 0) zfr8_rfl (by decide)) (by decide)) (by decide) (by decide) (Int.le_refl _) hP
