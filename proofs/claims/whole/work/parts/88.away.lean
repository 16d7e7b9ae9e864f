/-! THE PURE PART: way and sees, both sides. -/
theorem PWay_fr {S T : List Nat} {I I2 : Nat → Nat → Int32} (h : zfr8 S T I I2) (hs : ∀ b, b ∈ [57, 58, 59, 60, 105, 106, 107] → b ∉ S) (h69 : 69 ∉ T) (h4 : (I 61 4).toInt ≤ (I2 61 4).toInt) (p : PWay I) : PWay I2 := by
  obtain ⟨p1, p2, p3⟩ := p
  unfold PWay
  rw [h.1 57 (hs 57 (by decide)) (by decide), h.1 58 (hs 58 (by decide)) (by decide), h.1 59 (hs 59 (by decide)) (by decide), h.1 60 (hs 60 (by decide)) (by decide), h.1 105 (hs 105 (by decide)) (by decide), h.1 106 (hs 106 (by decide)) (by decide), h.1 107 (hs 107 (by decide)) (by decide), h.2 69 h69]
  refine ⟨p1, fun j hj => ?_, p3⟩
  obtain ⟨w1, w2, w3⟩ := p2 j hj
  exact ⟨w1, fun i hi => by
    have := w2 i hi
    omega, w3⟩
theorem a_way (xs : Nat → Int32) (L d : Nat) (I : Nat → Nat → Int32) (J : Nat → Nat → Int64) (X : XH) (a b : Int32) (row : Int64) (hP : PWay I) (h1 : I 1 1 = I 61 4) : ∃ I2 J2 X2, zAns xs L (d + 9) 229 206 [.int a, .long row, .int b] I J X I2 J2 X2 ∧ PWay I2 ∧ zfr8 [57, 58, 59, 105, 106, 107] [1, 69] I I2 ∧ zOut J J2 ∧ (X2 = X ∨ X2 = zXe X) := by
  have h1t : (I 1 1).toInt = (I 61 4).toInt := by rw [h1]
  have hm := nv_int hP.1.2.1
  have hmo := nv_of hP.1.2.1
  have hm20 := hP.1.2.2
  have h57 : I 57 0 = I 61 69 := hP.1.1
  have h57t : (I 57 0).toInt = (I 61 69).toInt := by rw [h57]
  have tk := takes_c xs L (d + 2 + 5) (by omega) I J X a b
  have SM := fun (H : Nat → Nat → Int32) (J : Nat → Nat → Int64) (X : XH) => zcS (as := [.ref 61, .int a, .long row, .int b]) (S206_0 xs L (d + 3) H J X a row b)
  have e20 : ∀ x : Int32, x = 20 ↔ x.toInt = 20 := fun x => ⟨fun z => by rw [z]; rfl, fun z => i32_eq.mpr z⟩
  by_cases P : (I 57 0).toInt < 20 ∧ (1 ≤ a.toInt ∧ a.toInt ≤ 6) ∧ 1 ≤ b.toInt ∧ b.toInt ≤ 999
  · have ha := nv_int (x := a) (by omega)
    have hao := nv_of (x := a) (by omega)
    obtain ⟨n, hn⟩ : ∃ n, n = nv a := ⟨_, rfl⟩
    obtain ⟨m, hmm⟩ : ∃ m, m = nv (I 61 69) := ⟨_, rfl⟩
    rw [← hn] at ha hao
    rw [← hmm] at hm hmo
    have lc := wayc_loop xs L d I J X row b n m (by omega) (by rw [h57, hmo]) (by omega) n 0 (Nat.zero_add _) (fun t ht => absurd ht (Nat.not_lt_zero t))
    rw [h1] at lc
    rw [if_pos P] at tk
    have hcl : zev xs L (d + 3 + 5) 135 [.ref 0, .int a, .long row, .int b] (zmk I J X) = zgo xs L (d + 2 + 5) 135 3 [(0, .ref 0), (1, .int (Int32.ofNat n)), (2, .long row), (4, .int b), (5, .int (Int32.ofNat 0))] (zmk I J X) := by
      refine (zcS (S135_0 xs L (d + 2) I J X a row b)).trans ?_
      rw [tk, zci_i, T135_0_5_695 xs L (d + 2), if_pos (by decide), zth_go, hao]
      rfl
    have hcl := hcl.trans lc
    by_cases K : ∀ i, i < n → (ywb row i).toInt < (I 61 4).toInt
    · rw [if_pos K] at hcl
      obtain ⟨H, hH⟩ : ∃ H, H = zup (zup (zup (zup I 58 m (ymk (ywb row) n)) 59 m b) 57 4 0) 57 0 (Int32.ofNat (m + 1)) := ⟨_, rfl⟩
      rw [← hH] at hcl
      obtain ⟨M, hM⟩ : ∃ M, M = zup H 61 1 0 := ⟨_, rfl⟩
      have e69 : M 61 69 = Int32.ofNat m := by
        rw [hM, hH, hmo]
        rfl
      have e4 : M 61 4 = I 61 4 := by
        rw [hM, hH]
        rfl
      obtain ⟨J1, hJ1⟩ : ∃ J1, J1 = zup J 122 0 (Int32.ofNat m).toInt64 := ⟨_, rfl⟩
      obtain ⟨N, n1, n2, _⟩ := waym_loop xs L (d + 3) M J1 X row b n m (by omega) e69 (by omega) (M 107) n 0 (Nat.zero_add _) (fun t ht => absurd ht (Nat.not_lt_zero t))
      rw [e4] at n1 n2
      have n2 := n2 K
      have fr0 : zfr8 [57, 58, 59, 105, 106, 107] [1, 69] I H := by
        rw [hH]
        exact zfr8_up (zfr8_up (zfr8_up (zfr8_up zfr8_rfl (by decide) (by decide)) (by decide) (by decide)) (by decide) (by decide)) (by decide) (by decide)
      have fr : zfr8 [57, 58, 59, 105, 106, 107] [1, 69] I N := by
        rw [n2, hM]
        exact zfr8_m (zfr8_up (zfr8_up (zfr8_ov (zfr8_m fr0 (by decide)) (by decide) (by decide)) (by decide) (by decide)) (by decide) (by decide)) (by decide)
      rw [if_pos K] at n1
      refine ⟨N, J1, X, ⟨0, Int32.ofNat m, H, ?_, ?_, ?_, fun _ => ?_⟩, ?_, fr, Or.inr ⟨_, hJ1⟩, Or.inl rfl⟩
      · rw [hJ1]
        exact w229_ok xs L (d + 3) I J X a row b H _ X _ hcl
      · refine (SM H J1 X).trans ?_
        have i69 : H 61 69 = I 61 69 := by
          rw [hH]
          rfl
        simp only [decide_eq_true_eq, e20, i32_le, i32_lt, Int32.reduceToInt, i69]
        rw [if_neg (by omega), if_neg (by omega), if_neg (by omega), if_neg (by omega), if_pos (by omega), zth_go, ← hao, ← hM]
        have : zov M 107 (ywr (M 107) (6 * m) row 0) = M := zov_self M 107
        rw [this] at n1
        exact n1
      · rw [n2, hM]
        rfl
      · rw [hJ1]
        exact zup_at
      · have q57 : N 57 0 = Int32.ofNat (m + 1) := by
          rw [n2, hM, hH]
          rfl
        have q69 : N 61 69 = Int32.ofNat (m + 1) := by
          rw [n2]
          exact zup_at
        have q4 : N 57 4 = 0 := by
          rw [n2, hM, hH]
          rfl
        have q61 : N 61 4 = I 61 4 := by
          rw [n2, hM, hH]
          rfl
        have q58 : ∀ j, N 58 j = if j = m then ymk (ywb row) n else I 58 j := fun j => by
          rw [n2, hM, hH]
          rfl
        have q59 : ∀ j, N 59 j = if j = m then b else I 59 j := fun j => by
          rw [n2, hM, hH]
          rfl
        have q105 : ∀ j, N 105 j = if j = m then Int32.ofNat n else I 105 j := fun j => by
          rw [n2, hM, hH]
          rfl
        have q106 : ∀ j, N 106 j = if j = m then b else I 106 j := fun j => by
          rw [n2, hM, hH]
          rfl
        have q107 : ∀ j, N 107 j = ywr (I 107) (6 * m) row n j := fun j => by
          rw [n2, hM, hH]
          rfl
        refine ⟨⟨by rw [q57, q69], ?_, ?_⟩, fun j hj => ?_, Or.inl q4⟩
        · rw [q69, i32_toInt (by omega)]
          omega
        · rw [q69, i32_toInt (by omega)]
          omega
        · rw [q69, nv_nat (by omega)] at hj
          rw [q61, q58, q59, q105, q106]
          by_cases c : j = m
          · subst c
            rw [if_pos rfl, if_pos rfl, if_pos rfl, if_pos rfl, i32_toInt (by omega), nv_nat (by omega)]
            refine ⟨by omega, fun i hi => ?_, ?_, rfl, by omega, by omega⟩
            · rw [q107, ywr_at _ _ _ _ _ hi]
              exact ⟨(ywb_rg row i).1, K i hi⟩
            · exact ymk_cg n (fun i hi => by rw [q107, ywr_at _ _ _ _ _ hi])
          · rw [if_neg c, if_neg c, if_neg c, if_neg c]
            obtain ⟨w1, w2, w3, w4⟩ := hP.2.1 j (by omega)
            have hl := nv_int (x := I 105 j) (by omega)
            have q : ∀ i, i < nv (I 105 j) → N 107 (6 * j + i) = I 107 (6 * j + i) := fun i hi => by
              rw [q107, ywr_ne _ _ _ _ _ (by omega)]
            refine ⟨w1, fun i hi => ?_, ?_, w4⟩
            · rw [q i hi]
              exact w2 i hi
            · rw [w3]
              exact ymk_cg _ (fun i hi => (q i hi).symm)
    · rw [if_neg K] at hcl
      obtain ⟨M, hM⟩ : ∃ M, M = zup I 61 1 0 := ⟨_, rfl⟩
      have e69 : M 61 69 = Int32.ofNat m := by
        rw [hM, hmo]
        rfl
      have e4 : M 61 4 = I 61 4 := by
        rw [hM]
        rfl
      obtain ⟨N, n1, _, n3⟩ := waym_loop xs L (d + 3) M J (zXe X) row b n m (by omega) e69 (by omega) (M 107) n 0 (Nat.zero_add _) (fun t ht => absurd ht (Nat.not_lt_zero t))
      rw [e4] at n1 n3
      obtain ⟨t, n3⟩ := n3 K
      rw [if_neg K] at n1
      have fr : zfr8 [57, 58, 59, 105, 106, 107] [1, 69] I N := by
        rw [n3, hM]
        exact zfr8_m (zfr8_ov (zfr8_m zfr8_rfl (by decide)) (by decide) (by decide)) (by decide)
      refine ⟨N, J, zXe X, ⟨1, 0, I, w229_x0 xs L (d + 3) I J X a row b I J (zXe X) hcl, ?_, ?_, fun z => absurd z (by decide)⟩, ?_, fr, Or.inl rfl, Or.inr rfl⟩
      · refine (SM I J (zXe X)).trans ?_
        simp only [decide_eq_true_eq, e20, i32_le, i32_lt, Int32.reduceToInt]
        rw [if_neg (by omega), if_neg (by omega), if_neg (by omega), if_neg (by omega), if_pos (by omega), zth_go, ← hao, ← hM]
        have : zov M 107 (ywr (M 107) (6 * m) row 0) = M := zov_self M 107
        rw [this] at n1
        exact n1
      · rw [n3, hM]
        exact zup_at
      · have g : ∀ o, o ≠ 107 → o ≠ 61 → N o = I o := fun o o1 o2 => by
          rw [n3, hM]
          exact ((if_neg o2).trans (zov_ne o1)).trans (if_neg o2)
        have g69 : N 61 69 = I 61 69 := by
          rw [n3, hM]
          rfl
        have g4 : N 61 4 = I 61 4 := by
          rw [n3, hM]
          rfl
        have q107 : ∀ j, N 107 j = ywr (I 107) (6 * m) row t j := fun j => by
          rw [n3, hM]
          rfl
        obtain ⟨p1, p2, p3⟩ := hP
        unfold PWay
        rw [g 57 (by decide) (by decide), g 58 (by decide) (by decide), g 59 (by decide) (by decide), g 60 (by decide) (by decide), g 105 (by decide) (by decide), g 106 (by decide) (by decide), g69, g4]
        refine ⟨p1, fun j hj => ?_, p3⟩
        obtain ⟨w1, w2, w3, w4⟩ := p2 j hj
        have hl := nv_int (x := I 105 j) (by omega)
        have q : ∀ i, i < nv (I 105 j) → N 107 (6 * j + i) = I 107 (6 * j + i) := fun i hi => by
          rw [q107, ywr_ne _ _ _ _ _ (by omega)]
        refine ⟨w1, fun i hi => ?_, ?_, w4⟩
        · rw [q i hi]
          exact w2 i hi
        · rw [w3]
          exact ymk_cg _ (fun i hi => (q i hi).symm)
  · rw [if_neg P] at tk
    have hcl : zev xs L (d + 3 + 5) 135 [.ref 0, .int a, .long row, .int b] (zmk I J X) = some (.inr (some (.int (-1))), zmk I J X) := by
      refine (zcS (S135_0 xs L (d + 2) I J X a row b)).trans ?_
      rw [tk, zci_i, T135_0_5_695 xs L (d + 2), if_neg (by decide)]
      rfl
    refine ⟨zup I 61 1 0, zup J 122 0 (-1 : Int32).toInt64, X, ⟨0, -1, I, w229_ok xs L (d + 3) I J X a row b I J X _ hcl, ?_, zup_at, fun _ => zup_at⟩, PWay_fr (zfr8_m (S := []) (T := [1]) zfr8_rfl (by decide)) (by decide) (by decide) (Int.le_refl _) hP, zfr8_m zfr8_rfl (by decide), Or.inr ⟨_, rfl⟩, Or.inl rfl⟩
    refine (SM I _ X).trans ?_
    simp only [decide_eq_true_eq, e20, i32_le, i32_lt, Int32.reduceToInt]
    by_cases c1 : (I 61 69).toInt = 20
    · rw [if_pos c1]
      rfl
    rw [if_neg c1]
    by_cases c2 : a.toInt < 1
    · rw [if_pos c2]
      rfl
    rw [if_neg c2]
    by_cases c3 : 6 < a.toInt
    · rw [if_pos c3]
      rfl
    rw [if_neg c3]
    by_cases c4 : b.toInt < 1
    · rw [if_pos c4]
      rfl
    rw [if_neg c4, if_neg (by omega)]
    rfl
