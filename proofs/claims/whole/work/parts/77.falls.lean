/-! THE PURE PART: falls on both sides. -/
theorem falls_good (xs : Nat → Int32) (L d : Nat) (I : Nat → Nat → Int32) (J : Nat → Nat → Int64) (X : XH) {C : Nat → List (Bool × List Int32)} (p l : Nat) (e : Int32) (hQ : PQ I X C) (P : p < nv (I 61 5)) (Q : l < nv (I 61 3)) (hE : 0 ≤ e.toInt ∧ e.toInt ≤ (I 61 2).toInt) : ∃ I2 J2 X2, yAnl xs L (d + 14) 228 205 [.int (Int32.ofNat p), .int (Int32.ofNat l), .int e] I J X I2 J2 X2 ∧ zfr8 yQ yT I I2 ∧ J2 61 = J 61 ∧ PWk I2 ∧ (X2 = X ∨ X2 = zXe X) := by
  obtain ⟨hB, hK, hRt, hT, hW⟩ := hQ
  have hN := hB.1
  have hL := hB.2.1
  have hF := hB.2.2.1
  have h1t : (I 9 0).toInt = (I 61 5).toInt := by rw [hF.1.1]
  have h2t : (I 1 0).toInt = (I 61 3).toInt := by rw [hL.1]
  have h3t : (I 0 11).toInt = (I 61 2).toInt := by rw [hN.1]
  have n3 := nv_int hL.2.1
  have n5 := nv_int hF.1.2.1
  have l9 := hL.2.2
  have p6 := hF.1.2.2
  have ep : (Int32.ofNat p).toInt = p := i32_toInt (by omega)
  have el : (Int32.ofNat l).toInt = l := i32_toInt (by omega)
  have hdep := hF.2.2.2.2.2.2.2.2.1 p P
  have nd1 := need_ok xs L (d + 7 + 5) (by omega) I J X (Int32.ofNat p) (I 9 0) (by omega)
  have nd2 := needLand_ok xs L (d + 7 + 5) (by omega) I J X (Int32.ofNat l) (by omega)
  have nd4 := known_ok xs L (d + 7 + 5) (by omega) I J X e (by omega)
  obtain ⟨H, s1, s2, s3, s4⟩ := sum_c xs L (d + 7 + 5) (by omega) J X e (Int32.ofNat p) (fun _ _ => rfl) hB hK (hT e) hW
  have e10 : zat H 10 6 (Int32.ofNat p) = I 68 p := by
    rw [zat_nat (by omega) (by omega), s3.1 10 (by decide) (by decide), hF.2.2.2.1]
  have eD := i64_of32 (I 68 p)
  obtain ⟨v, J3, c1, c2, c3⟩ := share_c xs L (d + 7 + 5) (by omega) (yJs I C e (Int32.ofNat p) J) X e p l ((I 68 p).toInt64) hB hK hRt (by omega) s2 J (by
    show yjo (yjo J 54 _) 55 _ 54 = _
    rw [yjo_ne (by decide), yjo_at]) (by omega)
  have hcls : zev xs L (d + 8 + 5) 134 [.ref 0, .int (Int32.ofNat p), .int (Int32.ofNat l), .int e] (zmk I J X) = some (.inr (some (.long v)), zmk H J3 X) := by
    refine (zcS (S134_0 xs L (d + 7) I J X _ _ _)).trans ?_
    rw [nd1, zcw_v, T134_0_6_694 xs L (d + 7), nd2, zcw_v, T134_0_9_691 xs L (d + 7), nd4, zcw_v, T134_0_12_688 xs L (d + 7), s1, zcw_v, T134_0_16_684 xs L (d + 7), e10, c1, zcl_l, T134_0_26_674 xs L (d + 7)]
    rfl
  have fr0 : zfr8 [33, 34, 49, 50, 51, 52] [1] I (zup H 61 1 0) := zfr8_m (zfr8_sub s3 (fun _ h => h) (fun b h => by cases h)) (by decide)
  have fr1 : zfr8 yQ yT I (zup H 61 1 0) := zfr8_sub fr0 sub_ct (fun b h => by
    simp only [List.mem_cons, List.not_mem_nil, or_false] at h
    rw [h]
    decide)
  obtain ⟨J1, hJ1⟩ : ∃ J1, J1 = zup J3 122 0 v := ⟨_, rfl⟩
  obtain ⟨M1, k1, k2, k3⟩ := know_m xs L (d + 8 + 5) (by omega) J1 X e (yMV_q fr0) (PB_q fr1 hB)
  obtain ⟨M2, J2, v2, m1, m3, m2, m4⟩ := falls_m xs L (d + 1) J1 X M1 e p l hB hK hRt (hT e) k2 P Q
  have ev : v2 = v := i64_eq.mpr (by
    have q := yshr_n (dep := (I 68 p).toInt) (e := yee I C e p) (n := nv (I 61 3)) (l := l) Q hdep.1 (fun i => (ydb_rg hB hRt C e p i).1) (9 - nv (I 61 3)) (fun i hi => by
      show (ydb I C e p i).toInt = 0
      rw [ydb_0 hB C e p i hi, i64_0])
    rw [show nv (I 61 3) + (9 - nv (I 61 3)) = 9 by omega] at q
    rw [m3, c2, eD, q])
  have fr2 : zfr8 yQ yT I M2 := zfr8_tr (zfr8_tr fr1 k3 sub_kt (fun b h => by cases h)) m2 sub_mt sub_t
  have i61 : ∀ j, H 61 j = I 61 j := fun j => s3.2 j (fun h => by cases h)
  refine ⟨M2, J2, X, ⟨0, v2, H, J1, ?_, ?_, ?_, fun _ => ?_⟩, fr2, ?_, ?_, Or.inl rfl⟩
  · rw [hJ1]
    exact w228_ok xs L (d + 8) I J X _ _ e H _ X _ hcls
  · refine (zcS (S205_0 xs L (d + 8) H J1 X _ _ e)).trans ?_
    simp only [decide_eq_true_eq, zbi_eq0, i32_le, i32_lt, Int32.reduceToInt, i61]
    rw [if_neg (by omega), if_neg (by omega), if_pos (by omega), if_pos (by omega), k1, zcw_v, T205_3_3_680 xs L (d + 8), zth_go]
    exact m1
  · rw [m2.2 1 (by decide), k3.2 1 (by decide)]
    exact zup_at
  · rw [m4 122 (by decide) (by decide) (by decide), hJ1, ev]
    exact zup_at
  · rw [m4 61 (by decide) (by decide) (by decide), hJ1]
    show J3 61 = _
    rw [c3 61 (by decide)]
    rfl
  · have e49 : M2 49 = H 49 := by
      rw [m2.1 49 (by decide) (by decide), k3.1 49 (by decide) (by decide)]
      rfl
    unfold PWk
    rw [e49]
    exact s4
theorem a_falls (xs : Nat → Int32) (L d : Nat) (I : Nat → Nat → Int32) (J : Nat → Nat → Int64) (X : XH) {C : Nat → List (Bool × List Int32)} (a b e : Int32) (hQ : PQ I X C) : ∃ I2 J2 X2, yAnl xs L (d + 14) 228 205 [.int a, .int b, .int e] I J X I2 J2 X2 ∧ zfr8 yQ yT I I2 ∧ J2 61 = J 61 ∧ PWk I2 ∧ (X2 = X ∨ X2 = zXe X) := by
  obtain ⟨hB, hK, hRt, hT, hW⟩ := hQ
  have hN := hB.1
  have hL := hB.2.1
  have hF := hB.2.2.1
  have h1t : (I 9 0).toInt = (I 61 5).toInt := by rw [hF.1.1]
  have h2t : (I 1 0).toInt = (I 61 3).toInt := by rw [hL.1]
  have h3t : (I 0 11).toInt = (I 61 2).toInt := by rw [hN.1]
  by_cases P : (0 ≤ a.toInt ∧ a.toInt < (I 61 5).toInt) ∧ 0 ≤ b.toInt ∧ b.toInt < (I 61 3).toInt
  · by_cases Q : 0 ≤ e.toInt ∧ e.toInt ≤ (I 61 2).toInt
    · have ea := nv_of P.1.1
      have eb := nv_of P.2.1
      have na := nv_int P.1.1
      have nb := nv_int P.2.1
      have n3 := nv_int hL.2.1
      have n5 := nv_int hF.1.2.1
      rw [← ea, ← eb]
      exact falls_good xs L d I J X (nv a) (nv b) e ⟨hB, hK, hRt, hT, hW⟩ (by omega) (by omega) Q
    · have nd1 := need_ok xs L (d + 7 + 5) (by omega) I J X a (I 9 0) (by omega)
      have nd2 := needLand_ok xs L (d + 7 + 5) (by omega) I J X b (by omega)
      have nd4 := known_no xs L (d + 7 + 5) (by omega) I J X e (by omega)
      refine ⟨zup (zup I 61 1 0) 61 1 2, J, zXe X, ⟨2, Int32.toInt64 0, I, J, w228_x1 xs L (d + 8) I J X a b e I J (zXe X) ?_, ?_, zup_at, fun z => absurd z (by decide)⟩, zfr8_m (zfr8_m zfr8_rfl (by decide)) (by decide), rfl, hW, Or.inr rfl⟩
      · refine (zcS (S134_0 xs L (d + 7) I J X a b e)).trans ?_
        rw [nd1, zcw_v, T134_0_6_694 xs L (d + 7), nd2, zcw_v, T134_0_9_691 xs L (d + 7), nd4, zcw_x, zthr_P rfl]
        rfl
      · refine (zcS (S205_0 xs L (d + 8) I J (zXe X) a b e)).trans ?_
        simp only [decide_eq_true_eq, zbi_eq0, i32_le, i32_lt, Int32.reduceToInt]
        rw [if_neg (by omega), if_neg (by omega), if_pos (by omega), if_neg (by omega)]
        rfl
  · refine ⟨zup (zup I 61 1 0) 61 1 1, J, zXe X, ⟨1, Int32.toInt64 0, I, J, w228_x0 xs L (d + 8) I J X a b e I J (zXe X) ?_, ?_, zup_at, fun z => absurd z (by decide)⟩, zfr8_m (zfr8_m zfr8_rfl (by decide)) (by decide), rfl, hW, Or.inr rfl⟩
    · refine (zcS (S134_0 xs L (d + 7) I J X a b e)).trans ?_
      by_cases c2 : 0 ≤ a.toInt ∧ a.toInt < (I 61 5).toInt
      · rw [need_ok xs L (d + 7 + 5) (by omega) I J X a (I 9 0) (by omega), zcw_v, T134_0_6_694 xs L (d + 7), needLand_no xs L (d + 7 + 5) (by omega) I J X b (by omega), zcw_x, zthr_P rfl]
        rfl
      · rw [need_no xs L (d + 7 + 5) (by omega) I J X a (I 9 0) (by omega), zcw_x, zthr_P rfl]
        rfl
    · refine (zcS (S205_0 xs L (d + 8) I J (zXe X) a b e)).trans ?_
      simp only [decide_eq_true_eq, zbi_eq0, i32_le, i32_lt, Int32.reduceToInt]
      by_cases c1 : a.toInt < 0
      · rw [if_pos c1]
        rfl
      rw [if_neg c1]
      by_cases c2 : (I 61 5).toInt ≤ a.toInt
      · rw [if_pos c2]
        rfl
      rw [if_neg c2, if_neg (by omega)]
      rfl
