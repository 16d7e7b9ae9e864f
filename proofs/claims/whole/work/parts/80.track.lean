/-! THE PURE PART: track on both sides. -/
theorem track_good (xs : Nat → Int32) (L d : Nat) (I : Nat → Nat → Int32) (J : Nat → Nat → Int64) (X : XH) {C : Nat → List (Bool × List Int32)} (b : Nat) (w e : Int32) (hQ : PQ I X C) (P : b < nv (I 61 7)) (hw : 0 ≤ w.toInt ∧ w.toInt ≤ 5) (hE : 0 ≤ e.toInt ∧ e.toInt ≤ (I 61 2).toInt) : ∃ I2 J2 X2, yAni xs L (d + 14) 224 182 [.int (Int32.ofNat b), .int w, .int e] I J X I2 J2 X2 ∧ zfr8 yQ yT I I2 ∧ J2 61 = J 61 ∧ PWk I2 ∧ (X2 = X ∨ X2 = zXe X) := by
  obtain ⟨hB, hK, hRt, hT, hW⟩ := hQ
  have hN := hB.1
  have hF := hB.2.2.1
  have hRd := hB.2.2.2.2.2.1
  have h1t : (I 9 2).toInt = (I 61 7).toInt := by rw [hF.2.2.1.1]
  have h3t : (I 0 11).toInt = (I 61 2).toInt := by rw [hN.1]
  have n7 := nv_int hF.2.2.1.2.1
  have p24 := hF.2.2.1.2.2
  have eb : (Int32.ofNat b).toInt = b := i32_toInt (by omega)
  have h6 : (6 : Int32).toInt = 6 := by decide
  have nd1 := need_ok xs L (d + 7 + 5) (by omega) I J X (Int32.ofNat b) (I 9 2) (by omega)
  have nd3 := need_ok xs L (d + 7 + 5) (by omega) I J X w 6 (by omega)
  have nd4 := known_ok xs L (d + 7 + 5) (by omega) I J X e (by omega)
  obtain ⟨H, s1, s2, s3⟩ := know_c xs L (d + 7 + 5) (by omega) J X e (fun _ _ => rfl) hB (hT e)
  have hWH := PWk_fr s3 (by decide) hW
  obtain ⟨H1, t1, t2, t3, t4⟩ := start_y xs L (d + 7 + 5) (by omega) J X e (Int32.ofNat b) hB s2 hWH
  have hC1 := zCH_fr s2 (zfr8_sub (S := [49, 50, 51, 52]) (T := []) t2 (fun b h => List.mem_append_left [51, 52] h) (fun _ h => h))
  obtain ⟨H2, u1, u2, u3⟩ := trk_loop xs L (d + 1) J X (C := C) e w b (ybr I e b) hw hB (hT e) P (ytk I e b) 0 (fun _ => 0) H1 0 t4 hC1 t3 (by
    have := ytk_len hB e b
    omega)
  obtain ⟨v, hv⟩ : ∃ v, v = if w = 1 then Int32.ofNat (ybr I e b) else ytl I C e b w (fun _ => 0) (ytk I e b) 0 := ⟨_, rfl⟩
  rw [← hv] at u1
  have hcls : zev xs L (d + 8 + 5) 124 [.ref 0, .int (Int32.ofNat b), .int w, .int e] (zmk I J X) = some (.inr (some (.int v)), zmk H2 J X) := by
    refine (zcS (S124_0 xs L (d + 7) I J X _ _ _)).trans ?_
    rw [nd1, zcw_v, T124_0_6_694 xs L (d + 7), nd3, zcw_v, T124_0_10_690 xs L (d + 7), nd4, zcw_v, T124_0_13_687 xs L (d + 7), s1, zcw_v, T124_0_17_683 xs L (d + 7), t1, zcw_v, T124_0_22_678 xs L (d + 7), zth_go]
    exact u1
  have frc : zfr8 [33, 34, 49, 50, 51, 52] [] I H2 := zfr8_tr (zfr8_tr (zfr8_sub s3 (fun b h => List.mem_append_left [49, 50, 51, 52] h) (fun _ h => h)) t2 (fun b h => by
    simp only [List.mem_cons, List.not_mem_nil, or_false] at h ⊢
    omega) (fun _ h => h)) u2 (fun b h => List.mem_append_right [33, 34] h) (fun _ h => h)
  have fr0 : zfr8 [33, 34, 49, 50, 51, 52] [1] I (zup H2 61 1 0) := zfr8_m (zfr8_sub frc (fun _ h => h) (fun b h => by cases h)) (by decide)
  have fr1 : zfr8 yQ yT I (zup H2 61 1 0) := zfr8_sub fr0 sub_ct (fun b h => by
    simp only [List.mem_cons, List.not_mem_nil, or_false] at h
    rw [h]
    decide)
  obtain ⟨J1, hJ1⟩ : ∃ J1, J1 = zup J 122 0 v.toInt64 := ⟨_, rfl⟩
  obtain ⟨M1, k1, k2, k3⟩ := know_m xs L (d + 8 + 5) (by omega) J1 X e (yMV_q fr0) (PB_q fr1 hB)
  obtain ⟨M2, m1, ⟨m76, mr3⟩, m77, mric, m2, mlen, mbr⟩ := track_m xs L (d + 8 + 5) (by omega) J1 X e b hB k2 (hT e) P
  have fr2 : zfr8 yQ yT I M2 := zfr8_tr (zfr8_tr fr1 k3 sub_kt (fun b h => by cases h)) m2 sub_mt sub_t
  have i61 : ∀ j, H2 61 j = I 61 j := fun j => frc.2 j (fun h => by cases h)
  have hmod : zth xs L (d + 8 + 5) 182 (zseg (zE xs L (d + 8 + 5) 182) (zC 182) 677 (zB182_3.drop 7) [(0, .ref 61), (1, .int (Int32.ofNat b)), (2, .int w), (3, .int e)] [] (zmk M2 J1 X)) = some (.inr (some (.int v)), zmk M2 J1 X) := by
    rw [T182_3_7_677 xs L (d + 8)]
    by_cases c2 : (2 : Int32) ≤ w
    · have c2' := i32_le.mp c2
      have h2 : (2 : Int32).toInt = 2 := by decide
      rw [if_pos (decide_eq_true c2), zth_go]
      have n1 : ¬ w = 1 := fun z => by
        rw [z] at c2
        exact absurd c2 (by decide)
      rw [if_neg n1] at hv
      have h66 : M2 66 = I 66 := by rw [m2.1 66 (by decide) (by decide), k2.1 66 (by decide) (by decide) (by decide)]
      have hV := nv_int hRd.1.2.1
      have hV2 := hRd.1.2.2
      have q := trm_loop xs L (d + 8) J1 X (C := C) e w (Int32.ofNat b) b (ytk I e b).length (by omega) h66 (by omega) m76 mlen (ytk I e b) 0 (fun _ => 0) 0 mr3 mric (fun x hx => (ytk_ok hB e b x hx).1) (Nat.zero_add _)
      rw [← hv] at q
      exact q
    · rw [if_neg (fun z => c2 (of_decide_eq_true z))]
      by_cases c0 : w = 0
      · rw [if_neg (fun z => (of_decide_eq_true z) c0), m76, hv, if_neg (by
          rw [c0]
          decide)]
        have := ytl_0 I C e w b c0 (ytk I e b) (fun _ => 0) 0
        rw [Nat.zero_add] at this
        rw [← this]
        rfl
      · have c1 : w = 1 := by
          have e0 : w.toInt ≠ 0 := fun z => c0 (i32_eq.mpr z)
          have e2 : ¬ 2 ≤ w.toInt := fun z => c2 (i32_le.mpr z)
          apply i32_eq.mpr
          show w.toInt = 1
          omega
        rw [if_pos (decide_eq_true c0), m77, hv, if_pos c1]
        rfl
  refine ⟨M2, J1, X, ⟨0, v, H2, J1, ?_, ?_, ?_, fun _ => ?_⟩, fr2, ?_, ?_, Or.inl rfl⟩
  · rw [hJ1]
    exact w224_ok xs L (d + 8) I J X _ _ e H2 _ X _ hcls
  · refine (zcS (S182_0 xs L (d + 8) H2 J1 X _ _ e)).trans ?_
    simp only [decide_eq_true_eq, zbi_eq0, i32_le, i32_lt, Int32.reduceToInt, i61]
    rw [if_neg (by omega), if_neg (by omega), if_pos (by omega), if_pos (by omega), k1, zcw_v, T182_3_3_681 xs L (d + 8), m1, zcw_v]
    exact hmod
  · rw [m2.2 1 (by decide), k3.2 1 (by decide)]
    exact zup_at
  · rw [hJ1]
    exact zup_at
  · rw [hJ1]
    rfl
  · have e49 : M2 49 = H2 49 := by
      rw [m2.1 49 (by decide) (by decide), k3.1 49 (by decide) (by decide)]
      rfl
    unfold PWk
    rw [e49]
    exact u3
theorem a_track (xs : Nat → Int32) (L d : Nat) (I : Nat → Nat → Int32) (J : Nat → Nat → Int64) (X : XH) {C : Nat → List (Bool × List Int32)} (a w e : Int32) (hQ : PQ I X C) : ∃ I2 J2 X2, yAni xs L (d + 14) 224 182 [.int a, .int w, .int e] I J X I2 J2 X2 ∧ zfr8 yQ yT I I2 ∧ J2 61 = J 61 ∧ PWk I2 ∧ (X2 = X ∨ X2 = zXe X) := by
  obtain ⟨hB, hK, hRt, hT, hW⟩ := hQ
  have hN := hB.1
  have hF := hB.2.2.1
  have h1t : (I 9 2).toInt = (I 61 7).toInt := by rw [hF.2.2.1.1]
  have h3t : (I 0 11).toInt = (I 61 2).toInt := by rw [hN.1]
  have h6 : (6 : Int32).toInt = 6 := by decide
  by_cases P : (0 ≤ a.toInt ∧ a.toInt < (I 61 7).toInt) ∧ 0 ≤ w.toInt ∧ w.toInt ≤ 5
  · by_cases Q : 0 ≤ e.toInt ∧ e.toInt ≤ (I 61 2).toInt
    · have ea := nv_of P.1.1
      have na := nv_int P.1.1
      have n7 := nv_int hF.2.2.1.2.1
      rw [← ea]
      exact track_good xs L d I J X (nv a) w e ⟨hB, hK, hRt, hT, hW⟩ (by omega) P.2 Q
    · have nd1 := need_ok xs L (d + 7 + 5) (by omega) I J X a (I 9 2) (by omega)
      have nd3 := need_ok xs L (d + 7 + 5) (by omega) I J X w 6 (by omega)
      have nd4 := known_no xs L (d + 7 + 5) (by omega) I J X e (by omega)
      refine ⟨zup (zup I 61 1 0) 61 1 2, J, zXe X, ⟨2, 0, I, J, w224_x1 xs L (d + 8) I J X a w e I J (zXe X) ?_, ?_, zup_at, fun z => absurd z (by decide)⟩, zfr8_m (zfr8_m zfr8_rfl (by decide)) (by decide), rfl, hW, Or.inr rfl⟩
      · refine (zcS (S124_0 xs L (d + 7) I J X a w e)).trans ?_
        rw [nd1, zcw_v, T124_0_6_694 xs L (d + 7), nd3, zcw_v, T124_0_10_690 xs L (d + 7), nd4, zcw_x, zthr_P rfl]
        rfl
      · refine (zcS (S182_0 xs L (d + 8) I J (zXe X) a w e)).trans ?_
        simp only [decide_eq_true_eq, zbi_eq0, i32_le, i32_lt, Int32.reduceToInt]
        rw [if_neg (by omega), if_neg (by omega), if_pos (by omega), if_neg (by omega)]
        rfl
  · refine ⟨zup (zup I 61 1 0) 61 1 1, J, zXe X, ⟨1, 0, I, J, w224_x0 xs L (d + 8) I J X a w e I J (zXe X) ?_, ?_, zup_at, fun z => absurd z (by decide)⟩, zfr8_m (zfr8_m zfr8_rfl (by decide)) (by decide), rfl, hW, Or.inr rfl⟩
    · refine (zcS (S124_0 xs L (d + 7) I J X a w e)).trans ?_
      by_cases c2 : 0 ≤ a.toInt ∧ a.toInt < (I 61 7).toInt
      · rw [need_ok xs L (d + 7 + 5) (by omega) I J X a (I 9 2) (by omega), zcw_v, T124_0_6_694 xs L (d + 7), need_no xs L (d + 7 + 5) (by omega) I J X w 6 (by omega), zcw_x, zthr_P rfl]
        rfl
      · rw [need_no xs L (d + 7 + 5) (by omega) I J X a (I 9 2) (by omega), zcw_x, zthr_P rfl]
        rfl
    · refine (zcS (S182_0 xs L (d + 8) I J (zXe X) a w e)).trans ?_
      simp only [decide_eq_true_eq, zbi_eq0, i32_le, i32_lt, Int32.reduceToInt]
      by_cases c3 : ¬ (¬ a.toInt < 0 ∧ ¬ (I 61 7).toInt ≤ a.toInt)
      · rw [if_pos c3]
        rfl
      rw [if_neg c3]
      by_cases c4 : w.toInt < 0
      · rw [if_pos c4]
        rfl
      rw [if_neg c4, if_neg (by omega)]
      rfl
