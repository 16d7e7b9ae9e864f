/-! THE PURE PART: unpaid and falls on both sides. -/
theorem unpaid_good (xs : Nat → Int32) (L d : Nat) (I : Nat → Nat → Int32) (J : Nat → Nat → Int64) (X : XH) {C : Nat → List (Bool × List Int32)} (l m : Nat) (e : Int32) (hQ : PQ I X C) (Q : l < nv (I 61 3)) (R : m < 3) (hE : 0 ≤ e.toInt ∧ e.toInt ≤ (I 61 2).toInt) : ∃ I2 J2 X2, yAni xs L (d + 14) 227 204 [.int (Int32.ofNat l), .int (Int32.ofNat m), .int e] I J X I2 J2 X2 ∧ zfr8 yQ yT I I2 ∧ J2 61 = J 61 ∧ PWk I2 ∧ (X2 = X ∨ X2 = zXe X) := by
  obtain ⟨hB, hK, hRt, hT, hW⟩ := hQ
  have hN := hB.1
  have hL := hB.2.1
  have h2t : (I 1 0).toInt = (I 61 3).toInt := by rw [hL.1]
  have h3t : (I 0 11).toInt = (I 61 2).toInt := by rw [hN.1]
  have n3 := nv_int hL.2.1
  have l9 := hL.2.2
  have el : (Int32.ofNat l).toInt = l := i32_toInt (by omega)
  have em : (Int32.ofNat m).toInt = m := i32_toInt (by omega)
  have nd2 := needLand_ok xs L (d + 7 + 5) (by omega) I J X (Int32.ofNat l) (by omega)
  have nd3 := need_ok xs L (d + 7 + 5) (by omega) I J X (Int32.ofNat m) 3 (by
    have : (3 : Int32).toInt = 3 := by decide
    omega)
  have nd4 := known_ok xs L (d + 7 + 5) (by omega) I J X e (by omega)
  obtain ⟨H, s1, s2, s3, s4⟩ := sum_c xs L (d + 7 + 5) (by omega) J X e (-1) (fun _ _ => rfl) hB hK (hT e) hW
  have e3 : Int32.ofNat l * (3 : Int32) + Int32.ofNat m = Int32.ofNat (3 * l + m) := by
    show Int32.ofNat l * Int32.ofNat 3 + Int32.ofNat m = _
    rw [nat_mul, nat_add, Nat.mul_comm 3 l]
  have hcls : zev xs L (d + 8 + 5) 133 [.ref 0, .int (Int32.ofNat l), .int (Int32.ofNat m), .int e] (zmk I J X) = some (.inr (some (.int (yto I C e (-1) l m 1 (nv (I 61 7)) 0 0).toInt32)), zmk H (yJs I C e (-1) J) X) := by
    have h24 : zev xs L (d + 7 + 5) 24 [.ref 53, .int (Int32.ofNat l), .int (Int32.ofNat m)] (zmk H (yJs I C e (-1) J) X) = some (.inr (some (.int (yto I C e (-1) l m 1 (nv (I 61 7)) 0 0).toInt32)), zmk H (yJs I C e (-1) J) X) := by
      refine (zcS (S24_0 xs L (d + 6) H (yJs I C e (-1) J) X _ _)).trans ?_
      rw [e3, zlat_nat (by omega) (by omega)]
      show some (Sum.inr (some (Value.int ((ysum I C e (-1) J).2 (3 * l + m)).toInt32)), _) = _
      rw [(ysum_to hB hK (by omega) R J).2]
    refine (zcS (S133_0 xs L (d + 7) I J X _ _ _)).trans ?_
    rw [nd2, zcw_v, T133_0_3_697 xs L (d + 7), nd3, zcw_v, T133_0_7_693 xs L (d + 7), nd4, zcw_v, T133_0_10_690 xs L (d + 7), s1, zcw_v, T133_0_14_686 xs L (d + 7), h24, zci_i, T133_0_19_681 xs L (d + 7)]
    rfl
  have fr0 : zfr8 [33, 34, 49, 50, 51, 52] [1] I (zup H 61 1 0) := zfr8_m (zfr8_sub s3 (fun _ h => h) (fun b h => by cases h)) (by decide)
  have fr1 : zfr8 yQ yT I (zup H 61 1 0) := zfr8_sub fr0 sub_ct (fun b h => by
    simp only [List.mem_cons, List.not_mem_nil, or_false] at h
    rw [h]
    decide)
  obtain ⟨J1, hJ1⟩ : ∃ J1, J1 = zup (yJs I C e (-1) J) 122 0 (yto I C e (-1) l m 1 (nv (I 61 7)) 0 0).toInt32.toInt64 := ⟨_, rfl⟩
  obtain ⟨M1, k1, k2, k3⟩ := know_m xs L (d + 8 + 5) (by omega) J1 X e (yMV_q fr0) (PB_q fr1 hB)
  obtain ⟨M2, m1, m2⟩ := unp_loop xs L (d + 2) J1 X e l m hB hK (hT e) (by omega) R (nv (I 61 7)) 0 0 M1 (Nat.zero_add _) k2
  have fr2 : zfr8 yQ yT I M2 := zfr8_tr (zfr8_tr fr1 k3 sub_kt (fun b h => by cases h)) m2 sub_mt sub_t
  have i61 : ∀ j, H 61 j = I 61 j := fun j => s3.2 j (fun h => by cases h)
  refine ⟨M2, J1, X, ⟨0, (yto I C e (-1) l m 1 (nv (I 61 7)) 0 0).toInt32, H, J1, ?_, ?_, ?_, fun _ => ?_⟩, fr2, ?_, ?_, Or.inl rfl⟩
  · rw [hJ1]
    exact w227_ok xs L (d + 8) I J X _ _ e H _ X _ hcls
  · refine (zcS (S204_0 xs L (d + 8) H J1 X _ _ e)).trans ?_
    simp only [decide_eq_true_eq, zbi_eq0, i32_le, i32_lt, Int32.reduceToInt, i61]
    rw [if_neg (by omega), if_neg (by omega), if_pos (by omega), if_pos (by omega), k1, zcw_v, T204_3_3_681 xs L (d + 8), zth_go]
    exact m1
  · rw [m2.2 1 (by decide), k3.2 1 (by decide)]
    exact zup_at
  · rw [hJ1]
    exact zup_at
  · rw [hJ1]
    exact yJs_61 _ _ _ _ _ _
  · have e49 : M2 49 = H 49 := by
      rw [m2.1 49 (by decide) (by decide), k3.1 49 (by decide) (by decide)]
      rfl
    unfold PWk
    rw [e49]
    exact s4
theorem a_unpaid (xs : Nat → Int32) (L d : Nat) (I : Nat → Nat → Int32) (J : Nat → Nat → Int64) (X : XH) {C : Nat → List (Bool × List Int32)} (b c e : Int32) (hQ : PQ I X C) : ∃ I2 J2 X2, yAni xs L (d + 14) 227 204 [.int b, .int c, .int e] I J X I2 J2 X2 ∧ zfr8 yQ yT I I2 ∧ J2 61 = J 61 ∧ PWk I2 ∧ (X2 = X ∨ X2 = zXe X) := by
  obtain ⟨hB, hK, hRt, hT, hW⟩ := hQ
  have hN := hB.1
  have hL := hB.2.1
  have h2t : (I 1 0).toInt = (I 61 3).toInt := by rw [hL.1]
  have h3t : (I 0 11).toInt = (I 61 2).toInt := by rw [hN.1]
  have l9 := hL.2.2
  by_cases P : (0 ≤ b.toInt ∧ b.toInt < (I 61 3).toInt) ∧ 0 ≤ c.toInt ∧ c.toInt < 3
  · by_cases Q : 0 ≤ e.toInt ∧ e.toInt ≤ (I 61 2).toInt
    · have eb := nv_of P.1.1
      have ec := nv_of P.2.1
      have nb := nv_int P.1.1
      have nc := nv_int P.2.1
      have n3 := nv_int hL.2.1
      rw [← eb, ← ec]
      exact unpaid_good xs L d I J X (nv b) (nv c) e ⟨hB, hK, hRt, hT, hW⟩ (by omega) (by omega) Q
    · have nd2 := needLand_ok xs L (d + 7 + 5) (by omega) I J X b (by omega)
      have nd3 := need_ok xs L (d + 7 + 5) (by omega) I J X c 3 (by
        have : (3 : Int32).toInt = 3 := by decide
        omega)
      have nd4 := known_no xs L (d + 7 + 5) (by omega) I J X e (by omega)
      refine ⟨zup (zup I 61 1 0) 61 1 2, J, zXe X, ⟨2, 0, I, J, w227_x1 xs L (d + 8) I J X b c e I J (zXe X) ?_, ?_, zup_at, fun z => absurd z (by decide)⟩, zfr8_m (zfr8_m zfr8_rfl (by decide)) (by decide), rfl, hW, Or.inr rfl⟩
      · refine (zcS (S133_0 xs L (d + 7) I J X b c e)).trans ?_
        rw [nd2, zcw_v, T133_0_3_697 xs L (d + 7), nd3, zcw_v, T133_0_7_693 xs L (d + 7), nd4, zcw_x, zthr_P rfl]
        rfl
      · refine (zcS (S204_0 xs L (d + 8) I J (zXe X) b c e)).trans ?_
        simp only [decide_eq_true_eq, zbi_eq0, i32_le, i32_lt, Int32.reduceToInt]
        rw [if_neg (by omega), if_neg (by omega), if_pos (by omega), if_neg (by omega)]
        rfl
  · refine ⟨zup (zup I 61 1 0) 61 1 1, J, zXe X, ⟨1, 0, I, J, w227_x0 xs L (d + 8) I J X b c e I J (zXe X) ?_, ?_, zup_at, fun z => absurd z (by decide)⟩, zfr8_m (zfr8_m zfr8_rfl (by decide)) (by decide), rfl, hW, Or.inr rfl⟩
    · refine (zcS (S133_0 xs L (d + 7) I J X b c e)).trans ?_
      by_cases c2 : 0 ≤ b.toInt ∧ b.toInt < (I 61 3).toInt
      · rw [needLand_ok xs L (d + 7 + 5) (by omega) I J X b (by omega), zcw_v, T133_0_3_697 xs L (d + 7), need_no xs L (d + 7 + 5) (by omega) I J X c 3 (by
          have : (3 : Int32).toInt = 3 := by decide
          omega), zcw_x, zthr_P rfl]
        rfl
      · rw [needLand_no xs L (d + 7 + 5) (by omega) I J X b (by omega), zcw_x, zthr_P rfl]
        rfl
    · refine (zcS (S204_0 xs L (d + 8) I J (zXe X) b c e)).trans ?_
      simp only [decide_eq_true_eq, zbi_eq0, i32_le, i32_lt, Int32.reduceToInt]
      by_cases c3 : ¬ (¬ b.toInt < 0 ∧ ¬ (I 61 3).toInt ≤ b.toInt)
      · rw [if_pos c3]
        rfl
      rw [if_neg c3]
      by_cases c4 : c.toInt < 0
      · rw [if_pos c4]
        rfl
      rw [if_neg c4, if_neg (by omega)]
      rfl
