/-! THE PURE PART: due, unpaid, falls on both sides. -/
def yAnl (xs : Nat → Int32) (L d W M : Nat) (as : List Value) (I : Nat → Nat → Int32) (J : Nat → Nat → Int64) (X : XH) (I2 : Nat → Nat → Int32) (J2 : Nat → Nat → Int64) (X2 : XH) : Prop :=
  ∃ k v I1 J1, zev xs L d W (.ref 0 :: as ++ [.ref 122]) (zmk I J X) = some (.inr (some (.int k)), zmk I1 J1 X2) ∧ zev xs L d M (.ref 61 :: as) (zmk I1 J1 X2) = some (.inr (some (.long v)), zmk I2 J2 X2) ∧ I2 61 1 = k ∧ (k = 0 → J2 122 0 = v)
def yAni (xs : Nat → Int32) (L d W M : Nat) (as : List Value) (I : Nat → Nat → Int32) (J : Nat → Nat → Int64) (X : XH) (I2 : Nat → Nat → Int32) (J2 : Nat → Nat → Int64) (X2 : XH) : Prop :=
  ∃ k v I1 J1, zev xs L d W (.ref 0 :: as ++ [.ref 122]) (zmk I J X) = some (.inr (some (.int k)), zmk I1 J1 X2) ∧ zev xs L d M (.ref 61 :: as) (zmk I1 J1 X2) = some (.inr (some (.int v)), zmk I2 J2 X2) ∧ I2 61 1 = k ∧ (k = 0 → J2 122 0 = v.toInt64)
/-- all that the queries rest on -/
def PQ (I : Nat → Nat → Int32) (X : XH) (C : Nat → List (Bool × List Int32)) : Prop := PB I ∧ PBlk I ∧ PRat I ∧ (∀ k, PTm I X C k) ∧ PWk I
theorem sub_ct (b : Nat) (h : b ∈ [33, 34, 49, 50, 51, 52]) : b ∈ yQ := by
  simp only [List.mem_cons, List.not_mem_nil, or_false] at h ⊢
  omega
theorem sub_mt (b : Nat) (h : b ∈ yfr) : b ∈ yQ := by
  simp only [List.mem_cons, List.not_mem_nil, or_false] at h ⊢
  omega
theorem sub_kt (b : Nat) (h : b ∈ [108, 109, 110]) : b ∈ yQ := by
  simp only [List.mem_cons, List.not_mem_nil, or_false] at h ⊢
  omega
theorem sub_t (b : Nat) (h : b ∈ [76, 77]) : b ∈ yT := List.mem_cons_of_mem _ h
/-- the heap's long rows after both sums -/
noncomputable abbrev yJs (I : Nat → Nat → Int32) (C : Nat → List (Bool × List Int32)) (k a : Int32) (J : Nat → Nat → Int64) : Nat → Nat → Int64 := yjo (yjo J 54 (ysum I C k a J).1) 55 (ysum I C k a J).2
theorem yJs_61 (I : Nat → Nat → Int32) (C : Nat → List (Bool × List Int32)) (k a : Int32) (J : Nat → Nat → Int64) (w : Int64) : (zup (yJs I C k a J) 122 0 w) 61 = J 61 := rfl
theorem due_good (xs : Nat → Int32) (L d : Nat) (I : Nat → Nat → Int32) (J : Nat → Nat → Int64) (X : XH) {C : Nat → List (Bool × List Int32)} (p l m : Nat) (e : Int32) (hQ : PQ I X C) (P : p < nv (I 61 5)) (Q : l < nv (I 61 3)) (R : m < 3) (hE : 0 ≤ e.toInt ∧ e.toInt ≤ (I 61 2).toInt) : ∃ I2 J2 X2, yAnl xs L (d + 14) 226 200 [.int (Int32.ofNat p), .int (Int32.ofNat l), .int (Int32.ofNat m), .int e] I J X I2 J2 X2 ∧ zfr8 yQ yT I I2 ∧ J2 61 = J 61 ∧ PWk I2 ∧ (X2 = X ∨ X2 = zXe X) := by
  obtain ⟨hB, hK, hRt, hT, hW⟩ := hQ
  have hN := hB.1
  have hL := hB.2.1
  have hF := hB.2.2.1
  have h1t : (I 9 0).toInt = (I 61 5).toInt := by rw [hF.1.1]
  have h2t : (I 1 0).toInt = (I 61 3).toInt := by rw [hL.1]
  have h3t : (I 0 11).toInt = (I 61 2).toInt := by rw [hN.1]
  have n3 := nv_int hL.2.1
  have n5 := nv_int hF.1.2.1
  have l9 := hL.2.2
  have p6 := hF.1.2.2
  have ep : (Int32.ofNat p).toInt = p := i32_toInt (by omega)
  have el : (Int32.ofNat l).toInt = l := i32_toInt (by omega)
  have em : (Int32.ofNat m).toInt = m := i32_toInt (by omega)
  have nd1 := need_ok xs L (d + 7 + 5) (by omega) I J X (Int32.ofNat p) (I 9 0) (by omega)
  have nd2 := needLand_ok xs L (d + 7 + 5) (by omega) I J X (Int32.ofNat l) (by omega)
  have nd3 := need_ok xs L (d + 7 + 5) (by omega) I J X (Int32.ofNat m) 3 (by
    have : (3 : Int32).toInt = 3 := by decide
    omega)
  have nd4 := known_ok xs L (d + 7 + 5) (by omega) I J X e (by omega)
  obtain ⟨H, s1, s2, s3, s4⟩ := sum_c xs L (d + 7 + 5) (by omega) J X e (Int32.ofNat p) (fun _ _ => rfl) hB hK (hT e) hW
  have hdu := dueFor_c xs L (d + 7 + 5) (by omega) (yJs I C e (Int32.ofNat p) J) X (C := C) e p l m hB hK hRt (by omega) (by omega) s2 J (by
    show yjo (yjo J 54 _) 55 _ 54 = _
    rw [yjo_ne (by decide), yjo_at])
  have hcls : zev xs L (d + 8 + 5) 129 [.ref 0, .int (Int32.ofNat p), .int (Int32.ofNat l), .int (Int32.ofNat m), .int e] (zmk I J X) = some (.inr (some (.long (ydu I C e p l m))), zmk H (yJs I C e (Int32.ofNat p) J) X) := by
    refine (zcS (S129_0 xs L (d + 7) I J X _ _ _ _)).trans ?_
    rw [nd1, zcw_v, T129_0_6_694 xs L (d + 7), nd2, zcw_v, T129_0_9_691 xs L (d + 7), nd3, zcw_v, T129_0_13_687 xs L (d + 7), nd4, zcw_v, T129_0_16_684 xs L (d + 7), s1, zcw_v, T129_0_20_680 xs L (d + 7), hdu, zcl_l, T129_0_26_674 xs L (d + 7)]
    rfl
  have fr0 : zfr8 [33, 34, 49, 50, 51, 52] [1] I (zup H 61 1 0) := zfr8_m (zfr8_sub s3 (fun _ h => h) (fun b h => by cases h)) (by decide)
  have fr1 : zfr8 yQ yT I (zup H 61 1 0) := zfr8_sub fr0 sub_ct (fun b h => by
    simp only [List.mem_cons, List.not_mem_nil, or_false] at h
    rw [h]
    decide)
  obtain ⟨J1, hJ1⟩ : ∃ J1, J1 = zup (yJs I C e (Int32.ofNat p) J) 122 0 (ydu I C e p l m) := ⟨_, rfl⟩
  obtain ⟨M1, k1, k2, k3⟩ := know_m xs L (d + 8 + 5) (by omega) J1 X e (yMV_q fr0) (PB_q fr1 hB)
  obtain ⟨M2, m1, m2⟩ := dueOf_m xs L (d + 8 + 5) (by omega) J1 X e p l m hB hK hRt (hT e) (by omega) (by omega) (by omega) k2
  have fr2 : zfr8 yQ yT I M2 := zfr8_tr (zfr8_tr fr1 k3 sub_kt (fun b h => by cases h)) m2 sub_mt sub_t
  have i61 : ∀ j, H 61 j = I 61 j := fun j => s3.2 j (fun h => by cases h)
  refine ⟨M2, J1, X, ⟨0, ydu I C e p l m, H, J1, ?_, ?_, ?_, fun _ => ?_⟩, fr2, ?_, ?_, Or.inl rfl⟩
  · rw [hJ1]
    exact w226_ok xs L (d + 8) I J X _ _ _ e H _ X _ hcls
  · refine (zcS (S200_0 xs L (d + 8) H J1 X _ _ _ e)).trans ?_
    simp only [decide_eq_true_eq, zbi_eq0, i32_le, i32_lt, Int32.reduceToInt, i61]
    rw [if_neg (by omega), if_neg (by omega), if_neg (by omega), if_neg (by omega), if_pos (by omega), if_pos (by omega), k1, zcw_v, T200_3_3_675 xs L (d + 8), m1, zcl_l, T200_3_9_669 xs L (d + 8)]
    rfl
  · rw [m2.2 1 (by decide), k3.2 1 (by decide)]
    exact zup_at
  · rw [hJ1]
    exact zup_at
  · rw [hJ1]
    exact yJs_61 _ _ _ _ _ _
  · have e49 : M2 49 = H 49 := by
      rw [m2.1 49 (by decide) (by decide), k3.1 49 (by decide) (by decide)]
      rfl
    unfold PWk
    rw [e49]
    exact s4
theorem a_due (xs : Nat → Int32) (L d : Nat) (I : Nat → Nat → Int32) (J : Nat → Nat → Int64) (X : XH) {C : Nat → List (Bool × List Int32)} (a b c e : Int32) (hQ : PQ I X C) : ∃ I2 J2 X2, yAnl xs L (d + 14) 226 200 [.int a, .int b, .int c, .int e] I J X I2 J2 X2 ∧ zfr8 yQ yT I I2 ∧ J2 61 = J 61 ∧ PWk I2 ∧ (X2 = X ∨ X2 = zXe X) := by
  obtain ⟨hB, hK, hRt, hT, hW⟩ := hQ
  have hN := hB.1
  have hL := hB.2.1
  have hF := hB.2.2.1
  have h1t : (I 9 0).toInt = (I 61 5).toInt := by rw [hF.1.1]
  have h2t : (I 1 0).toInt = (I 61 3).toInt := by rw [hL.1]
  have h3t : (I 0 11).toInt = (I 61 2).toInt := by rw [hN.1]
  have l9 := hL.2.2
  have p6 := hF.1.2.2
  by_cases P : (0 ≤ a.toInt ∧ a.toInt < (I 61 5).toInt) ∧ (0 ≤ b.toInt ∧ b.toInt < (I 61 3).toInt) ∧ 0 ≤ c.toInt ∧ c.toInt < 3
  · have nd1 := need_ok xs L (d + 7 + 5) (by omega) I J X a (I 9 0) (by omega)
    have nd2 := needLand_ok xs L (d + 7 + 5) (by omega) I J X b (by omega)
    have nd3 := need_ok xs L (d + 7 + 5) (by omega) I J X c 3 (by
      have : (3 : Int32).toInt = 3 := by decide
      omega)
    by_cases Q : 0 ≤ e.toInt ∧ e.toInt ≤ (I 61 2).toInt
    · have ea := nv_of P.1.1
      have eb := nv_of P.2.1.1
      have ec := nv_of P.2.2.1
      have na := nv_int P.1.1
      have nb := nv_int P.2.1.1
      have nc := nv_int P.2.2.1
      have n3 := nv_int hL.2.1
      have n5 := nv_int hF.1.2.1
      rw [← ea, ← eb, ← ec]
      exact due_good xs L d I J X (nv a) (nv b) (nv c) e ⟨hB, hK, hRt, hT, hW⟩ (by omega) (by omega) (by omega) Q
    · have nd4 := known_no xs L (d + 7 + 5) (by omega) I J X e (by omega)
      refine ⟨zup (zup I 61 1 0) 61 1 2, J, zXe X, ⟨2, Int32.toInt64 0, I, J, w226_x1 xs L (d + 8) I J X a b c e I J (zXe X) ?_, ?_, zup_at, fun z => absurd z (by decide)⟩, zfr8_m (zfr8_m zfr8_rfl (by decide)) (by decide), rfl, hW, Or.inr rfl⟩
      · refine (zcS (S129_0 xs L (d + 7) I J X a b c e)).trans ?_
        rw [nd1, zcw_v, T129_0_6_694 xs L (d + 7), nd2, zcw_v, T129_0_9_691 xs L (d + 7), nd3, zcw_v, T129_0_13_687 xs L (d + 7), nd4, zcw_x, zthr_P rfl]
        rfl
      · refine (zcS (S200_0 xs L (d + 8) I J (zXe X) a b c e)).trans ?_
        simp only [decide_eq_true_eq, zbi_eq0, i32_le, i32_lt, Int32.reduceToInt]
        rw [if_neg (by omega), if_neg (by omega), if_neg (by omega), if_neg (by omega), if_pos (by omega), if_neg (by omega)]
        rfl
  · refine ⟨zup (zup I 61 1 0) 61 1 1, J, zXe X, ⟨1, Int32.toInt64 0, I, J, w226_x0 xs L (d + 8) I J X a b c e I J (zXe X) ?_, ?_, zup_at, fun z => absurd z (by decide)⟩, zfr8_m (zfr8_m zfr8_rfl (by decide)) (by decide), rfl, hW, Or.inr rfl⟩
    · refine (zcS (S129_0 xs L (d + 7) I J X a b c e)).trans ?_
      by_cases c1 : 0 ≤ a.toInt ∧ a.toInt < (I 61 5).toInt
      · rw [need_ok xs L (d + 7 + 5) (by omega) I J X a (I 9 0) (by omega), zcw_v, T129_0_6_694 xs L (d + 7)]
        by_cases c2 : 0 ≤ b.toInt ∧ b.toInt < (I 61 3).toInt
        · rw [needLand_ok xs L (d + 7 + 5) (by omega) I J X b (by omega), zcw_v, T129_0_9_691 xs L (d + 7), need_no xs L (d + 7 + 5) (by omega) I J X c 3 (by
            have : (3 : Int32).toInt = 3 := by decide
            omega), zcw_x, zthr_P rfl]
          rfl
        · rw [needLand_no xs L (d + 7 + 5) (by omega) I J X b (by omega), zcw_x, zthr_P rfl]
          rfl
      · rw [need_no xs L (d + 7 + 5) (by omega) I J X a (I 9 0) (by omega), zcw_x, zthr_P rfl]
        rfl
    · refine (zcS (S200_0 xs L (d + 8) I J (zXe X) a b c e)).trans ?_
      simp only [decide_eq_true_eq, zbi_eq0, i32_le, i32_lt, Int32.reduceToInt]
      by_cases c1 : a.toInt < 0
      · rw [if_pos c1]
        rfl
      rw [if_neg c1]
      by_cases c2 : (I 61 5).toInt ≤ a.toInt
      · rw [if_pos c2]
        rfl
      rw [if_neg c2]
      by_cases c3 : ¬ (¬ b.toInt < 0 ∧ ¬ (I 61 3).toInt ≤ b.toInt)
      · rw [if_pos c3]
        rfl
      rw [if_neg c3]
      by_cases c4 : c.toInt < 0
      · rw [if_pos c4]
        rfl
      rw [if_neg c4, if_neg (by omega)]
      rfl
