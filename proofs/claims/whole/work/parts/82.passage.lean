/-! THE PURE PART: passage on both sides. -/
theorem psg_m (xs : Nat → Int32) (L d : Nat) (I Hc : Nat → Nat → Int32) (J : Nat → Nat → Int64) (X : XH) {C : Nat → List (Bool × List Int32)} (b : Nat) (t w e : Int32) (hB : PB I) (hK : PBlk I) (hT : PTm I X C e) (P : b < nv (I 61 7)) (hw : 0 ≤ w.toInt ∧ w.toInt ≤ 6) (hE : 0 ≤ e.toInt ∧ e.toInt ≤ (I 61 2).toInt) (frc : zfr8 [33, 34, 49, 50, 51, 52] [] I Hc) : ∃ M2, zfr8 yQ yT I M2 ∧ M2 61 1 = 0 ∧ M2 49 = Hc 49 ∧ (0 ≤ t.toInt → ∀ y, ypw I (fun _ => 0) (ytk I e b) (nv t) = some y → zev xs L (d + 14) 198 [.ref 61, .int (Int32.ofNat b), .int t, .int w, .int e] (zmk Hc J X) = some (.inr (some (.int (ypv I C e b w y.1 y.2))), zmk M2 J X)) ∧ ((t.toInt < 0 ∨ ypw I (fun _ => 0) (ytk I e b) (nv t) = none) → zev xs L (d + 14) 198 [.ref 61, .int (Int32.ofNat b), .int t, .int w, .int e] (zmk Hc J X) = some (.inr (some (.int 0)), zmk (zup M2 61 1 1) J X)) := by
  have hF := hB.2.2.1
  have n7 := nv_int hF.2.2.1.2.1
  have p24 := hF.2.2.1.2.2
  have eb : (Int32.ofNat b).toInt = b := i32_toInt (by omega)
  have fr0 : zfr8 [33, 34, 49, 50, 51, 52] [1] I (zup Hc 61 1 0) := zfr8_m (zfr8_sub frc (fun _ h => h) (fun b h => by cases h)) (by decide)
  have fr1 : zfr8 yQ yT I (zup Hc 61 1 0) := zfr8_sub fr0 sub_ct (fun b h => by
    simp only [List.mem_cons, List.not_mem_nil, or_false] at h
    rw [h]
    decide)
  obtain ⟨M1, k1, k2, k3⟩ := know_m xs L (d + 8 + 5) (by omega) J X e (yMV_q fr0) (PB_q fr1 hB)
  obtain ⟨M2, m1, ⟨m76, mr3⟩, m77, mric, m2, mlen, mbr⟩ := track_m xs L (d + 8 + 5) (by omega) J X e b hB k2 hT P
  have fr2 : zfr8 yQ yT I M2 := zfr8_tr (zfr8_tr fr1 k3 sub_kt (fun b h => by cases h)) m2 sub_mt sub_t
  have i61 : ∀ j, Hc 61 j = I 61 j := fun j => frc.2 j (fun h => by cases h)
  have S := zcS (as := [.ref 61, .int (Int32.ofNat b), .int t, .int w, .int e]) (S198_0 xs L (d + 8) Hc J X (Int32.ofNat b) t w e)
  simp only [decide_eq_true_eq, zbi_eq0, i32_le, i32_lt, Int32.reduceToInt, i61] at S
  rw [if_neg (by omega), if_neg (by omega), if_pos (by omega), if_pos (by omega), k1, zcw_v, T198_3_3_681 xs L (d + 8), m1, zcw_v, T198_3_7_677 xs L (d + 8)] at S
  have e22 : M2 61 22 = I 61 22 := by rw [m2.2 22 (by decide), k2.2.1 22 (by decide)]
  have g : ∀ j, j ∈ [84, 85, 86, 91] → M2 j = I j := fun j hj => by
    simp only [List.mem_cons, List.not_mem_nil, or_false] at hj
    rw [m2.1 j (fun z => by
      simp only [List.mem_cons, List.not_mem_nil, or_false] at z
      omega) (by omega), k2.1 j (by omega) (by omega) (fun z => by
      simp only [List.mem_cons, List.not_mem_nil, or_false] at z
      omega)]
  have bm := fun u => black_m xs L (d + 8 + 5) (by omega) J X e (Int32.ofNat b) u hK e22 (g 84 (by decide)) (g 85 (by decide)) (g 86 (by decide)) (g 91 (by decide))
  refine ⟨M2, fr2, ?_, ?_, fun ht y hy => ?_, fun ht => ?_⟩
  · rw [m2.2 1 (by decide), k3.2 1 (by decide)]
    exact zup_at
  · rw [m2.1 49 (by decide) (by decide), k3.1 49 (by decide) (by decide)]
    rfl
  · have et := nv_int ht
    rcases ypw_rows (C := C) (b := b) (ytk I e b) 0 (nv t) (fun _ => 0) mr3 mric (fun x hx => (ytk_ok hB e b x hx).1) with ⟨h1, h2⟩ | ⟨h1, x, g, h2, hx, ⟨r1, r2, r3⟩, r4, r5, r6⟩
    · rw [h2] at hy
      cases hy
    · rw [h2] at hy
      cases hy
      rw [Nat.zero_add] at r1 r2 r3 r4 r5 r6
      have hz : ∀ q, zix q 8000 q t := fun q => by
        rw [← nv_of ht]
        exact zix_nat rfl (by omega) (by omega)
      rw [if_neg (fun z => by
        have z := i32_lt.mp (of_decide_eq_true z)
        have : (0 : Int32).toInt = 0 := by decide
        omega), m76, if_pos (decide_eq_true (i32_lt.mpr (by
        rw [i32_toInt (by omega)]
        omega)))] at S
      refine S.trans ?_
      have r1 : M2 112 t.toNatClampNeg = _ := r1
      have r2 : M2 113 t.toNatClampNeg = _ := r2
      have r3 : M2 114 t.toNatClampNeg = _ := r3
      have r4 : M2 118 t.toNatClampNeg = _ := r4
      have r5 : M2 116 t.toNatClampNeg = _ := r5
      have r6 : M2 115 t.toNatClampNeg = _ := r6
      show _ = some (Sum.inr (some (Value.int (ypv I C e b w x g))), zmk M2 J X)
      unfold ypv
      by_cases c0 : w = 0
      · rw [if_pos c0, if_pos (hz 0), r1, if_pos c0]
        rfl
      rw [if_neg c0, if_neg c0]
      by_cases c1 : w = 1
      · rw [if_pos c1, if_pos (hz 0), r2, if_pos c1]
        rfl
      rw [if_neg c1, if_neg c1]
      by_cases c2 : w = 2
      · rw [if_pos c2, if_pos (hz 0), r6, if_pos c2]
        rfl
      rw [if_neg c2, if_neg c2]
      by_cases c3 : w = 3
      · rw [if_pos c3, if_pos (hz 0), r3, if_pos c3]
        rfl
      rw [if_neg c3, if_neg c3]
      by_cases c4 : w = 4
      · rw [if_pos c4, if_pos (hz 1), r4, if_pos c4]
        by_cases q : x.2.2.2 = true
        · rw [if_pos q, if_neg (by decide)]
          rfl
        · rw [if_neg q, if_pos (by decide)]
          rfl
      rw [if_neg c4, if_neg c4]
      by_cases c5 : w = 5
      · rw [if_pos c5, if_pos (hz 0), r5, if_pos c5]
        rfl
      rw [if_neg c5, if_neg c5, if_pos (hz 0), r2, bm x.2.1, zci_i, T198_12_8_661 xs L (d + 8)]
      show zth xs L _ 198 (if decide (ybx I e b x = 0) = true then _ else _) = _
      by_cases q : ybx I e b x = 0
      · rw [if_pos (decide_eq_true q), if_pos q]
        rfl
      · rw [if_neg (fun z => q (of_decide_eq_true z)), if_neg q]
        rfl
  · refine S.trans ?_
    by_cases ht0 : t.toInt < 0
    · rw [if_pos (decide_eq_true (i32_lt.mpr (by
        have : (0 : Int32).toInt = 0 := by decide
        omega)))]
      rfl
    · have et := nv_int (x := t) (by omega)
      rw [if_neg (fun z => by
        have z := i32_lt.mp (of_decide_eq_true z)
        have : (0 : Int32).toInt = 0 := by decide
        omega), m76, if_neg (fun z => by
        have z := i32_lt.mp (of_decide_eq_true z)
        rw [i32_toInt (by omega)] at z
        rcases ypw_rows (C := C) (b := b) (ytk I e b) 0 (nv t) (fun _ => 0) mr3 mric (fun x hx => (ytk_ok hB e b x hx).1) with ⟨h1, h2⟩ | ⟨h1, x, g, h2, _⟩
        · omega
        · rcases ht with ht | ht
          · exact ht0 ht
          · rw [h2] at ht
            cases ht)]
      rfl
theorem passage_good (xs : Nat → Int32) (L d : Nat) (I : Nat → Nat → Int32) (J : Nat → Nat → Int64) (X : XH) {C : Nat → List (Bool × List Int32)} (b : Nat) (t w e : Int32) (hQ : PQ I X C) (P : b < nv (I 61 7)) (hw : 0 ≤ w.toInt ∧ w.toInt ≤ 6) (hE : 0 ≤ e.toInt ∧ e.toInt ≤ (I 61 2).toInt) : ∃ I2 J2 X2, yAni xs L (d + 14) 225 198 [.int (Int32.ofNat b), .int t, .int w, .int e] I J X I2 J2 X2 ∧ zfr8 yQ yT I I2 ∧ J2 61 = J 61 ∧ PWk I2 ∧ (X2 = X ∨ X2 = zXe X) := by
  obtain ⟨hB, hK, hRt, hT, hW⟩ := hQ
  have hN := hB.1
  have hF := hB.2.2.1
  have hRd := hB.2.2.2.2.2.1
  have h1t : (I 9 2).toInt = (I 61 7).toInt := by rw [hF.2.2.1.1]
  have h3t : (I 0 11).toInt = (I 61 2).toInt := by rw [hN.1]
  have n7 := nv_int hF.2.2.1.2.1
  have p24 := hF.2.2.1.2.2
  have eb : (Int32.ofNat b).toInt = b := i32_toInt (by omega)
  have h7 : (7 : Int32).toInt = 7 := by decide
  have h72 : (7200 : Int32).toInt = 7200 := by decide
  have nd1 := need_ok xs L (d + 7 + 5) (by omega) I J X (Int32.ofNat b) (I 9 2) (by omega)
  have nd3 := need_ok xs L (d + 7 + 5) (by omega) I J X w 7 (by omega)
  have nd4 := known_ok xs L (d + 7 + 5) (by omega) I J X e (by omega)
  by_cases T : 0 ≤ t.toInt ∧ t.toInt < 7200
  · have nd5 := need_ok xs L (d + 7 + 5) (by omega) I J X t 7200 (by omega)
    have et := nv_int T.1
    have eo := nv_of T.1
    obtain ⟨H, s1, s2, s3⟩ := know_c xs L (d + 7 + 5) (by omega) J X e (fun _ _ => rfl) hB (hT e)
    have hWH := PWk_fr s3 (by decide) hW
    obtain ⟨H1, t1, t2, t3, t4⟩ := start_y xs L (d + 7 + 5) (by omega) J X e (Int32.ofNat b) hB s2 hWH
    have hC1 := zCH_fr s2 (zfr8_sub (S := [49, 50, 51, 52]) (T := []) t2 (fun b h => List.mem_append_left [51, 52] h) (fun _ h => h))
    obtain ⟨H2, u1, u2, u3⟩ := psg_loop xs L (d + 1) J X (C := C) e w b (ybr I e b) hw hB hK (hT e) P (ytk I e b) 0 (nv t) (fun _ => 0) H1 t4 hC1 t3 (by omega)
    rw [Nat.zero_add, eo] at u1
    have hcl0 : zev xs L (d + 8 + 5) 127 [.ref 0, .int (Int32.ofNat b), .int t, .int w, .int e] (zmk I J X) = zgo xs L (d + 1 + 6 + 5) 127 2 [(0, .ref 0), (1, .int (Int32.ofNat b)), (2, .int t), (3, .int w), (4, .int e), (5, .int (Int32.ofNat 0))] (zmk H1 J X) := by
      refine (zcS (S127_0 xs L (d + 7) I J X _ _ _ _)).trans ?_
      rw [nd1, zcw_v, T127_0_6_694 xs L (d + 7), nd3, zcw_v, T127_0_10_690 xs L (d + 7), nd4, zcw_v, T127_0_13_687 xs L (d + 7), nd5, zcw_v, T127_0_17_683 xs L (d + 7), s1, zcw_v, T127_0_21_679 xs L (d + 7), t1, zcw_v, T127_0_26_674 xs L (d + 7), zth_go]
      rfl
    have hcls := hcl0.trans u1
    have frc : zfr8 [33, 34, 49, 50, 51, 52] [] I H2 := zfr8_tr (zfr8_tr (zfr8_sub s3 (fun b h => List.mem_append_left [49, 50, 51, 52] h) (fun _ h => h)) t2 (fun b h => by
      simp only [List.mem_cons, List.not_mem_nil, or_false] at h ⊢
      omega) (fun _ h => h)) u2 (fun b h => List.mem_append_right [33, 34] h) (fun _ h => h)
    cases hy : ypw I (fun _ => 0) (ytk I e b) (nv t) with
    | none =>
      rw [hy] at hcls
      obtain ⟨M2, f1, f2, f3, f4, f5⟩ := psg_m xs L d I H2 J (zXe X) (C := C) b t w e hB hK (hT e) P hw hE frc
      refine ⟨zup M2 61 1 1, J, zXe X, ⟨1, 0, H2, J, w225_x0 xs L (d + 8) I J X _ t w e H2 J (zXe X) hcls, f5 (Or.inr hy), zup_at, fun z => absurd z (by decide)⟩, zfr8_m f1 (by decide), rfl, ?_, Or.inr rfl⟩
      show 0 ≤ (M2 49 12).toInt ∧ (M2 49 12).toInt ≤ 23
      rw [f3]
      exact u3
    | some y =>
      rw [hy] at hcls
      obtain ⟨J1, hJ1⟩ : ∃ J1, J1 = zup J 122 0 (ypv I C e b w y.1 y.2).toInt64 := ⟨_, rfl⟩
      obtain ⟨M2, f1, f2, f3, f4, f5⟩ := psg_m xs L d I H2 J1 X (C := C) b t w e hB hK (hT e) P hw hE frc
      refine ⟨M2, J1, X, ⟨0, ypv I C e b w y.1 y.2, H2, J1, ?_, f4 T.1 y hy, f2, fun _ => ?_⟩, f1, ?_, ?_, Or.inl rfl⟩
      · rw [hJ1]
        exact w225_ok xs L (d + 8) I J X _ t w e H2 _ X _ hcls
      · rw [hJ1]
        exact zup_at
      · rw [hJ1]
        rfl
      · unfold PWk
        rw [f3]
        exact u3
  · have nd5 := need_no xs L (d + 7 + 5) (by omega) I J X t 7200 (by omega)
    obtain ⟨M2, f1, f2, f3, f4, f5⟩ := psg_m xs L d I I J (zXe X) (C := C) b t w e hB hK (hT e) P hw hE zfr8_rfl
    refine ⟨zup M2 61 1 1, J, zXe X, ⟨1, 0, I, J, w225_x0 xs L (d + 8) I J X _ t w e I J (zXe X) ?_, f5 ?_, zup_at, fun z => absurd z (by decide)⟩, zfr8_m f1 (by decide), rfl, ?_, Or.inr rfl⟩
    · refine (zcS (S127_0 xs L (d + 7) I J X _ _ _ _)).trans ?_
      rw [nd1, zcw_v, T127_0_6_694 xs L (d + 7), nd3, zcw_v, T127_0_10_690 xs L (d + 7), nd4, zcw_v, T127_0_13_687 xs L (d + 7), nd5, zcw_x, zthr_P rfl]
      rfl
    · by_cases ht : t.toInt < 0
      · exact Or.inl ht
      · have et := nv_int (x := t) (by omega)
        have hl := ytk_len hB e b
        refine Or.inr ?_
        cases hy : ypw I (fun _ => 0) (ytk I e b) (nv t) with
        | none => rfl
        | some y =>
          exfalso
          have : ∀ (l : List ZP) (m : Nat) (G : Nat → Int32) (y : ZP × Int32), ypw I G l m = some y → m < l.length := by
            intro l
            induction l with
            | nil =>
              intro m G y h
              cases h
            | cons x l ih =>
              intro m G y h
              rw [List.length_cons]
              cases m with
              | zero => omega
              | succ m =>
                have := ih m _ y h
                omega
          have := this _ _ _ _ hy
          omega
    · show 0 ≤ (M2 49 12).toInt ∧ (M2 49 12).toInt ≤ 23
      rw [f3]
      exact hW
theorem a_passage (xs : Nat → Int32) (L d : Nat) (I : Nat → Nat → Int32) (J : Nat → Nat → Int64) (X : XH) {C : Nat → List (Bool × List Int32)} (a t w e : Int32) (hQ : PQ I X C) : ∃ I2 J2 X2, yAni xs L (d + 14) 225 198 [.int a, .int t, .int w, .int e] I J X I2 J2 X2 ∧ zfr8 yQ yT I I2 ∧ J2 61 = J 61 ∧ PWk I2 ∧ (X2 = X ∨ X2 = zXe X) := by
  obtain ⟨hB, hK, hRt, hT, hW⟩ := hQ
  have hN := hB.1
  have hF := hB.2.2.1
  have h1t : (I 9 2).toInt = (I 61 7).toInt := by rw [hF.2.2.1.1]
  have h3t : (I 0 11).toInt = (I 61 2).toInt := by rw [hN.1]
  have h7 : (7 : Int32).toInt = 7 := by decide
  by_cases P : (0 ≤ a.toInt ∧ a.toInt < (I 61 7).toInt) ∧ 0 ≤ w.toInt ∧ w.toInt ≤ 6
  · by_cases Q : 0 ≤ e.toInt ∧ e.toInt ≤ (I 61 2).toInt
    · have ea := nv_of P.1.1
      have na := nv_int P.1.1
      have n7 := nv_int hF.2.2.1.2.1
      rw [← ea]
      exact passage_good xs L d I J X (nv a) t w e ⟨hB, hK, hRt, hT, hW⟩ (by omega) P.2 Q
    · have nd1 := need_ok xs L (d + 7 + 5) (by omega) I J X a (I 9 2) (by omega)
      have nd3 := need_ok xs L (d + 7 + 5) (by omega) I J X w 7 (by omega)
      have nd4 := known_no xs L (d + 7 + 5) (by omega) I J X e (by omega)
      refine ⟨zup (zup I 61 1 0) 61 1 2, J, zXe X, ⟨2, 0, I, J, w225_x1 xs L (d + 8) I J X a t w e I J (zXe X) ?_, ?_, zup_at, fun z => absurd z (by decide)⟩, zfr8_m (zfr8_m zfr8_rfl (by decide)) (by decide), rfl, hW, Or.inr rfl⟩
      · refine (zcS (S127_0 xs L (d + 7) I J X a t w e)).trans ?_
        rw [nd1, zcw_v, T127_0_6_694 xs L (d + 7), nd3, zcw_v, T127_0_10_690 xs L (d + 7), nd4, zcw_x, zthr_P rfl]
        rfl
      · refine (zcS (S198_0 xs L (d + 8) I J (zXe X) a t w e)).trans ?_
        simp only [decide_eq_true_eq, zbi_eq0, i32_le, i32_lt, Int32.reduceToInt]
        rw [if_neg (by omega), if_neg (by omega), if_pos (by omega), if_neg (by omega)]
        rfl
  · refine ⟨zup (zup I 61 1 0) 61 1 1, J, zXe X, ⟨1, 0, I, J, w225_x0 xs L (d + 8) I J X a t w e I J (zXe X) ?_, ?_, zup_at, fun z => absurd z (by decide)⟩, zfr8_m (zfr8_m zfr8_rfl (by decide)) (by decide), rfl, hW, Or.inr rfl⟩
    · refine (zcS (S127_0 xs L (d + 7) I J X a t w e)).trans ?_
      by_cases c2 : 0 ≤ a.toInt ∧ a.toInt < (I 61 7).toInt
      · rw [need_ok xs L (d + 7 + 5) (by omega) I J X a (I 9 2) (by omega), zcw_v, T127_0_6_694 xs L (d + 7), need_no xs L (d + 7 + 5) (by omega) I J X w 7 (by omega), zcw_x, zthr_P rfl]
        rfl
      · rw [need_no xs L (d + 7 + 5) (by omega) I J X a (I 9 2) (by omega), zcw_x, zthr_P rfl]
        rfl
    · refine (zcS (S198_0 xs L (d + 8) I J (zXe X) a t w e)).trans ?_
      simp only [decide_eq_true_eq, zbi_eq0, i32_le, i32_lt, Int32.reduceToInt]
      by_cases c3 : ¬ (¬ a.toInt < 0 ∧ ¬ (I 61 7).toInt ≤ a.toInt)
      · rw [if_pos c3]
        rfl
      rw [if_neg c3]
      by_cases c4 : w.toInt < 0
      · rw [if_pos c4]
        rfl
      rw [if_neg c4, if_neg (by omega)]
      rfl
