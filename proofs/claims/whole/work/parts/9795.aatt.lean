/-! THE PURE PART: terms under trial: the call of the law. -/
theorem try_e {I I2 : Nat → Nat → Int32} {J : Nat → Nat → Int64} {X : XH} (h : zfr8 [] [1] I I2) (hP : PTape I) (hW : PWk I) (h54 : I 61 54 = -1) : yTry I J X I2 J (zXe X) := by
  refine ⟨⟨fun q _ q6 => h.1 q (fun z => by cases z) q6, fun k hk => h.2 k (fun z => hk (by
    rw [List.mem_singleton.mp z]
    decide))⟩, ?_, PTape_fr h (by decide) (by decide) hP, PWk_fr h (by decide) hW, ?_, ?_, ?_, Nat.le_refl _, ?_, ?_⟩
  · rw [h.1 0 (fun z => by cases z) (by decide)]
  · rw [h.2 54 (by decide), h54]
  · rw [h.1 0 (fun z => by cases z) (by decide), h.2 67 (by decide)]
    exact fun z => z
  · rw [h.1 0 (fun z => by cases z) (by decide)]
    exact fun z => z
  · show X.2.2.2.1 + 1 ≤ _
    omega
  · show X.2.2.2.2 + 6 ≤ _
    omega
theorem a_attempt (xs : Nat → Int32) (L d : Nat) (I : Nat → Nat → Int32) (J : Nat → Nat → Int64) (X : XH) {C : Nat → List (Bool × List Int32)} (a b c : Int32) (hB : PB I) (hK : PBlk I) (hW : PWk I) (hP : PTape I) (hT : PT I X C) (h54 : I 61 54 = -1) : ∃ I2 J2 X2, yAni xs L (d + 56) 231 210 [.int a, .int b, .int c] I J X I2 J2 X2 ∧ PT I2 X2 C ∧ yTry I J X I2 J2 X2 := by
  have hN := hB.1
  have hL := hB.2.1
  have hx : PTx I := hB.2.2.2.2.2.2
  have hLt : (I 1 0).toInt = (I 61 3).toInt := by rw [hL.1]
  have h57t : (I 35 1).toInt = (I 61 57).toInt := by rw [hP.1.1]
  have n3 := nv_int hL.2.1
  have n57 := nv_int hP.1.2.1
  have hL9 := hL.2.2
  have hP400 := hP.1.2.2
  by_cases P : 0 ≤ a.toInt ∧ a.toInt < (I 1 0).toInt
  · by_cases Q : 0 ≤ b.toInt ∧ b.toInt ≤ (I 35 1).toInt
    · by_cases R : 0 ≤ c.toInt ∧ c.toInt ≤ 129599
      · obtain ⟨l, hl⟩ : ∃ l, l = nv a := ⟨_, rfl⟩
        have el : a = Int32.ofNat l := by rw [hl, nv_of P.1]
        obtain ⟨n, hn⟩ : ∃ n, n = nv b := ⟨_, rfl⟩
        have en : b = Int32.ofNat n := by rw [hn, nv_of Q.1]
        have na := nv_int P.1
        have nb := nv_int Q.1
        have hbytes : ∀ i, i < n → 0 ≤ (I 36 i).toInt ∧ (I 36 i).toInt ≤ 255 := fun i hi => by
          rw [hP.2.1]
          exact hP.2.2 i (by omega)
        obtain ⟨r, H', c1, c2, c3, c4⟩ := read_two xs L (d + 44) (d + 54) (by omega) J X (H := I) (T := I 36) (n := n) (by omega) rfl hbytes
        rw [show d + 44 + 3 + 6 = d + 53 by omega, ← en] at c1
        have h92 := hx l (by omega)
        by_cases r0 : r = 0
        · subst r0
          rw [el, en]
          rw [en] at c1
          refine att_good xs L d I J X l (nv (I 92 l)) n c hB hK hW hP hT h54 (by omega) (nv_of h92.1).symm (by
            have := nv_int h92.1
            omega) (by omega) R c1 c2 (fun M Jm Xm hM => ?_)
          obtain ⟨M', e1, e2, e3⟩ := c4 M Jm Xm 36 (by decide) hM
          rcases e3 with ⟨⟨q, _⟩, _⟩ | ⟨_, e4, e5⟩
          · exact absurd rfl q
          · exact ⟨M', e1, e2, e4, e5⟩
        · have r9 : ¬ r = 9 := by
            obtain ⟨_, _, hmid⟩ := c4 (fun _ => I 36) J X 0 (by decide) rfl
            rcases hmid.2 with ⟨⟨_, q⟩, _⟩ | ⟨q, _⟩
            · exact q
            · exact absurd q r0
          have hcls := fail_c xs L d (I := I) (H' := H') (J := J) (X := X) a b c r P Q R c1 ⟨r0, r9⟩
          obtain ⟨I1, hI1⟩ : ∃ I1, I1 = zup (zup H' 0 12 (H' 35 3)) 35 1 0 := ⟨_, rfl⟩
          rw [← hI1] at hcls
          obtain ⟨J2, hJ2⟩ : ∃ J2, J2 = zup J 122 0 r.toInt64 := ⟨_, rfl⟩
          have o : ∀ q, q ≠ 0 → q ≠ 35 → q ≠ 37 → q ≠ 38 → I1 q = I q := fun q q0 q2 q3 q4 => by
            rw [hI1]
            exact (if_neg q2).trans ((if_neg q0).trans (c2 q q2 q3 q4))
          have o61 : I1 61 = I 61 := o 61 (by decide) (by decide) (by decide) (by decide)
          obtain ⟨M1, hM1⟩ : ∃ M1, M1 = zup (zup (zup I1 61 1 0) 61 57 0) 61 67 (-1) := ⟨_, rfl⟩
          have p : ∀ q, q ≠ 61 → M1 q = I1 q := fun q q1 => by
            rw [hM1]
            exact (if_neg q1).trans ((if_neg q1).trans (if_neg q1))
          have p61 : ∀ k, k ≠ 1 → k ≠ 57 → k ≠ 67 → M1 61 k = I 61 k := fun k k1 k2 k3 => by
            rw [hM1]
            exact (zup_k k3).trans ((zup_k k2).trans ((zup_k k1).trans (by rw [o61])))
          have p104 : M1 104 = I 36 := by rw [p 104 (by decide), o 104 (by decide) (by decide) (by decide) (by decide), hP.2.1]
          obtain ⟨M', e1, e2, e3⟩ := c4 M1 J2 X 36 (by decide) p104
          rcases e3 with ⟨_, pl, ⟨e4, e5⟩, e6⟩ | ⟨q, _⟩
          · have q61 : ∀ k, k ∉ [58, 59, 60, 61, 62, 63, 64, 65, 66, 67, 68] → M' 61 k = M1 61 k := e2.2.1
            have s : ∀ q, q ∉ [0, 35, 37, 38, 61, 95, 96, 97, 98, 99, 100, 101] → M' q = I q := fun q hq => by
              simp only [List.mem_cons, List.not_mem_nil, or_false] at hq
              rw [e2.1 q (by simp only [List.mem_cons, List.not_mem_nil, or_false]; omega), p q (by omega), o q (by omega) (by omega) (by omega) (by omega)]
            have s1 : ∀ q, q ∈ [93, 94, 95, 96, 97, 98, 99, 100, 101] → M1 q = I q := fun q hq => by
              simp only [List.mem_cons, List.not_mem_nil, or_false] at hq
              rw [p q (by omega), o q (by omega) (by omega) (by omega) (by omega)]
            have hF : yFx 36 X.2.2.1 I M' := by
              refine ⟨fun q q1 q2 => s q (by simp only [List.mem_cons, List.not_mem_nil, or_false]; omega), fun q j hq hj => ?_, fun q j hq hj => ?_, fun j hj => ?_⟩
              · simp only [List.mem_cons, List.not_mem_nil, or_false] at hq
                by_cases y : q = 93 ∨ q = 94
                · rw [s q (by simp only [List.mem_cons, List.not_mem_nil, or_false]; omega)]
                rw [e2.2.2.1 q j (by simp only [List.mem_cons, List.not_mem_nil, or_false]; omega) hj, s1 q (by simp only [List.mem_cons, List.not_mem_nil, or_false]; omega)]
              · have hq' := hq
                simp only [List.mem_cons, List.not_mem_nil, or_false] at hq
                rw [e2.2.2.2.1 q j hq' hj, s1 q (by simp only [List.mem_cons, List.not_mem_nil, or_false]; omega)]
              · rw [e2.2.2.2.2 j hj, s1 101 (by decide)]
            have hXX : yFX 45 X X := ⟨fun _ _ => rfl, fun _ _ _ _ => rfl, fun _ _ => rfl, Nat.le_refl _⟩
            have w0 : ∀ k, M' 0 k = zup (zup H' 0 12 (H' 35 3)) 35 1 0 0 k := fun k => by rw [e2.1 0 (by decide), p 0 (by decide), hI1]
            have w35 : M' 35 1 = 0 := by
              rw [e2.1 35 (by decide), p 35 (by decide), hI1]
              exact zup_at
            have w6157 : M' 61 57 = 0 := by
              rw [q61 57 (by decide), hM1]
              rfl
            have w13 : M' 0 13 = I 0 13 := by
              rw [w0]
              refine (zup_k (by decide) : zup H' 0 12 (H' 35 3) 0 13 = H' 0 13).trans ?_
              rw [c2 0 (by decide) (by decide) (by decide)]
            refine ⟨M', J2, X, ⟨0, r, I1, J2, ?_, ?_, ?_, fun _ => ?_⟩, ⟨hT.1, ?_, fun l' hl' => ⟨?_, fun i hi => ?_⟩⟩, ⟨⟨fun q hq q6 => ?_, fun k hk => ?_⟩, ?_, ⟨⟨?_, ?_, ?_⟩, ?_, fun k hk => ?_⟩, ?_, ?_, fun _ => ?_, fun z => ?_, Nat.le_refl _, by omega, by omega⟩⟩
            · rw [hJ2]
              exact w231_ok xs L (d + 50) I J X a b c I1 J X r hcls
            · have S := zcS (as := [.ref 61, .int a, .int b, .int c]) (S210_0 xs L (d + 50) I1 J2 X a b c)
              have k1 : decide (¬ zbi (¬ a < 0 ∧ ¬ I1 61 3 ≤ a) = 0) = true := decide_eq_true (fun z => (zbi_eq0.mp z) (by
                rw [o61]
                simp only [i32_lt, i32_le, Int32.reduceToInt]
                omega))
              have k2 : ¬ decide (b < 0) = true := fun z => by
                have z := i32_lt.mp (of_decide_eq_true z)
                have : (0 : Int32).toInt = 0 := by decide
                omega
              have k3 : decide (b ≤ I1 61 57) = true := decide_eq_true (i32_le.mpr (by
                rw [o61]
                omega))
              have k5 : ¬ decide (c < 0) = true := fun z => by
                have z := i32_lt.mp (of_decide_eq_true z)
                have : (0 : Int32).toInt = 0 := by decide
                omega
              have k6 : decide (c ≤ (129599 : Int32)) = true := decide_eq_true (i32_le.mpr (by
                have : (129599 : Int32).toInt = 129599 := by decide
                omega))
              rw [show (Int32.ofNat 36 : Int32) = 36 from rfl] at e1
              rw [if_pos k1, if_neg k2, if_pos k3, if_neg k5, if_pos k6, ← hM1, en, e1, zci_i, T210_5_6_670 xs L (d + 50), if_neg (fun z => r0 (of_decide_eq_true z)), e5] at S
              rw [en]
              exact S
            · rw [q61 1 (by decide), hM1]
              rfl
            · rw [hJ2]
              exact zup_at
            · rw [s 16 (by decide)]
              exact hT.2.1
            · rw [s 19 (by decide), s 92 (by decide)]
              exact (hT.2.2 l' hl').1
            · rw [s 92 (by decide)] at hi
              have hx' := hx l' hl'
              have := nv_int hx'.1
              exact yEn_keep hF hXX rfl (by omega) (by omega) ((hT.2.2 l' hl').2 i hi)
            · simp only [List.mem_cons, List.not_mem_nil, or_false] at hq
              exact s q (by simp only [List.mem_cons, List.not_mem_nil, or_false]; omega)
            · simp only [List.mem_cons, List.not_mem_nil, or_false] at hk
              rw [q61 k (by simp only [List.mem_cons, List.not_mem_nil, or_false]; omega), p61 k (by omega) (by omega) (by omega)]
            · rw [w0]
              refine (zup_k (by decide) : zup H' 0 12 (H' 35 3) 0 11 = H' 0 11).trans ?_
              rw [c2 0 (by decide) (by decide) (by decide)]
            · rw [w35, w6157]
            · rw [w6157]
              decide
            · rw [w6157]
              decide
            · rw [s 36 (by decide), s 104 (by decide)]
              exact hP.2.1
            · rw [w6157] at hk
              exact absurd hk (Nat.not_lt_zero k)
            · unfold PWk
              rw [s 49 (by decide)]
              exact hW
            · rw [q61 54 (by decide), p61 54 (by decide) (by decide) (by decide), h54]
            · rw [w0, e4, ← e6]
              exact (zup_at : zup H' 0 12 (H' 35 3) 0 12 = H' 35 3)
            · rw [w13, z, hJ2]
              rfl
          · exact absurd q r0
      · have hcls := nine_c xs L d (I := I) (J := J) (X := X) a b c P Q R
        obtain ⟨I1, hI1⟩ : ∃ I1, I1 = zup (zup I 0 12 (-1)) 35 1 0 := ⟨_, rfl⟩
        rw [← hI1] at hcls
        obtain ⟨I2, hI2⟩ : ∃ I2, I2 = zup (zup (zup I1 61 1 0) 61 57 0) 61 67 (-1) := ⟨_, rfl⟩
        have o : ∀ q, q ≠ 0 → q ≠ 35 → I1 q = I q := fun q q0 q2 => by
          rw [hI1]
          exact (if_neg q2).trans (if_neg q0)
        have o61 : I1 61 = I 61 := o 61 (by decide) (by decide)
        have p : ∀ q, q ≠ 61 → I2 q = I1 q := fun q q1 => by
          rw [hI2]
          exact (if_neg q1).trans ((if_neg q1).trans (if_neg q1))
        have p61 : ∀ k, k ≠ 1 → k ≠ 57 → k ≠ 67 → I2 61 k = I 61 k := fun k k1 k2 k3 => by
          rw [hI2]
          exact (zup_k k3).trans ((zup_k k2).trans ((zup_k k1).trans (by rw [o61])))
        have fr : zfr8 [0, 35] [1, 57, 67] I I2 := ⟨fun q hq q6 => by
          simp only [List.mem_cons, List.not_mem_nil, or_false] at hq
          rw [p q q6, o q (by omega) (by omega)], fun k hk => by
          simp only [List.mem_cons, List.not_mem_nil, or_false] at hk
          exact p61 k (by omega) (by omega) (by omega)⟩
        have w0 : ∀ k, I2 0 k = zup (zup I 0 12 (-1)) 35 1 0 0 k := fun k => by rw [p 0 (by decide), hI1]
        have w6157 : I2 61 57 = 0 := by
          rw [hI2]
          rfl
        have w35 : I2 35 1 = 0 := by
          rw [p 35 (by decide), hI1]
          exact zup_at
        have w13 : I2 0 13 = I 0 13 := by
          rw [w0]
          exact (zup_k (by decide) : zup I 0 12 (-1) 0 13 = I 0 13)
        refine ⟨I2, zup J 122 0 (9 : Int32).toInt64, X, ⟨0, 9, I1, _, w231_ok xs L (d + 50) I J X a b c I1 J X 9 hcls, ?_, ?_, fun _ => zup_at⟩, PT_e fr (by decide) (by decide) hT, ⟨⟨fun q hq q6 => ?_, fun k hk => ?_⟩, ?_, ⟨⟨?_, ?_, ?_⟩, ?_, fun k hk => ?_⟩, PWk_fr fr (by decide) hW, ?_, fun _ => ?_, fun z => ?_, Nat.le_refl _, by omega, by omega⟩⟩
        · have S := zcS (as := [.ref 61, .int a, .int b, .int c]) (S210_0 xs L (d + 50) I1 (zup J 122 0 (9 : Int32).toInt64) X a b c)
          have k1 : decide (¬ zbi (¬ a < 0 ∧ ¬ I1 61 3 ≤ a) = 0) = true := decide_eq_true (fun z => (zbi_eq0.mp z) (by
            rw [o61]
            simp only [i32_lt, i32_le, Int32.reduceToInt]
            omega))
          have k2 : ¬ decide (b < 0) = true := fun z => by
            have z := i32_lt.mp (of_decide_eq_true z)
            have : (0 : Int32).toInt = 0 := by decide
            omega
          have k3 : decide (b ≤ I1 61 57) = true := decide_eq_true (i32_le.mpr (by
            rw [o61]
            omega))
          rw [if_pos k1, if_neg k2, if_pos k3, ← hI2] at S
          by_cases k5 : c < 0
          · rw [if_pos (decide_eq_true k5)] at S
            exact S
          · have k6 : ¬ decide (c ≤ (129599 : Int32)) = true := fun z => R (by
              have z := i32_le.mp (of_decide_eq_true z)
              have : (129599 : Int32).toInt = 129599 := by decide
              have : (0 : Int32).toInt = 0 := by decide
              have : ¬ c.toInt < (0 : Int32).toInt := fun y => k5 (i32_lt.mpr y)
              omega)
            rw [if_neg (fun z => k5 (of_decide_eq_true z)), if_neg k6] at S
            exact S
        · rw [hI2]
          rfl
        · simp only [List.mem_cons, List.not_mem_nil, or_false] at hq
          exact fr.1 q (by simp only [List.mem_cons, List.not_mem_nil, or_false]; omega) q6
        · simp only [List.mem_cons, List.not_mem_nil, or_false] at hk
          exact fr.2 k (by simp only [List.mem_cons, List.not_mem_nil, or_false]; omega)
        · rw [w0]
          exact (zup_k (by decide) : zup I 0 12 (-1) 0 11 = I 0 11)
        · rw [w35, w6157]
        · rw [w6157]
          decide
        · rw [w6157]
          decide
        · rw [fr.1 36 (by decide) (by decide), fr.1 104 (by decide) (by decide)]
          exact hP.2.1
        · rw [w6157] at hk
          exact absurd hk (Nat.not_lt_zero k)
        · rw [fr.2 54 (by decide), h54]
        · rw [w0, hI2]
          exact (zup_at : zup I 0 12 (-1) 0 12 = -1)
        · rw [w13, z]
          rfl
    · have hcls : zev xs L (d + 55) 137 [.ref 0, .int a, .int b, .int c] (zmk I J X) = some (.inl 1, zmk I J (zXe X)) := by
        have nl := needLand_ok xs L (d + 49 + 5) (by omega) I J X a P
        have nb := need_len xs L (d + 49 + 5) (by omega) I J X b
        rw [if_neg Q] at nb
        refine (zcS (S137_0 xs L (d + 49) I J X a b c)).trans ?_
        rw [nl, zcw_v, T137_0_3_697 xs L (d + 49), nb, zcw_x, zthr_P rfl]
        rfl
      have fr : zfr8 [] [1] I (zup (zup I 61 1 0) 61 1 2) := zfr8_m (zfr8_m zfr8_rfl (by decide)) (by decide)
      refine ⟨zup (zup I 61 1 0) 61 1 2, J, zXe X, ⟨2, 0, I, J, w231_x1 xs L (d + 50) I J X a b c I J (zXe X) hcls, ?_, zup_at, fun z => absurd z (by decide)⟩, PT_x (PT_e fr (by decide) (by decide) hT), try_e fr hP hW h54⟩
      have S := zcS (as := [.ref 61, .int a, .int b, .int c]) (S210_0 xs L (d + 50) I J (zXe X) a b c)
      have k1 : decide (¬ zbi (¬ a < 0 ∧ ¬ I 61 3 ≤ a) = 0) = true := decide_eq_true (fun z => (zbi_eq0.mp z) (by
        simp only [i32_lt, i32_le, Int32.reduceToInt]
        omega))
      rw [if_pos k1] at S
      by_cases k2 : b < 0
      · rw [if_pos (decide_eq_true k2)] at S
        exact S
      · have k3 : ¬ decide (b ≤ I 61 57) = true := fun z => Q (by
          have z := i32_le.mp (of_decide_eq_true z)
          have : ¬ b.toInt < (0 : Int32).toInt := fun y => k2 (i32_lt.mpr y)
          have : (0 : Int32).toInt = 0 := by decide
          omega)
        rw [if_neg (fun z => k2 (of_decide_eq_true z)), if_neg k3] at S
        exact S
  · have hcls : zev xs L (d + 55) 137 [.ref 0, .int a, .int b, .int c] (zmk I J X) = some (.inl 0, zmk I J (zXe X)) := by
      have nl := needLand_no xs L (d + 49 + 5) (by omega) I J X a P
      refine (zcS (S137_0 xs L (d + 49) I J X a b c)).trans ?_
      rw [nl, zcw_x, zthr_P rfl]
      rfl
    have fr : zfr8 [] [1] I (zup (zup I 61 1 0) 61 1 1) := zfr8_m (zfr8_m zfr8_rfl (by decide)) (by decide)
    refine ⟨zup (zup I 61 1 0) 61 1 1, J, zXe X, ⟨1, 0, I, J, w231_x0 xs L (d + 50) I J X a b c I J (zXe X) hcls, ?_, zup_at, fun z => absurd z (by decide)⟩, PT_x (PT_e fr (by decide) (by decide) hT), try_e fr hP hW h54⟩
    have S := zcS (as := [.ref 61, .int a, .int b, .int c]) (S210_0 xs L (d + 50) I J (zXe X) a b c)
    have k1 : ¬ decide (¬ zbi (¬ a < 0 ∧ ¬ I 61 3 ≤ a) = 0) = true := fun z => (of_decide_eq_true z) (zbi_eq0.mpr (fun y => by
      simp only [i32_lt, i32_le, Int32.reduceToInt] at y
      omega))
    rw [if_neg k1] at S
    exact S
