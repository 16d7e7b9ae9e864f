/-! THE PURE PART: a land more, the clock, signals taken back, disputes, what was told. -/
theorem a_land (xs : Nat → Int32) (L d : Nat) (I : Nat → Nat → Int32) (J : Nat → Nat → Int64) (X : XH) (hF : PLand I) : ∃ v I1 I2, zev xs L (d + 7) 100 [.ref 0] (zmk I J X) = some (.inr (some (.int v)), zmk I1 J X) ∧ zev xs L (d + 7) 142 [.ref 61] (zmk I1 J X) = some (.inr (some (.int v)), zmk I2 J X) ∧ PLand I2 ∧ zfr8 [1, 92] [1, 3] I I2 ∧ I2 1 1 = I 1 1 ∧ (I 61 3).toInt ≤ (I2 61 3).toInt ∧ (I2 92 = I 92 ∨ I2 92 = zset (I 92) (nv (I 61 3)) 0) := by
  obtain ⟨h1, h2, h3⟩ := hF
  have h1t : (I 1 0).toInt = (I 61 3).toInt := by rw [h1]
  by_cases P : (I 1 0).toInt < 9
  · have e1 := nv_add1 h2 (by omega)
    refine ⟨I 1 0, zup I 1 0 (I 1 0 + 1), zup (zup (zup (zup I 1 0 (I 1 0 + 1)) 61 1 0) 92 (I 61 3).toNatClampNeg 0) 61 3 (I 61 3 + 1), ?_, ?_, ⟨?_, ?_, ?_⟩, ?_, rfl, ?_, Or.inr rfl⟩
    · refine (zcS (S100_0 xs L (d + 1) I J X)).trans ?_
      have e : zev xs L (d + 1 + 5) 29 [.ref 1] (zmk I J X) = some (.inr (some (.int (I 1 0))), zmk (zup I 1 0 (I 1 0 + 1)) J X) := by
        refine (zcS (S29_0 xs L d I J X)).trans ?_
        simp only [decide_eq_true_eq, i32_le, Int32.reduceToInt]
        rw [if_neg (by omega)]
        rfl
      rw [e, zci_i, T100_0_3_697]
      rfl
    · refine (zcS (S142_0 xs L (d + 1) _ J X)).trans ?_
      simp only [decide_eq_true_eq, i32_eq, Int32.reduceToInt]
      have e : (zup I 1 0 (I 1 0 + 1)) 61 = I 61 := rfl
      rw [e, if_pos (by omega), if_pos (zix_of rfl (by omega) (by omega)), i32_add_sub, h1]
      rfl
    · show I 1 0 + 1 = I 61 3 + 1
      rw [h1]
    · show 0 ≤ (I 61 3 + 1).toInt
      omega
    · show (I 61 3 + 1).toInt ≤ 9
      omega
    · exact zfr8_m (zfr8_up (zfr8_m (zfr8_up zfr8_rfl (by decide) (by decide)) (by decide)) (by decide) (by decide)) (by decide)
    · show (I 61 3).toInt ≤ (I 61 3 + 1).toInt
      omega
  · refine ⟨-1, I, zup I 61 1 0, ?_, ?_, ⟨h1, h2, h3⟩, zfr8_m zfr8_rfl (by decide), rfl, Int.le_refl _, Or.inl rfl⟩
    · refine (zcS (S100_0 xs L (d + 1) I J X)).trans ?_
      have e : zev xs L (d + 1 + 5) 29 [.ref 1] (zmk I J X) = some (.inr (some (.int (-1))), zmk I J X) := by
        refine (zcS (S29_0 xs L d I J X)).trans ?_
        simp only [decide_eq_true_eq, i32_le, Int32.reduceToInt]
        rw [if_pos (by omega)]
        rfl
      rw [e, zci_i, T100_0_3_697]
      rfl
    · refine (zcS (S142_0 xs L (d + 1) I J X)).trans ?_
      simp only [decide_eq_true_eq, i32_eq, Int32.reduceToInt]
      rw [if_neg (by omega)]
      rfl
theorem a_go (xs : Nat → Int32) (L d : Nat) (I : Nat → Nat → Int32) (J : Nat → Nat → Int64) (X : XH) (a : Int32) (hF : PNow I) : ∃ I2 J2 X2, zAns xs L (d + 8) 216 149 [.int a] I J X I2 J2 X2 ∧ PNow I2 ∧ zfr8 [0] [1, 2] I I2 ∧ I2 0 12 = I 0 12 ∧ I2 0 13 = I 0 13 ∧ (I 61 2).toInt ≤ (I2 61 2).toInt ∧ zOut J J2 ∧ (X2 = X ∨ X2 = zXe X) := by
  obtain ⟨h1, h2, h3⟩ := hF
  have h1t : (I 0 11).toInt = (I 61 2).toInt := by rw [h1]
  have q : ((129599 : Int32) - I 0 11).toInt = 129599 - (I 0 11).toInt := by
    rw [i32_sub] <;> simp only [Int32.reduceToInt] <;> omega
  by_cases P : 0 ≤ a.toInt ∧ a.toInt ≤ 129599 - (I 0 11).toInt
  · have e1 : (I 61 2 + a).toInt = (I 61 2).toInt + a.toInt := i32_add (by omega) (by omega)
    refine ⟨zup (zup (zup I 0 11 (I 0 11 + a)) 61 1 0) 61 2 (I 61 2 + a), zup J 122 0 (I 0 11 + a).toInt64, X, ⟨0, I 0 11 + a, zup I 0 11 (I 0 11 + a), ?_, ?_, ?_, ?_⟩, ⟨?_, ?_, ?_⟩, ?_, rfl, rfl, ?_, Or.inr ⟨_, rfl⟩, Or.inl rfl⟩
    · refine w216_ok xs L (d + 2) I J X a _ J X (I 0 11 + a) ?_
      refine (zcS (S113_0 xs L (d + 1) I J X _)).trans ?_
      simp only [decide_eq_true_eq, i32_le, i32_lt, Int32.reduceToInt, q]
      rw [if_neg (by omega), if_pos (by omega)]
      rfl
    · refine (zcS (S149_0 xs L (d + 2) _ _ X _)).trans ?_
      have e : (zup I 0 11 (I 0 11 + a)) 61 = I 61 := rfl
      simp only [decide_eq_true_eq, i32_le, i32_lt, Int32.reduceToInt, e, e1]
      rw [if_neg (by omega), if_neg (by omega), if_pos (by omega), h1]
      rfl
    · rfl
    · intro _
      exact zup_at
    · show I 0 11 + a = I 61 2 + a
      rw [h1]
    · show 0 ≤ (I 61 2 + a).toInt
      omega
    · show (I 61 2 + a).toInt ≤ 129599
      omega
    · exact zfr8_m (zfr8_m (zfr8_up zfr8_rfl (by decide) (by decide)) (by decide)) (by decide)
    · show (I 61 2).toInt ≤ (I 61 2 + a).toInt
      omega
  · refine ⟨zup (zup I 61 1 0) 61 1 1, J, zXe X, ⟨1, 0, I, ?_, ?_, zup_at, fun z => absurd z (by decide)⟩, ⟨h1, h2, h3⟩, zfr8_m (zfr8_m zfr8_rfl (by decide)) (by decide), rfl, rfl, Int.le_refl _, Or.inl rfl, Or.inr rfl⟩
    · refine w216_x1 xs L (d + 2) I J X a _ J (zXe X) ?_
      refine (zcS (S113_0 xs L (d + 1) I J X _)).trans ?_
      simp only [decide_eq_true_eq, i32_le, i32_lt, Int32.reduceToInt, q]
      by_cases c : a.toInt < 0
      · rw [if_pos c]
        rfl
      · rw [if_neg c, if_neg (by omega)]
        rfl
    · refine (zcS (S149_0 xs L (d + 2) _ _ _ _)).trans ?_
      simp only [decide_eq_true_eq, i32_le, i32_lt, Int32.reduceToInt]
      by_cases c : a.toInt < 0
      · rw [if_pos c]
        rfl
      rw [if_neg c]
      by_cases c2 : 129599 < a.toInt
      · rw [if_pos c2]
        rfl
      have e1 : (I 61 2 + a).toInt = (I 61 2).toInt + a.toInt := i32_add (by omega) (by omega)
      rw [if_neg c2, if_neg (by omega)]
      rfl
/-- the signals, on both sides alike; those by minute and number -/
def PSig (I : Nat → Nat → Int32) : Prop := (I 26 4 = I 61 19 ∧ 0 ≤ (I 61 19).toInt ∧ (I 61 19).toInt ≤ 300) ∧ (I 27 = I 74 ∧ I 28 = I 75 ∧ I 29 = I 76 ∧ I 30 = I 77 ∧ I 31 = I 78) ∧ (∀ s, s < nv (I 61 19) → (0 ≤ (I 74 s).toInt ∧ (I 74 s).toInt < (I 61 7).toInt) ∧ (0 ≤ (I 75 s).toInt ∧ (I 75 s).toInt < (I 61 4).toInt) ∧ (0 ≤ (I 76 s).toInt ∧ (I 76 s).toInt ≤ (I 77 s).toInt ∧ (I 77 s).toInt ≤ (I 61 2).toInt) ∧ -1 ≤ (I 78 s).toInt) ∧ (∀ p, p < nv (I 61 19) → 0 ≤ (I 32 p).toInt ∧ (I 32 p).toInt < (I 61 19).toInt) ∧ (∀ p q, p < q → q < nv (I 61 19) → (I 76 (nv (I 32 p))).toInt < (I 76 (nv (I 32 q))).toInt ∨ ((I 76 (nv (I 32 p))).toInt = (I 76 (nv (I 32 q))).toInt ∧ (I 32 p).toInt < (I 32 q).toInt)) ∧ ∀ s, s < nv (I 61 19) → ∃ p, p < nv (I 61 19) ∧ I 32 p = Int32.ofNat s
theorem a_back (xs : Nat → Int32) (L d : Nat) (I : Nat → Nat → Int32) (J : Nat → Nat → Int64) (X : XH) (a : Int32) (hN : PNow I) (hF : PSig I) : ∃ I2 J2 X2, (∃ k v I1, zev xs L (d + 8) 218 [.ref 0, .int a, .ref 122] (zmk I J X) = some (.inr (some (.int k)), zmk I1 J2 X2) ∧ zev xs L (d + 8) 153 [.ref 61, .int a] (zmk I1 J2 X2) = some (.inr (some (.int v)), zmk I2 J2 X2) ∧ I2 61 1 = k ∧ (k = 0 → J2 122 0 = if v = 0 then Int64.ofNat 0 else Int64.ofNat 1)) ∧ PSig I2 ∧ zfr8 [31, 78] [1] I I2 ∧ zOut J J2 ∧ (X2 = X ∨ X2 = zXe X) := by
  obtain ⟨⟨h1, h2, h3⟩, ⟨h4, h5, h6, h7, h8⟩, h9, h10, h11, h12⟩ := hF
  obtain ⟨g1, g2, g3⟩ := hN
  have h1t : (I 26 4).toInt = (I 61 19).toInt := by rw [h1]
  by_cases P : 0 ≤ a.toInt ∧ a.toInt < (I 26 4).toInt
  · have nd := need_ok xs L (d + 1 + 5) (by omega) I J X a (I 26 4) P
    have na : zat I 31 300 a = I 78 (nv a) := by rw [zat_of P.1 (by omega), h8]
    have za : zix 0 300 0 a := zix_of rfl P.1 (by omega)
    by_cases Q : I 78 (nv a) = -1
    · refine ⟨zup (zup (zput I 31 300 a (I 0 11)) 61 1 0) 78 a.toNatClampNeg (I 61 2), zup J 122 0 (Int64.ofNat 1), X, ⟨0, 1, zput I 31 300 a (I 0 11), ?_, ?_, rfl, fun _ => zup_at⟩, ?_, ?_, Or.inr ⟨_, rfl⟩, Or.inl rfl⟩
      · refine w218_ok xs L (d + 2) I J X a _ J X 1 ?_
        refine (zcS (S115_0 xs L (d + 1) I J X _)).trans ?_
        have e : zev xs L (d + 1 + 5) 69 [.ref 26, .int a, .int (I 0 11)] (zmk I J X) = some (.inr (some (.int 1)), zmk (zput I 31 300 a (I 0 11)) J X) := by
          refine (zcS (S69_0 xs L d I J X _ _)).trans ?_
          rw [na, if_pos (decide_eq_true Q)]
          rfl
        rw [nd, zcw_v, T115_0_6_694, e, zci_i, T115_0_12_688, if_pos (Or.inr rfl)]
        rfl
      · refine (zcS (S153_0 xs L (d + 2) _ _ X _)).trans ?_
        have e : (zput I 31 300 a (I 0 11)) 61 = I 61 := rfl
        have e2 : (zput I 31 300 a (I 0 11)) 78 = I 78 := rfl
        rw [e, e2, if_pos za, if_pos za]
        simp only [decide_eq_true_eq, i32_le, i32_lt, Int32.reduceToInt, zbi_eq0]
        rw [if_pos (by omega), if_pos (show I 78 a.toNatClampNeg = -1 from Q)]
        rfl
      · have hz : zput I 31 300 a (I 0 11) = zov I 31 (zset (I 31) (nv a) (I 0 11)) := zput_zset P.1 (by omega)
        rw [hz]
        refine ⟨⟨h1, h2, h3⟩, ⟨h4, h5, h6, h7, ?_⟩, ?_, h10, h11, h12⟩
        · show zset (I 31) (nv a) (I 0 11) = fun k' => if k' = a.toNatClampNeg then I 61 2 else I 78 k'
          rw [h8, g1]
          rfl
        · intro s hs
          have h13 := h9 s hs
          refine ⟨h13.1, h13.2.1, h13.2.2.1, ?_⟩
          show -1 ≤ (if s = a.toNatClampNeg then I 61 2 else I 78 s).toInt
          split
          · omega
          · exact h13.2.2.2
      · exact zfr8_up (zfr8_m (zfr8_put zfr8_rfl (by decide) (by decide)) (by decide)) (by decide) (by decide)
    · refine ⟨zup I 61 1 0, zup J 122 0 (Int64.ofNat 0), X, ⟨0, 0, I, ?_, ?_, rfl, fun _ => zup_at⟩, ⟨⟨h1, h2, h3⟩, ⟨h4, h5, h6, h7, h8⟩, h9, h10, h11, h12⟩, zfr8_m zfr8_rfl (by decide), Or.inr ⟨_, rfl⟩, Or.inl rfl⟩
      · refine w218_ok xs L (d + 2) I J X a _ J X 0 ?_
        refine (zcS (S115_0 xs L (d + 1) I J X _)).trans ?_
        have e : zev xs L (d + 1 + 5) 69 [.ref 26, .int a, .int (I 0 11)] (zmk I J X) = some (.inr (some (.int 0)), zmk I J X) := by
          refine (zcS (S69_0 xs L d I J X _ _)).trans ?_
          rw [na, if_neg (fun z => Q (of_decide_eq_true z))]
          rfl
        rw [nd, zcw_v, T115_0_6_694, e, zci_i, T115_0_12_688, if_pos (Or.inl rfl)]
        rfl
      · refine (zcS (S153_0 xs L (d + 2) _ _ X _)).trans ?_
        rw [if_pos za, if_pos za]
        simp only [decide_eq_true_eq, i32_le, i32_lt, Int32.reduceToInt, zbi_eq0]
        rw [if_pos (by omega), if_neg (show ¬ I 78 a.toNatClampNeg = -1 from Q)]
        rfl
  · refine ⟨zup (zup I 61 1 0) 61 1 1, J, zXe X, ⟨1, 0, I, ?_, ?_, zup_at, fun z => absurd z (by decide)⟩, ⟨⟨h1, h2, h3⟩, ⟨h4, h5, h6, h7, h8⟩, h9, h10, h11, h12⟩, zfr8_m (zfr8_m zfr8_rfl (by decide)) (by decide), Or.inl rfl, Or.inr rfl⟩
    · refine w218_x0 xs L (d + 2) I J X a _ J (zXe X) ?_
      refine (zcS (S115_0 xs L (d + 1) I J X _)).trans ?_
      rw [need_no xs L (d + 1 + 5) (by omega) I J X a (I 26 4) P, zcw_x, zthr_P rfl]
      rfl
    · refine (zcS (S153_0 xs L (d + 2) _ _ _ _)).trans ?_
      simp only [decide_eq_true_eq, i32_le, i32_lt, Int32.reduceToInt, zbi_eq0]
      rw [if_neg (by omega)]
      rfl
