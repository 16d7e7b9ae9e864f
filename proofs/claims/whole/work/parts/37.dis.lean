/-! THE PURE PART: disputes and decisions, the black list, the rates. -/
/-- the disputes, on both sides alike; the decisions in their order -/
def PDis (I : Nat → Nat → Int32) : Prop := (I 20 0 = I 61 20 ∧ 0 ≤ (I 61 20).toInt ∧ (I 61 20).toInt ≤ 40) ∧ (I 20 1 = I 61 21 ∧ 0 ≤ (I 61 21).toInt ∧ (I 61 21).toInt ≤ (I 61 20).toInt) ∧ (I 21 = I 79 ∧ I 22 = I 80 ∧ I 23 = I 82 ∧ I 24 = I 83) ∧ (∀ e, e < nv (I 61 20) → (0 ≤ (I 79 e).toInt ∧ (I 79 e).toInt < (I 61 19).toInt) ∧ (I 80 e = -1 ∨ (0 ≤ (I 80 e).toInt ∧ (0 ≤ (I 82 e).toInt ∧ (I 82 e).toInt ≤ 2) ∧ (I 82 e = 2 → 0 ≤ (I 83 e).toInt ∧ (I 83 e).toInt < (I 61 4).toInt) ∧ ∃ t, t < nv (I 61 21) ∧ I 81 e = Int32.ofNat (t + 1) ∧ I 25 t = Int32.ofNat e))) ∧ ∀ t, t < nv (I 61 21) → ∃ e, e < nv (I 61 20) ∧ I 25 t = Int32.ofNat e ∧ ¬ I 80 e = -1 ∧ I 81 e = Int32.ofNat (t + 1)
theorem a_dispute (xs : Nat → Int32) (L d : Nat) (I : Nat → Nat → Int32) (J : Nat → Nat → Int64) (X : XH) (a : Int32) (hS : I 26 4 = I 61 19 ∧ 0 ≤ (I 61 19).toInt ∧ (I 61 19).toInt ≤ 300) (hF : PDis I) : ∃ I2 J2 X2, zAns xs L (d + 8) 219 156 [.int a] I J X I2 J2 X2 ∧ PDis I2 ∧ zfr8 [20, 21, 22, 79, 80] [1, 20] I I2 ∧ zOut J J2 ∧ (X2 = X ∨ X2 = zXe X) := by
  obtain ⟨⟨h1, h2, h3⟩, ⟨k1, k2, k3⟩, ⟨h4, h5, h6, h7⟩, h8, h9⟩ := hF
  have h1t : (I 20 0).toInt = (I 61 20).toInt := by rw [h1]
  have hst : (I 26 4).toInt = (I 61 19).toInt := by rw [hS.1]
  have n20 := nv_int h2
  have n21 := nv_int k2
  by_cases P : 0 ≤ a.toInt ∧ a.toInt < (I 26 4).toInt
  · have nd := need_ok xs L (d + 1 + 5) (by omega) I J X a (I 26 4) P
    by_cases Q : (I 20 0).toInt < 40
    · have e1 := nv_add1 h2 (by omega)
      refine ⟨zup (zup (zup (zup (zup (zput (zput I 21 40 (I 20 0) a) 22 40 (I 20 0) (-1)) 20 0 (I 20 0 + 1)) 61 1 0) 79 (I 61 20).toNatClampNeg a) 80 (I 61 20).toNatClampNeg (-1)) 61 20 (I 61 20 + 1), zup J 122 0 (I 20 0).toInt64, X, ⟨0, I 20 0, zup (zput (zput I 21 40 (I 20 0) a) 22 40 (I 20 0) (-1)) 20 0 (I 20 0 + 1), ?_, ?_, rfl, fun _ => zup_at⟩, ?_, ?_, Or.inr ⟨_, rfl⟩, Or.inl rfl⟩
      · refine w219_ok xs L (d + 2) I J X a _ J X (I 20 0) ?_
        refine (zcS (S116_0 xs L (d + 1) I J X _)).trans ?_
        have e : zev xs L (d + 1 + 5) 8 [.ref 20, .int a] (zmk I J X) = some (.inr (some (.int (I 20 0))), zmk (zup (zput (zput I 21 40 (I 20 0) a) 22 40 (I 20 0) (-1)) 20 0 (I 20 0 + 1)) J X) := by
          refine (zcS (S8_0 xs L d I J X _)).trans ?_
          simp only [decide_eq_true_eq, i32_lt, Int32.reduceToInt]
          rw [if_pos Q]
          rfl
        rw [nd, zcw_v, T116_0_6_694, e, zci_i, T116_0_10_690]
        rfl
      · refine (zcS (S156_0 xs L (d + 2) _ _ X _)).trans ?_
        have e : (zup (zput (zput I 21 40 (I 20 0) a) 22 40 (I 20 0) (-1)) 20 0 (I 20 0 + 1)) 61 = I 61 := rfl
        have z20 : zix 0 40 0 (I 61 20) := zix_of rfl (by omega) (by omega)
        rw [e, if_pos z20, if_pos z20]
        simp only [decide_eq_true_eq, zbi_eq0]
        simp only [i32_le, i32_lt, i32_eq, Int32.reduceToInt]
        rw [if_pos (by omega), if_pos (by omega), i32_add_sub, h1]
        rfl
      · have hz : zput I 21 40 (I 20 0) a = zov I 21 (zset (I 21) (nv (I 61 20)) a) := by
          rw [zput_zset (by omega) (by omega), h1]
        have hz2 : zput (zov I 21 (zset (I 21) (nv (I 61 20)) a)) 22 40 (I 20 0) (-1) = zov (zov I 21 (zset (I 21) (nv (I 61 20)) a)) 22 (zset (I 22) (nv (I 61 20)) (-1)) := by
          rw [zput_zset (by omega) (by omega), h1]
          rfl
        rw [hz, hz2]
        refine ⟨⟨?_, ?_, ?_⟩, ⟨k1, k2, ?_⟩, ⟨?_, ?_, h6, h7⟩, ?_, ?_⟩
        · show I 20 0 + 1 = I 61 20 + 1
          rw [h1]
        · show 0 ≤ (I 61 20 + 1).toInt
          omega
        · show (I 61 20 + 1).toInt ≤ 40
          omega
        · show (I 61 21).toInt ≤ (I 61 20 + 1).toInt
          omega
        · show zset (I 21) (nv (I 61 20)) a = fun k' => if k' = (I 61 20).toNatClampNeg then a else I 79 k'
          rw [h4]
          rfl
        · show zset (I 22) (nv (I 61 20)) (-1) = fun k' => if k' = (I 61 20).toNatClampNeg then -1 else I 80 k'
          rw [h5]
          rfl
        · show ∀ e, e < nv (I 61 20 + 1) → (0 ≤ (if e = (I 61 20).toNatClampNeg then a else I 79 e).toInt ∧ (if e = (I 61 20).toNatClampNeg then a else I 79 e).toInt < (I 61 19).toInt) ∧ ((if e = (I 61 20).toNatClampNeg then -1 else I 80 e) = -1 ∨ (0 ≤ (if e = (I 61 20).toNatClampNeg then -1 else I 80 e).toInt ∧ (0 ≤ (I 82 e).toInt ∧ (I 82 e).toInt ≤ 2) ∧ (I 82 e = 2 → 0 ≤ (I 83 e).toInt ∧ (I 83 e).toInt < (I 61 4).toInt) ∧ ∃ t, t < nv (I 61 21) ∧ I 81 e = Int32.ofNat (t + 1) ∧ I 25 t = Int32.ofNat e))
          intro e he
          by_cases hne : e = (I 61 20).toNatClampNeg
          · rw [if_pos hne, if_pos hne]
            exact ⟨⟨P.1, by omega⟩, Or.inl rfl⟩
          · rw [if_neg hne, if_neg hne]
            have hne : e ≠ nv (I 61 20) := hne
            exact h8 e (by omega)
        · show ∀ t, t < nv (I 61 21) → ∃ e, e < nv (I 61 20 + 1) ∧ I 25 t = Int32.ofNat e ∧ ¬ (if e = (I 61 20).toNatClampNeg then -1 else I 80 e) = -1 ∧ I 81 e = Int32.ofNat (t + 1)
          intro t ht
          obtain ⟨e, g1, g2, g3, g4⟩ := h9 t ht
          have hne : e ≠ (I 61 20).toNatClampNeg := fun z => by
            have z : e = nv (I 61 20) := z
            omega
          refine ⟨e, by omega, g2, ?_, g4⟩
          rw [if_neg hne]
          exact g3
      · exact zfr8_m (zfr8_up (zfr8_up (zfr8_m (zfr8_up (zfr8_put (zfr8_put zfr8_rfl (by decide) (by decide)) (by decide) (by decide)) (by decide) (by decide)) (by decide)) (by decide) (by decide)) (by decide) (by decide)) (by decide)
    · refine ⟨zup I 61 1 0, zup J 122 0 (-1 : Int32).toInt64, X, ⟨0, -1, I, ?_, ?_, rfl, fun _ => zup_at⟩, ⟨⟨h1, h2, h3⟩, ⟨k1, k2, k3⟩, ⟨h4, h5, h6, h7⟩, h8, h9⟩, zfr8_m zfr8_rfl (by decide), Or.inr ⟨_, rfl⟩, Or.inl rfl⟩
      · refine w219_ok xs L (d + 2) I J X a _ J X (-1) ?_
        refine (zcS (S116_0 xs L (d + 1) I J X _)).trans ?_
        have e : zev xs L (d + 1 + 5) 8 [.ref 20, .int a] (zmk I J X) = some (.inr (some (.int (-1))), zmk I J X) := by
          refine (zcS (S8_0 xs L d I J X _)).trans ?_
          simp only [decide_eq_true_eq, i32_lt, Int32.reduceToInt]
          rw [if_neg Q]
          rfl
        rw [nd, zcw_v, T116_0_6_694, e, zci_i, T116_0_10_690]
        rfl
      · refine (zcS (S156_0 xs L (d + 2) _ _ X _)).trans ?_
        simp only [decide_eq_true_eq, zbi_eq0]
        simp only [i32_le, i32_lt, i32_eq, Int32.reduceToInt]
        rw [if_pos (by omega), if_neg (by omega)]
        rfl
  · refine ⟨zup (zup I 61 1 0) 61 1 1, J, zXe X, ⟨1, 0, I, ?_, ?_, zup_at, fun z => absurd z (by decide)⟩, ⟨⟨h1, h2, h3⟩, ⟨k1, k2, k3⟩, ⟨h4, h5, h6, h7⟩, h8, h9⟩, zfr8_m (zfr8_m zfr8_rfl (by decide)) (by decide), Or.inl rfl, Or.inr rfl⟩
    · refine w219_x0 xs L (d + 2) I J X a _ J (zXe X) ?_
      refine (zcS (S116_0 xs L (d + 1) I J X _)).trans ?_
      rw [need_no xs L (d + 1 + 5) (by omega) I J X a (I 26 4) P, zcw_x, zthr_P rfl]
      rfl
    · refine (zcS (S156_0 xs L (d + 2) _ _ _ _)).trans ?_
      simp only [decide_eq_true_eq, zbi_eq0]
      simp only [i32_le, i32_lt, i32_eq, Int32.reduceToInt]
      rw [if_neg (by omega)]
      rfl
/-- what was told of boxes, on both sides alike -/
def PBlk (I : Nat → Nat → Int32) : Prop := (I 39 0 = I 61 22 ∧ 0 ≤ (I 61 22).toInt ∧ (I 61 22).toInt ≤ 60) ∧ I 40 = I 84 ∧ I 41 = I 85 ∧ I 42 = I 91 ∧ I 43 = I 86 ∧ ∀ i, I 91 i = 0 ∨ I 91 i = 1
theorem vpb0 : vp_nar .boolean 0 = 0 := by decide
theorem vpb1 : vp_nar .boolean 1 = 1 := by decide
theorem tell_a (xs : Nat → Int32) (L D : Nat) (hD : 6 ≤ D) (I : Nat → Nat → Int32) (J : Nat → Nat → Int64) (X : XH) (a b c e : Int32) (h : (I 39 0).toInt < 60) : zev xs L D 40 [.ref 39, .int a, .int b, .int c, .int e] (zmk I J X) = some (.inr (some (.int 1)), zmk (zup (zput (zput (zput (zput I 40 60 (I 39 0) a) 41 60 (I 39 0) b) 42 60 (I 39 0) c) 43 60 (I 39 0) e) 39 0 (I 39 0 + 1)) J X) := by
  obtain ⟨d, rfl⟩ := Nat.exists_eq_add_of_le hD
  rw [Nat.add_comm 6 d]
  refine (zcS (S40a_0 xs L d I J X _ _ _ _)).trans ?_
  simp only [decide_eq_true_eq, i32_lt, Int32.reduceToInt]
  rw [if_pos h]
  rfl
theorem tell_a0 (xs : Nat → Int32) (L D : Nat) (hD : 6 ≤ D) (I : Nat → Nat → Int32) (J : Nat → Nat → Int64) (X : XH) (a b c e : Int32) (h : ¬ (I 39 0).toInt < 60) : zev xs L D 40 [.ref 39, .int a, .int b, .int c, .int e] (zmk I J X) = some (.inr (some (.int 0)), zmk I J X) := by
  obtain ⟨d, rfl⟩ := Nat.exists_eq_add_of_le hD
  rw [Nat.add_comm 6 d]
  refine (zcS (S40a_0 xs L d I J X _ _ _ _)).trans ?_
  simp only [decide_eq_true_eq, i32_lt, Int32.reduceToInt]
  rw [if_neg h]
  rfl
theorem a_black (xs : Nat → Int32) (L d : Nat) (I : Nat → Nat → Int32) (J : Nat → Nat → Int64) (X : XH) (a b c : Int32) (hb : b = 0 ∨ b = 1) (hN : PNow I) (hB : I 9 2 = I 61 7) (hF : PBlk I) : ∃ I2 J2 X2, zAns xs L (d + 8) 222 180 [.int a, .int b, .int c] I J X I2 J2 X2 ∧ PBlk I2 ∧ zfr8 [39, 40, 41, 42, 43, 84, 85, 86, 91] [1, 22] I I2 ∧ zOut J J2 ∧ (X2 = X ∨ X2 = zXe X) := by
  obtain ⟨⟨h1, h2, h3⟩, h4, h5, h6, h7, h8⟩ := hF
  have h1t : (I 39 0).toInt = (I 61 22).toInt := by rw [h1]
  have hbt : (I 9 2).toInt = (I 61 7).toInt := by rw [hB]
  have hvp : vp_nar .boolean b = b := by
    rcases hb with e | e
    · rw [e, vpb0]
    · rw [e, vpb1]
  by_cases P : 0 ≤ a.toInt ∧ a.toInt < (I 9 2).toInt
  · have nd := need_ok xs L (d + 1 + 5) (by omega) I J X a (I 9 2) P
    by_cases Q : (I 39 0).toInt < 60
    · have e1 := nv_add1 h2 (by omega)
      have z22 : zix 0 60 0 (I 61 22) := zix_of rfl (by omega) (by omega)
      have z22b : zix 1 60 1 (I 61 22) := zix_of rfl (by omega) (by omega)
      refine ⟨zup (zup (zup (zup (zup (zup (zup (zput (zput (zput (zput I 40 60 (I 39 0) a) 41 60 (I 39 0) c) 42 60 (I 39 0) b) 43 60 (I 39 0) (I 0 11)) 39 0 (I 39 0 + 1)) 61 1 0) 84 (I 61 22).toNatClampNeg a) 91 (I 61 22).toNatClampNeg b) 85 (I 61 22).toNatClampNeg c) 86 (I 61 22).toNatClampNeg (I 61 2)) 61 22 (I 61 22 + 1), zup J 122 0 (I 39 0 + 1).toInt64, X, ⟨0, I 39 0 + 1, zup (zput (zput (zput (zput I 40 60 (I 39 0) a) 41 60 (I 39 0) c) 42 60 (I 39 0) b) 43 60 (I 39 0) (I 0 11)) 39 0 (I 39 0 + 1), ?_, ?_, rfl, fun _ => zup_at⟩, ?_, ?_, Or.inr ⟨_, rfl⟩, Or.inl rfl⟩
      · refine w222_ok xs L (d + 2) I J X a b c _ J X (I 39 0 + 1) ?_
        refine (zcS (S122_0 xs L (d + 1) I J X _ _ _)).trans ?_
        rw [nd, zcw_v, T122_0_6_694]
        rcases hb with e | e
        · subst e
          rw [if_pos (decide_eq_true rfl), tell_a xs L _ (by omega) I J X a c 0 (I 0 11) Q, zci_i, T122_2_3_683, if_neg (by decide)]
          rfl
        · subst e
          rw [if_neg (by decide), tell_a xs L _ (by omega) I J X a c 1 (I 0 11) Q, zci_i, T122_2_3_683, if_neg (by decide)]
          rfl
      · refine (zcS (S180_0 xs L (d + 2) _ _ X _ _ _)).trans ?_
        have e : (zup (zput (zput (zput (zput I 40 60 (I 39 0) a) 41 60 (I 39 0) c) 42 60 (I 39 0) b) 43 60 (I 39 0) (I 0 11)) 39 0 (I 39 0 + 1)) 61 = I 61 := rfl
        rw [e, if_pos z22, if_pos z22b, if_pos z22, if_pos z22, hvp]
        simp only [decide_eq_true_eq, zbi_eq0]
        simp only [i32_le, i32_lt, i32_eq, Int32.reduceToInt]
        rw [if_pos (by omega), if_pos (by omega), h1]
        rfl
      · have hz : zput I 40 60 (I 39 0) a = zov I 40 (zset (I 40) (nv (I 61 22)) a) := by
          rw [zput_zset (by omega) (by omega), h1]
        have hz2 : ∀ (I3 : Nat → Nat → Int32) (q : Nat) (v : Int32), zput I3 q 60 (I 39 0) v = zov I3 q (zset (I3 q) (nv (I 61 22)) v) := by
          intro I3 q v
          rw [zput_zset (by omega) (by omega), h1]
        rw [hz, hz2, hz2, hz2]
        refine ⟨⟨?_, ?_, ?_⟩, ?_, ?_, ?_, ?_, fun i => ?_⟩
        · show I 39 0 + 1 = I 61 22 + 1
          rw [h1]
        · show 0 ≤ (I 61 22 + 1).toInt
          omega
        · show (I 61 22 + 1).toInt ≤ 60
          omega
        · show zset (I 40) (nv (I 61 22)) a = fun k' => if k' = (I 61 22).toNatClampNeg then a else I 84 k'
          rw [h4]
          rfl
        · show zset (I 41) (nv (I 61 22)) c = fun k' => if k' = (I 61 22).toNatClampNeg then c else I 85 k'
          rw [h5]
          rfl
        · show zset (I 42) (nv (I 61 22)) b = fun k' => if k' = (I 61 22).toNatClampNeg then b else I 91 k'
          rw [h6]
          rfl
        · show zset (I 43) (nv (I 61 22)) (I 0 11) = fun k' => if k' = (I 61 22).toNatClampNeg then I 61 2 else I 86 k'
          rw [h7, hN.1]
          rfl
        · show (if i = (I 61 22).toNatClampNeg then b else I 91 i) = 0 ∨ (if i = (I 61 22).toNatClampNeg then b else I 91 i) = 1
          split
          · exact hb
          · exact h8 i
      · exact zfr8_m (zfr8_up (zfr8_up (zfr8_up (zfr8_up (zfr8_m (zfr8_up (zfr8_put (zfr8_put (zfr8_put (zfr8_put zfr8_rfl (by decide) (by decide)) (by decide) (by decide)) (by decide) (by decide)) (by decide) (by decide)) (by decide) (by decide)) (by decide)) (by decide) (by decide)) (by decide) (by decide)) (by decide) (by decide)) (by decide) (by decide)) (by decide)
    · refine ⟨zup I 61 1 0, zup J 122 0 (-1 : Int32).toInt64, X, ⟨0, -1, I, ?_, ?_, rfl, fun _ => zup_at⟩, ⟨⟨h1, h2, h3⟩, h4, h5, h6, h7, h8⟩, zfr8_m zfr8_rfl (by decide), Or.inr ⟨_, rfl⟩, Or.inl rfl⟩
      · refine w222_ok xs L (d + 2) I J X a b c _ J X (-1) ?_
        refine (zcS (S122_0 xs L (d + 1) I J X _ _ _)).trans ?_
        rw [nd, zcw_v, T122_0_6_694]
        rcases hb with e | e
        · subst e
          rw [if_pos (decide_eq_true rfl), tell_a0 xs L _ (by omega) I J X a c 0 (I 0 11) Q, zci_i, T122_2_3_683, if_pos (by decide)]
          rfl
        · subst e
          rw [if_neg (by decide), tell_a0 xs L _ (by omega) I J X a c 1 (I 0 11) Q, zci_i, T122_2_3_683, if_pos (by decide)]
          rfl
      · refine (zcS (S180_0 xs L (d + 2) _ _ X _ _ _)).trans ?_
        simp only [decide_eq_true_eq, zbi_eq0]
        simp only [i32_le, i32_lt, i32_eq, Int32.reduceToInt]
        rw [if_pos (by omega), if_neg (by omega)]
        rfl
  · refine ⟨zup (zup I 61 1 0) 61 1 1, J, zXe X, ⟨1, 0, I, ?_, ?_, zup_at, fun z => absurd z (by decide)⟩, ⟨⟨h1, h2, h3⟩, h4, h5, h6, h7, h8⟩, zfr8_m (zfr8_m zfr8_rfl (by decide)) (by decide), Or.inl rfl, Or.inr rfl⟩
    · refine w222_x0 xs L (d + 2) I J X a b c _ J (zXe X) ?_
      refine (zcS (S122_0 xs L (d + 1) I J X _ _ _)).trans ?_
      rw [need_no xs L (d + 1 + 5) (by omega) I J X a (I 9 2) P, zcw_x, zthr_P rfl]
      rfl
    · refine (zcS (S180_0 xs L (d + 2) _ _ _ _ _ _)).trans ?_
      simp only [decide_eq_true_eq, zbi_eq0]
      simp only [i32_le, i32_lt, i32_eq, Int32.reduceToInt]
      rw [if_neg (by omega)]
      rfl
