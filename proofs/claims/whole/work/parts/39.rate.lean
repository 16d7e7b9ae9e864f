/-! THE PURE PART: rates; what is only asked. -/
/-- the rates: the class keeps land and month as one number -/
def PRat (I : Nat → Nat → Int32) : Prop := (I 44 0 = I 61 23 ∧ 0 ≤ (I 61 23).toInt ∧ (I 61 23).toInt ≤ 60) ∧ (I 47 = I 89 ∧ I 48 = I 90) ∧ ∀ i, i < nv (I 61 23) → I 45 i = I 87 i * 3 + I 88 i ∧ (0 ≤ (I 87 i).toInt ∧ (I 87 i).toInt ≤ 8) ∧ (0 ≤ (I 88 i).toInt ∧ (I 88 i).toInt ≤ 2) ∧ I 46 i = 0 ∧ 1 ≤ (I 89 i).toInt ∧ (I 89 i).toInt ≤ 99999
theorem needLand_ok (xs : Nat → Int32) (L D : Nat) (hD : 7 ≤ D) (I : Nat → Nat → Int32) (J : Nat → Nat → Int64) (X : XH) (a : Int32) (h : 0 ≤ a.toInt ∧ a.toInt < (I 1 0).toInt) : zev xs L D 110 [.ref 0, .int a] (zmk I J X) = some (.inr none, zmk I J X) := by
  obtain ⟨d, rfl⟩ := Nat.exists_eq_add_of_le hD
  rw [show 7 + d = d + 1 + 6 by omega]
  refine (zcS (S110_0 xs L (d + 1) I J X _)).trans ?_
  rw [need_ok xs L _ (by omega) I J X a _ h, zcw_v, T110_0_6_694]
  rfl
theorem needLand_no (xs : Nat → Int32) (L D : Nat) (hD : 7 ≤ D) (I : Nat → Nat → Int32) (J : Nat → Nat → Int64) (X : XH) (a : Int32) (h : ¬ (0 ≤ a.toInt ∧ a.toInt < (I 1 0).toInt)) : zev xs L D 110 [.ref 0, .int a] (zmk I J X) = some (.inl 0, zmk I J (zXe X)) := by
  obtain ⟨d, rfl⟩ := Nat.exists_eq_add_of_le hD
  rw [show 7 + d = d + 1 + 6 by omega]
  refine (zcS (S110_0 xs L (d + 1) I J X _)).trans ?_
  rw [need_no xs L _ (by omega) I J X a _ h, zcw_x, zthr_P rfl]
  rfl
theorem tell_b (xs : Nat → Int32) (L D : Nat) (hD : 6 ≤ D) (I : Nat → Nat → Int32) (J : Nat → Nat → Int64) (X : XH) (a b c e : Int32) (h : (I 44 0).toInt < 60) : zev xs L D 40 [.ref 44, .int a, .int b, .int c, .int e] (zmk I J X) = some (.inr (some (.int 1)), zmk (zup (zput (zput (zput (zput I 45 60 (I 44 0) a) 46 60 (I 44 0) b) 47 60 (I 44 0) c) 48 60 (I 44 0) e) 44 0 (I 44 0 + 1)) J X) := by
  obtain ⟨d, rfl⟩ := Nat.exists_eq_add_of_le hD
  rw [Nat.add_comm 6 d]
  refine (zcS (S40b_0 xs L d I J X _ _ _ _)).trans ?_
  simp only [decide_eq_true_eq, i32_lt, Int32.reduceToInt]
  rw [if_pos h]
  rfl
theorem tell_b0 (xs : Nat → Int32) (L D : Nat) (hD : 6 ≤ D) (I : Nat → Nat → Int32) (J : Nat → Nat → Int64) (X : XH) (a b c e : Int32) (h : ¬ (I 44 0).toInt < 60) : zev xs L D 40 [.ref 44, .int a, .int b, .int c, .int e] (zmk I J X) = some (.inr (some (.int 0)), zmk I J X) := by
  obtain ⟨d, rfl⟩ := Nat.exists_eq_add_of_le hD
  rw [Nat.add_comm 6 d]
  refine (zcS (S40b_0 xs L d I J X _ _ _ _)).trans ?_
  simp only [decide_eq_true_eq, i32_lt, Int32.reduceToInt]
  rw [if_neg h]
  rfl
theorem a_rate (xs : Nat → Int32) (L d : Nat) (I : Nat → Nat → Int32) (J : Nat → Nat → Int64) (X : XH) (a b c : Int32) (hN : PNow I) (hL : PLand I) (hF : PRat I) : ∃ I2 J2 X2, zAnb xs L (d + 10) 223 181 [.int a, .int b, .int c] I J X I2 J2 X2 ∧ PRat I2 ∧ zfr8 [44, 45, 46, 47, 48, 87, 88, 89, 90] [1, 23] I I2 ∧ zOut J J2 ∧ (X2 = X ∨ X2 = zXe X) := by
  have hF0 := hF
  obtain ⟨⟨h1, h2, h3⟩, ⟨h4, h5⟩, h6⟩ := hF
  have h1t : (I 44 0).toInt = (I 61 23).toInt := by rw [h1]
  have hLt : (I 1 0).toInt = (I 61 3).toInt := by rw [hL.1]
  have hL9 := hL.2.2
  by_cases P : 0 ≤ a.toInt ∧ a.toInt < (I 1 0).toInt
  · by_cases W : (0 ≤ b.toInt ∧ b.toInt ≤ 2) ∧ (1 ≤ c.toInt ∧ c.toInt ≤ 99999)
    · by_cases Q : (I 44 0).toInt < 60
      · have e1 := nv_add1 h2 (by omega)
        have z23 : zix 0 60 0 (I 61 23) := zix_of rfl (by omega) (by omega)
        refine ⟨zup (zup (zup (zup (zup (zup (zup (zput (zput (zput (zput I 45 60 (I 44 0) (a * 3 + b)) 46 60 (I 44 0) 0) 47 60 (I 44 0) c) 48 60 (I 44 0) (I 0 11)) 44 0 (I 44 0 + 1)) 61 1 0) 87 (I 61 23).toNatClampNeg a) 88 (I 61 23).toNatClampNeg b) 89 (I 61 23).toNatClampNeg c) 90 (I 61 23).toNatClampNeg (I 61 2)) 61 23 (I 61 23 + 1), zup J 122 0 (Int64.ofNat 1), X, ⟨0, 1, zup (zput (zput (zput (zput I 45 60 (I 44 0) (a * 3 + b)) 46 60 (I 44 0) 0) 47 60 (I 44 0) c) 48 60 (I 44 0) (I 0 11)) 44 0 (I 44 0 + 1), ?_, ?_, rfl, fun _ => zup_at⟩, ?_, ?_, Or.inr ⟨_, rfl⟩, Or.inl rfl⟩
        · refine w223_ok xs L (d + 4) I J X a b c _ J X 1 ?_
          refine (zcS (S123_0 xs L (d + 3) I J X _ _ _)).trans ?_
          rw [needLand_ok xs L _ (by omega) I J X a P, zcw_v, T123_0_3_697]
          simp only [decide_eq_true_eq, zbi_eq0]
          simp only [i32_le, i32_lt, Int32.reduceToInt]
          rw [if_neg (by omega), if_pos (by omega), tell_b xs L _ (by omega) I J X _ 0 c (I 0 11) Q, zci_i, T123_2_12_675, if_pos (Or.inr rfl)]
          rfl
        · refine (zcS (S181_0 xs L (d + 4) _ _ X _ _ _)).trans ?_
          have e : (zup (zput (zput (zput (zput I 45 60 (I 44 0) (a * 3 + b)) 46 60 (I 44 0) 0) 47 60 (I 44 0) c) 48 60 (I 44 0) (I 0 11)) 44 0 (I 44 0 + 1)) 61 = I 61 := rfl
          rw [e, if_pos z23, if_pos z23, if_pos z23, if_pos z23]
          simp only [decide_eq_true_eq, zbi_eq0]
          simp only [i32_le, i32_lt, i32_eq, Int32.reduceToInt]
          rw [if_pos (by omega), if_neg (by omega), if_neg (by omega), if_neg (by omega), if_neg (by omega), if_pos (by omega)]
          rfl
        · have hz2 : ∀ (I3 : Nat → Nat → Int32) (q : Nat) (v : Int32), zput I3 q 60 (I 44 0) v = zov I3 q (zset (I3 q) (nv (I 61 23)) v) := by
            intro I3 q v
            rw [zput_zset (by omega) (by omega), h1]
          rw [hz2, hz2, hz2, hz2]
          refine ⟨⟨?_, ?_, ?_⟩, ⟨?_, ?_⟩, ?_⟩
          · show I 44 0 + 1 = I 61 23 + 1
            rw [h1]
          · show 0 ≤ (I 61 23 + 1).toInt
            omega
          · show (I 61 23 + 1).toInt ≤ 60
            omega
          · show zset (I 47) (nv (I 61 23)) c = fun k' => if k' = (I 61 23).toNatClampNeg then c else I 89 k'
            rw [h4]
            rfl
          · show zset (I 48) (nv (I 61 23)) (I 0 11) = fun k' => if k' = (I 61 23).toNatClampNeg then I 61 2 else I 90 k'
            rw [h5, hN.1]
            rfl
          · show ∀ i, i < nv (I 61 23 + 1) → (if i = nv (I 61 23) then a * 3 + b else I 45 i) = (if i = nv (I 61 23) then a else I 87 i) * 3 + (if i = nv (I 61 23) then b else I 88 i) ∧ (0 ≤ (if i = nv (I 61 23) then a else I 87 i).toInt ∧ (if i = nv (I 61 23) then a else I 87 i).toInt ≤ 8) ∧ (0 ≤ (if i = nv (I 61 23) then b else I 88 i).toInt ∧ (if i = nv (I 61 23) then b else I 88 i).toInt ≤ 2) ∧ (if i = nv (I 61 23) then 0 else I 46 i) = 0 ∧ 1 ≤ (if i = nv (I 61 23) then c else I 89 i).toInt ∧ (if i = nv (I 61 23) then c else I 89 i).toInt ≤ 99999
            intro i hi
            by_cases ci : i = nv (I 61 23)
            · rw [if_pos ci, if_pos ci, if_pos ci, if_pos ci, if_pos ci]
              exact ⟨rfl, by omega, by omega, rfl, by omega, by omega⟩
            · rw [if_neg ci, if_neg ci, if_neg ci, if_neg ci, if_neg ci]
              exact h6 i (by omega)
        · exact zfr8_m (zfr8_up (zfr8_up (zfr8_up (zfr8_up (zfr8_m (zfr8_up (zfr8_put (zfr8_put (zfr8_put (zfr8_put zfr8_rfl (by decide) (by decide)) (by decide) (by decide)) (by decide) (by decide)) (by decide) (by decide)) (by decide) (by decide)) (by decide)) (by decide) (by decide)) (by decide) (by decide)) (by decide) (by decide)) (by decide) (by decide)) (by decide)
      · refine ⟨zup I 61 1 0, zup J 122 0 (Int64.ofNat 0), X, ⟨0, 0, I, ?_, ?_, rfl, fun _ => zup_at⟩, hF0, zfr8_m zfr8_rfl (by decide), Or.inr ⟨_, rfl⟩, Or.inl rfl⟩
        · refine w223_ok xs L (d + 4) I J X a b c _ J X 0 ?_
          refine (zcS (S123_0 xs L (d + 3) I J X _ _ _)).trans ?_
          rw [needLand_ok xs L _ (by omega) I J X a P, zcw_v, T123_0_3_697]
          simp only [decide_eq_true_eq, zbi_eq0]
          simp only [i32_le, i32_lt, Int32.reduceToInt]
          rw [if_neg (by omega), if_pos (by omega), tell_b0 xs L _ (by omega) I J X _ 0 c (I 0 11) Q, zci_i, T123_2_12_675, if_pos (Or.inl rfl)]
          rfl
        · refine (zcS (S181_0 xs L (d + 4) _ _ X _ _ _)).trans ?_
          simp only [decide_eq_true_eq, zbi_eq0]
          simp only [i32_le, i32_lt, i32_eq, Int32.reduceToInt]
          rw [if_pos (by omega), if_neg (by omega), if_neg (by omega), if_neg (by omega), if_neg (by omega), if_neg (by omega)]
          rfl
    · refine ⟨zup I 61 1 0, zup J 122 0 (Int64.ofNat 0), X, ⟨0, 0, I, ?_, ?_, rfl, fun _ => zup_at⟩, hF0, zfr8_m zfr8_rfl (by decide), Or.inr ⟨_, rfl⟩, Or.inl rfl⟩
      · refine w223_ok xs L (d + 4) I J X a b c _ J X 0 ?_
        refine (zcS (S123_0 xs L (d + 3) I J X _ _ _)).trans ?_
        rw [needLand_ok xs L _ (by omega) I J X a P, zcw_v, T123_0_3_697]
        simp only [decide_eq_true_eq, zbi_eq0]
        simp only [i32_le, i32_lt, Int32.reduceToInt]
        by_cases c1 : ¬ (¬ b.toInt < 0 ∧ ¬ 2 < b.toInt)
        · rw [if_pos c1]
          rfl
        · rw [if_neg c1, if_neg (by omega)]
          rfl
      · refine (zcS (S181_0 xs L (d + 4) _ _ X _ _ _)).trans ?_
        simp only [decide_eq_true_eq, zbi_eq0]
        simp only [i32_le, i32_lt, i32_eq, Int32.reduceToInt]
        rw [if_pos (by omega)]
        by_cases c1 : b.toInt < 0
        · rw [if_pos c1]
          rfl
        rw [if_neg c1]
        by_cases c2 : 3 ≤ b.toInt
        · rw [if_pos c2]
          rfl
        rw [if_neg c2]
        by_cases c3 : c.toInt < 1
        · rw [if_pos c3]
          rfl
        rw [if_neg c3, if_pos (by omega)]
        rfl
  · refine ⟨zup (zup I 61 1 0) 61 1 1, J, zXe X, ⟨1, 0, I, ?_, ?_, zup_at, fun z => absurd z (by decide)⟩, hF0, zfr8_m (zfr8_m zfr8_rfl (by decide)) (by decide), Or.inl rfl, Or.inr rfl⟩
    · refine w223_x0 xs L (d + 4) I J X a b c _ J (zXe X) ?_
      refine (zcS (S123_0 xs L (d + 3) I J X _ _ _)).trans ?_
      rw [needLand_no xs L _ (by omega) I J X a P, zcw_x, zthr_P rfl]
      rfl
    · refine (zcS (S181_0 xs L (d + 4) _ _ _ _ _ _)).trans ?_
      simp only [decide_eq_true_eq, zbi_eq0]
      simp only [i32_le, i32_lt, i32_eq, Int32.reduceToInt]
      rw [if_neg (by omega)]
      rfl
theorem fault_c (xs : Nat → Int32) (L d : Nat) (I : Nat → Nat → Int32) (J : Nat → Nat → Int64) (X : XH) : zev xs L (d + 6) 105 [.ref 0] (zmk I J X) = some (.inr (some (.int (I 0 12))), zmk I J X) := by
  rw [← zfz_eq]
  rfl
theorem more_c (xs : Nat → Int32) (L d : Nat) (I : Nat → Nat → Int32) (J : Nat → Nat → Int64) (X : XH) : zev xs L (d + 6) 108 [.ref 0] (zmk I J X) = some (.inr (some (.int (I 0 13))), zmk I J X) := by
  rw [← zfz_eq]
  rfl
theorem thrown_m (xs : Nat → Int32) (L d : Nat) (I : Nat → Nat → Int32) (J : Nat → Nat → Int64) (X : XH) : zev xs L (d + 6) 141 [.ref 61] (zmk I J X) = some (.inr (some (.int (I 61 1))), zmk I J X) := by
  rw [← zfz_eq]
  rfl
theorem fault_m (xs : Nat → Int32) (L d : Nat) (I : Nat → Nat → Int32) (J : Nat → Nat → Int64) (X : XH) : zev xs L (d + 6) 179 [.ref 61] (zmk I J X) = some (.inr (some (.int (I 61 67))), zmk (zup I 61 1 0) J X) := by
  refine (zcS (S179_0 xs L d I J X)).trans ?_
  rfl
theorem more_m (xs : Nat → Int32) (L d : Nat) (I : Nat → Nat → Int32) (J : Nat → Nat → Int64) (X : XH) : zev xs L (d + 6) 212 [.ref 61] (zmk I J X) = some (.inr (some (.int (J 61 55).toInt32)), zmk (zup I 61 1 0) J X) := by
  refine (zcS (S212_0 xs L d I J X)).trans ?_
  rfl
/-- all that count tells, on both sides alike -/
theorem a_count (xs : Nat → Int32) (L d : Nat) (I : Nat → Nat → Int32) (J : Nat → Nat → Int64) (X : XH) (a : Int32) (h0 : I 0 11 = I 61 2) (h1 : I 1 0 = I 61 3) (h2 : I 1 1 = I 61 4) (h3 : I 9 0 = I 61 5) (h4 : I 9 1 = I 61 6) (h5 : I 9 2 = I 61 7) (h6 : I 26 4 = I 61 19) (h7 : I 20 0 = I 61 20) (h8 : I 57 0 = I 61 69) (h9 : I 35 1 = I 61 57) : ∃ I2 J2 X2, zAns xs L (d + 8) 232 213 [.int a] I J X I2 J2 X2 ∧ zfr8 [] [1] I I2 ∧ zOut J J2 ∧ (X2 = X ∨ X2 = zXe X) := by
  have hy : ∀ v, zev xs L (d + 7) 139 [.ref 0, .int a] (zmk I J X) = some (.inr (some (.int v)), zmk I J X) → (∀ J2, zev xs L (d + 8) 213 [.ref 61, .int a] (zmk I J2 X) = some (.inr (some (.int v)), zmk (zup I 61 1 0) J2 X)) → ∃ I2 J2 X2, zAns xs L (d + 8) 232 213 [.int a] I J X I2 J2 X2 ∧ zfr8 [] [1] I I2 ∧ zOut J J2 ∧ (X2 = X ∨ X2 = zXe X) := by
    intro v g1 g2
    exact ⟨zup I 61 1 0, zup J 122 0 v.toInt64, X, ⟨0, v, I, w232_ok xs L (d + 2) I J X a _ J X v g1, g2 _, zup_at, fun _ => zup_at⟩, zfr8_m zfr8_rfl (by decide), Or.inr ⟨_, rfl⟩, Or.inl rfl⟩
  by_cases c0 : a = 0
  · refine hy (I 0 11) ?_ (fun J2 => ?_)
    · refine (zcS (S139_0 xs L (d + 1) I J X a)).trans ?_
      rw [if_pos c0]
      rfl
    · refine (zcS (S213_0 xs L (d + 2) I J2 X a)).trans ?_
      rw [if_pos c0, h0]
      rfl
  by_cases c1 : a = 1
  · refine hy (I 1 0) ?_ (fun J2 => ?_)
    · refine (zcS (S139_0 xs L (d + 1) I J X a)).trans ?_
      rw [if_neg c0, if_pos c1]
      rfl
    · refine (zcS (S213_0 xs L (d + 2) I J2 X a)).trans ?_
      rw [if_neg c0, if_pos c1, h1]
      rfl
  by_cases c2 : a = 2
  · refine hy (I 1 1) ?_ (fun J2 => ?_)
    · refine (zcS (S139_0 xs L (d + 1) I J X a)).trans ?_
      rw [if_neg c0, if_neg c1, if_pos c2]
      rfl
    · refine (zcS (S213_0 xs L (d + 2) I J2 X a)).trans ?_
      rw [if_neg c0, if_neg c1, if_pos c2, h2]
      rfl
  by_cases c3 : a = 3
  · refine hy (I 9 0) ?_ (fun J2 => ?_)
    · refine (zcS (S139_0 xs L (d + 1) I J X a)).trans ?_
      rw [if_neg c0, if_neg c1, if_neg c2, if_pos c3]
      rfl
    · refine (zcS (S213_0 xs L (d + 2) I J2 X a)).trans ?_
      rw [if_neg c0, if_neg c1, if_neg c2, if_pos c3, h3]
      rfl
  by_cases c4 : a = 4
  · refine hy (I 9 1) ?_ (fun J2 => ?_)
    · refine (zcS (S139_0 xs L (d + 1) I J X a)).trans ?_
      rw [if_neg c0, if_neg c1, if_neg c2, if_neg c3, if_pos c4]
      rfl
    · refine (zcS (S213_0 xs L (d + 2) I J2 X a)).trans ?_
      rw [if_neg c0, if_neg c1, if_neg c2, if_neg c3, if_pos c4, h4]
      rfl
  by_cases c5 : a = 5
  · refine hy (I 9 2) ?_ (fun J2 => ?_)
    · refine (zcS (S139_0 xs L (d + 1) I J X a)).trans ?_
      rw [if_neg c0, if_neg c1, if_neg c2, if_neg c3, if_neg c4, if_pos c5]
      rfl
    · refine (zcS (S213_0 xs L (d + 2) I J2 X a)).trans ?_
      rw [if_neg c0, if_neg c1, if_neg c2, if_neg c3, if_neg c4, if_pos c5, h5]
      rfl
  by_cases c6 : a = 6
  · refine hy (I 26 4) ?_ (fun J2 => ?_)
    · refine (zcS (S139_0 xs L (d + 1) I J X a)).trans ?_
      rw [if_neg c0, if_neg c1, if_neg c2, if_neg c3, if_neg c4, if_neg c5, if_pos c6]
      rfl
    · refine (zcS (S213_0 xs L (d + 2) I J2 X a)).trans ?_
      rw [if_neg c0, if_neg c1, if_neg c2, if_neg c3, if_neg c4, if_neg c5, if_pos c6, h6]
      rfl
  by_cases c7 : a = 7
  · refine hy (I 20 0) ?_ (fun J2 => ?_)
    · refine (zcS (S139_0 xs L (d + 1) I J X a)).trans ?_
      rw [if_neg c0, if_neg c1, if_neg c2, if_neg c3, if_neg c4, if_neg c5, if_neg c6, if_pos c7]
      rfl
    · refine (zcS (S213_0 xs L (d + 2) I J2 X a)).trans ?_
      rw [if_neg c0, if_neg c1, if_neg c2, if_neg c3, if_neg c4, if_neg c5, if_neg c6, if_pos c7, h7]
      rfl
  by_cases c8 : a = 8
  · refine hy (I 57 0) ?_ (fun J2 => ?_)
    · refine (zcS (S139_0 xs L (d + 1) I J X a)).trans ?_
      rw [if_neg c0, if_neg c1, if_neg c2, if_neg c3, if_neg c4, if_neg c5, if_neg c6, if_neg c7, if_pos c8]
      rfl
    · refine (zcS (S213_0 xs L (d + 2) I J2 X a)).trans ?_
      rw [if_neg c0, if_neg c1, if_neg c2, if_neg c3, if_neg c4, if_neg c5, if_neg c6, if_neg c7, if_pos c8, h8]
      rfl
  by_cases c9 : a = 9
  · refine hy (I 35 1) ?_ (fun J2 => ?_)
    · refine (zcS (S139_0 xs L (d + 1) I J X a)).trans ?_
      rw [if_neg c0, if_neg c1, if_neg c2, if_neg c3, if_neg c4, if_neg c5, if_neg c6, if_neg c7, if_neg c8, if_pos c9]
      rfl
    · refine (zcS (S213_0 xs L (d + 2) I J2 X a)).trans ?_
      rw [if_neg c0, if_neg c1, if_neg c2, if_neg c3, if_neg c4, if_neg c5, if_neg c6, if_neg c7, if_neg c8, if_pos c9, h9]
      rfl
  refine ⟨zup (zup I 61 1 0) 61 1 1, J, zXe X, ⟨1, 0, I, w232_x0 xs L (d + 2) I J X a _ J (zXe X) ?_, ?_, zup_at, fun z => absurd z (by decide)⟩, zfr8_m (zfr8_m zfr8_rfl (by decide)) (by decide), Or.inl rfl, Or.inr rfl⟩
  · refine (zcS (S139_0 xs L (d + 1) I J X a)).trans ?_
    rw [if_neg c0, if_neg c1, if_neg c2, if_neg c3, if_neg c4, if_neg c5, if_neg c6, if_neg c7, if_neg c8, if_neg c9]
    rfl
  · refine (zcS (S213_0 xs L (d + 2) I J (zXe X) a)).trans ?_
    rw [if_neg c0, if_neg c1, if_neg c2, if_neg c3, if_neg c4, if_neg c5, if_neg c6, if_neg c7, if_neg c8, if_neg c9]
    rfl
