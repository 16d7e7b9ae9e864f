/-! THE PURE PART: lorries, boxes, lands, the clock. -/
theorem a_lorry (xs : Nat → Int32) (L d : Nat) (I : Nat → Nat → Int32) (J : Nat → Nat → Int64) (X : XH) (a b : Int32) (hF : PFleet I) : ∃ v I1 I2, zev xs L (d + 7) 103 [.ref 0, .int a, .int b] (zmk I J X) = some (.inr (some (.int v)), zmk I1 J X) ∧ zev xs L (d + 7) 147 [.ref 61, .int a, .int b] (zmk I1 J X) = some (.inr (some (.int v)), zmk I2 J X) ∧ PFleet I2 ∧ zfr8 [9, 11, 12, 69, 70] [1, 6] I I2 := by
  obtain ⟨h4, ⟨h1, h2, h3⟩, h5, h6, h7, h8, h9, h10, h11, h12⟩ := hF
  have h1t : (I 9 1).toInt = (I 61 6).toInt := by rw [h1]
  by_cases P : (I 9 1).toInt < 16 ∧ (2 ≤ a.toInt ∧ a.toInt ≤ 9) ∧ 0 ≤ b.toInt ∧ b.toInt ≤ 6
  · refine ⟨I 9 1, zup (zput (zput I 11 16 (I 9 1) a) 12 16 (I 9 1) b) 9 1 (I 9 1 + 1), zup (zup (zup (zup (zup (zput (zput I 11 16 (I 9 1) a) 12 16 (I 9 1) b) 9 1 (I 9 1 + 1)) 61 1 0) 69 (I 61 6).toNatClampNeg a) 70 (I 61 6).toNatClampNeg b) 61 6 (I 61 6 + 1), ?_, ?_, ?_, ?_⟩
    · refine (zcS (S103_0 xs L (d + 1) I J X _ _)).trans ?_
      have e : zev xs L (d + 1 + 5) 13 [.ref 9, .int a, .int b] (zmk I J X) = some (.inr (some (.int (I 9 1))), zmk (zup (zput (zput I 11 16 (I 9 1) a) 12 16 (I 9 1) b) 9 1 (I 9 1 + 1)) J X) := by
        refine (zcS (S13_0 xs L d I J X _ _)).trans ?_
        simp only [decide_eq_true_eq, i32_le, i32_lt, Int32.reduceToInt, zbi_eq0]
        rw [if_neg (by omega), if_neg (by omega), if_pos (by omega)]
        rfl
      rw [e, zci_i, T103_0_5_695]
      rfl
    · refine (zcS (S147_0 xs L (d + 1) _ J X _ _)).trans ?_
      simp only [decide_eq_true_eq, i32_le, i32_lt, i32_eq, Int32.reduceToInt]
      have e : (zup (zput (zput I 11 16 (I 9 1) a) 12 16 (I 9 1) b) 9 1 (I 9 1 + 1)) 61 6 = I 61 6 := rfl
      rw [e, if_neg (by omega), if_neg (by omega), if_neg (by omega), if_neg (by omega), if_pos (by omega), if_pos (zix_of rfl (by omega) (by omega)), if_pos (zix_of rfl (by omega) (by omega)), i32_add_sub, h1]
      rfl
    · have e1 := nv_add1 h2 (by omega)
      have hz : zput I 11 16 (I 9 1) a = zov I 11 (zset (I 11) (nv (I 61 6)) a) := by
        rw [zput_zset (by omega) (by omega), h1]
      have hz2 : zput (zov I 11 (zset (I 11) (nv (I 61 6)) a)) 12 16 (I 9 1) b = zov (zov I 11 (zset (I 11) (nv (I 61 6)) a)) 12 (zset (I 12) (nv (I 61 6)) b) := by
        rw [zput_zset (by omega) (by omega), h1]
        rfl
      rw [hz, hz2]
      refine ⟨h4, ⟨?_, ?_, ?_⟩, h5, h6, ?_, ?_, h9, h10, h11, fun c hc => ?_⟩
      · show I 9 1 + 1 = I 61 6 + 1
        rw [h1]
      · show 0 ≤ (I 61 6 + 1).toInt
        omega
      · show (I 61 6 + 1).toInt ≤ 16
        omega
      · show zset (I 11) (nv (I 61 6)) a = fun k' => if k' = (I 61 6).toNatClampNeg then a else I 69 k'
        rw [h7]
        rfl
      · show zset (I 12) (nv (I 61 6)) b = fun k' => if k' = (I 61 6).toNatClampNeg then b else I 70 k'
        rw [h8]
        rfl
      · have h13 := h12 c hc
        refine ⟨⟨h13.1.1, ?_⟩, h13.2⟩
        show (I 71 c).toInt < (I 61 6 + 1).toInt
        omega
    · exact zfr8_m (zfr8_up (zfr8_up (zfr8_m (zfr8_up (zfr8_put (zfr8_put zfr8_rfl (by decide) (by decide)) (by decide) (by decide)) (by decide) (by decide)) (by decide)) (by decide) (by decide)) (by decide) (by decide)) (by decide)
  · refine ⟨-1, I, zup I 61 1 0, ?_, ?_, ?_, ?_⟩
    · refine (zcS (S103_0 xs L (d + 1) I J X _ _)).trans ?_
      have e : zev xs L (d + 1 + 5) 13 [.ref 9, .int a, .int b] (zmk I J X) = some (.inr (some (.int (-1))), zmk I J X) := by
        refine (zcS (S13_0 xs L d I J X _ _)).trans ?_
        simp only [decide_eq_true_eq, i32_le, i32_lt, Int32.reduceToInt, zbi_eq0]
        by_cases c1 : 16 ≤ (I 9 1).toInt
        · rw [if_pos c1]
          rfl
        · rw [if_neg c1]
          by_cases c2 : ¬ (¬ a.toInt < 2 ∧ ¬ 9 < a.toInt)
          · rw [if_pos c2]
            rfl
          · rw [if_neg c2, if_neg (by omega)]
            rfl
      rw [e, zci_i, T103_0_5_695]
      rfl
    · refine (zcS (S147_0 xs L (d + 1) I J X _ _)).trans ?_
      simp only [decide_eq_true_eq, i32_le, i32_lt, i32_eq, Int32.reduceToInt]
      by_cases c1 : (I 61 6).toInt = 16
      · rw [if_pos c1]
        rfl
      rw [if_neg c1]
      by_cases c2 : a.toInt < 2
      · rw [if_pos c2]
        rfl
      rw [if_neg c2]
      by_cases c3 : 9 < a.toInt
      · rw [if_pos c3]
        rfl
      rw [if_neg c3]
      by_cases c4 : b.toInt < 0
      · rw [if_pos c4]
        rfl
      rw [if_neg c4, if_neg (by omega)]
      rfl
    · exact ⟨h4, ⟨h1, h2, h3⟩, h5, h6, h7, h8, h9, h10, h11, h12⟩
    · exact zfr8_m zfr8_rfl (by decide)
/-- what a wrapped call answers on both sides: the code, and the number where it is 0 -/
def zAns (xs : Nat → Int32) (L d W M : Nat) (as : List Value) (I : Nat → Nat → Int32) (J : Nat → Nat → Int64) (X : XH) (I2 : Nat → Nat → Int32) (J2 : Nat → Nat → Int64) (X2 : XH) : Prop :=
  ∃ k v I1, zev xs L d W (.ref 0 :: as ++ [.ref 122]) (zmk I J X) = some (.inr (some (.int k)), zmk I1 J2 X2) ∧ zev xs L d M (.ref 61 :: as) (zmk I1 J2 X2) = some (.inr (some (.int v)), zmk I2 J2 X2) ∧ I2 61 1 = k ∧ (k = 0 → J2 122 0 = v.toInt64)
/-- the cell for the answer may have changed, no other -/
def zOut (J J2 : Nat → Nat → Int64) : Prop := J2 = J ∨ ∃ w, J2 = zup J 122 0 w
theorem zup_at {α : Type} {f : Nat → Nat → α} {a k : Nat} {v : α} : zup f a k v a k = v := by
  unfold zup
  rw [if_pos rfl, if_pos rfl]
theorem zthr_P {xs : Nat → Int32} {L d m e : Nat} {h : AH} (q : zH m e = none) : zthr (zE xs L d m) e h = some (.inr (.inl e, h)) := by
  unfold zthr
  show (match zH m e with
    | some r => (some (.inr (.inr (some (.int r)), h)) : Option Out)
    | none => some (.inr (.inl e, h))) = _
  rw [q]
theorem a_box (xs : Nat → Int32) (L d : Nat) (I : Nat → Nat → Int32) (J : Nat → Nat → Int64) (X : XH) (a b : Int32) (hF : PFleet I) : ∃ I2 J2 X2, zAns xs L (d + 8) 215 148 [.int a, .int b] I J X I2 J2 X2 ∧ PFleet I2 ∧ zfr8 [9, 13, 14, 71, 72] [1, 7] I I2 ∧ zOut J J2 ∧ (X2 = X ∨ X2 = zXe X) ∧ (I 61 7).toInt ≤ (I2 61 7).toInt := by
  obtain ⟨h4, h5, ⟨h1, h2, h3⟩, h6, h7, h8, h9, h10, h11, h12⟩ := hF
  have h1t : (I 9 2).toInt = (I 61 7).toInt := by rw [h1]
  have h4t : (I 9 0).toInt = (I 61 5).toInt := by rw [h4.1]
  have h5t : (I 9 1).toInt = (I 61 6).toInt := by rw [h5.1]
  by_cases Q : (0 ≤ a.toInt ∧ a.toInt < (I 9 1).toInt) ∧ 0 ≤ b.toInt ∧ b.toInt < (I 9 0).toInt
  · have need1 := need_ok xs L (d + 1 + 5) (by omega) I J X a (I 9 1) Q.1
    have need2 := need_ok xs L (d + 1 + 5) (by omega) I J X b (I 9 0) Q.2
    by_cases P : (I 9 2).toInt < 24
    · refine ⟨zup (zup (zup (zup (zup (zput (zput I 13 24 (I 9 2) a) 14 24 (I 9 2) b) 9 2 (I 9 2 + 1)) 61 1 0) 71 (I 61 7).toNatClampNeg a) 72 (I 61 7).toNatClampNeg b) 61 7 (I 61 7 + 1), zup J 122 0 (I 9 2).toInt64, X, ⟨0, I 9 2, zup (zput (zput I 13 24 (I 9 2) a) 14 24 (I 9 2) b) 9 2 (I 9 2 + 1), ?_, ?_, ?_, ?_⟩, ?_, ?_, ?_, Or.inl rfl, ?_⟩
      · refine w215_ok xs L (d + 2) I J X a b _ J X (I 9 2) ?_
        refine (zcS (S112_0 xs L (d + 1) I J X _ _)).trans ?_
        rw [need1, zcw_v, T112_0_6_694, need2, zcw_v, T112_0_12_688]
        have e : zev xs L (d + 1 + 5) 14 [.ref 9, .int a, .int b] (zmk I J X) = some (.inr (some (.int (I 9 2))), zmk (zup (zput (zput I 13 24 (I 9 2) a) 14 24 (I 9 2) b) 9 2 (I 9 2 + 1)) J X) := by
          refine (zcS (S14_0 xs L d I J X _ _)).trans ?_
          simp only [decide_eq_true_eq, i32_lt, Int32.reduceToInt]
          rw [if_pos P]
          rfl
        rw [e, zci_i, T112_0_17_683]
        rfl
      · refine (zcS (S148_0 xs L (d + 2) _ _ X _ _)).trans ?_
        simp only [decide_eq_true_eq, i32_le, i32_lt, i32_eq, Int32.reduceToInt]
        have e : (zup (zput (zput I 13 24 (I 9 2) a) 14 24 (I 9 2) b) 9 2 (I 9 2 + 1)) 61 = I 61 := rfl
        rw [e, if_neg (by omega), if_neg (by omega), if_neg (by omega), if_pos (by omega), if_pos (by omega), if_pos (zix_of rfl (by omega) (by omega)), if_pos (zix_of rfl (by omega) (by omega)), i32_add_sub, h1]
        rfl
      · rfl
      · intro _
        exact zup_at
      · have e1 := nv_add1 h2 (by omega)
        have hz : zput I 13 24 (I 9 2) a = zov I 13 (zset (I 13) (nv (I 61 7)) a) := by
          rw [zput_zset (by omega) (by omega), h1]
        have hz2 : zput (zov I 13 (zset (I 13) (nv (I 61 7)) a)) 14 24 (I 9 2) b = zov (zov I 13 (zset (I 13) (nv (I 61 7)) a)) 14 (zset (I 14) (nv (I 61 7)) b) := by
          rw [zput_zset (by omega) (by omega), h1]
          rfl
        rw [hz, hz2]
        refine ⟨h4, h5, ⟨?_, ?_, ?_⟩, h6, h7, h8, ?_, ?_, h11, ?_⟩
        · show I 9 2 + 1 = I 61 7 + 1
          rw [h1]
        · show 0 ≤ (I 61 7 + 1).toInt
          omega
        · show (I 61 7 + 1).toInt ≤ 24
          omega
        · show zset (I 13) (nv (I 61 7)) a = fun k' => if k' = (I 61 7).toNatClampNeg then a else I 71 k'
          rw [h9]
          rfl
        · show zset (I 14) (nv (I 61 7)) b = fun k' => if k' = (I 61 7).toNatClampNeg then b else I 72 k'
          rw [h10]
          rfl
        · show ∀ c, c < nv (I 61 7 + 1) → (0 ≤ (if c = (I 61 7).toNatClampNeg then a else I 71 c).toInt ∧ (if c = (I 61 7).toNatClampNeg then a else I 71 c).toInt < (I 61 6).toInt) ∧ 0 ≤ (if c = (I 61 7).toNatClampNeg then b else I 72 c).toInt ∧ (if c = (I 61 7).toNatClampNeg then b else I 72 c).toInt < (I 61 5).toInt
          intro c hc
          by_cases hne : c = (I 61 7).toNatClampNeg
          · rw [if_pos hne, if_pos hne]
            omega
          · rw [if_neg hne, if_neg hne]
            have hne : c ≠ nv (I 61 7) := hne
            exact h12 c (by omega)
      · exact zfr8_m (zfr8_up (zfr8_up (zfr8_m (zfr8_up (zfr8_put (zfr8_put zfr8_rfl (by decide) (by decide)) (by decide) (by decide)) (by decide) (by decide)) (by decide)) (by decide) (by decide)) (by decide) (by decide)) (by decide)
      · exact Or.inr ⟨_, rfl⟩
      · have e1 := nv_add1 h2 (by omega)
        show (I 61 7).toInt ≤ (I 61 7 + 1).toInt
        omega
    · refine ⟨zup I 61 1 0, zup J 122 0 (-1 : Int32).toInt64, X, ⟨0, -1, I, ?_, ?_, ?_, ?_⟩, ?_, ?_, ?_, Or.inl rfl, Int.le_refl _⟩
      · refine w215_ok xs L (d + 2) I J X a b _ J X (-1) ?_
        refine (zcS (S112_0 xs L (d + 1) I J X _ _)).trans ?_
        rw [need1, zcw_v, T112_0_6_694, need2, zcw_v, T112_0_12_688]
        have e : zev xs L (d + 1 + 5) 14 [.ref 9, .int a, .int b] (zmk I J X) = some (.inr (some (.int (-1))), zmk I J X) := by
          refine (zcS (S14_0 xs L d I J X _ _)).trans ?_
          simp only [decide_eq_true_eq, i32_lt, Int32.reduceToInt]
          rw [if_neg P]
          rfl
        rw [e, zci_i, T112_0_17_683]
        rfl
      · refine (zcS (S148_0 xs L (d + 2) _ _ X _ _)).trans ?_
        simp only [decide_eq_true_eq, i32_le, i32_lt, i32_eq, Int32.reduceToInt]
        rw [if_neg (by omega), if_neg (by omega), if_neg (by omega), if_pos (by omega), if_neg (by omega)]
        rfl
      · rfl
      · intro _
        exact zup_at
      · exact ⟨h4, h5, ⟨h1, h2, h3⟩, h6, h7, h8, h9, h10, h11, h12⟩
      · exact zfr8_m zfr8_rfl (by decide)
      · exact Or.inr ⟨_, rfl⟩
  · refine ⟨zup (zup I 61 1 0) 61 1 1, J, zXe X, ⟨1, 0, I, ?_, ?_, ?_, fun z => absurd z (by decide)⟩, ?_, ?_, ?_, Or.inr rfl, Int.le_refl _⟩
    · refine w215_x0 xs L (d + 2) I J X a b _ J (zXe X) ?_
      refine (zcS (S112_0 xs L (d + 1) I J X _ _)).trans ?_
      by_cases c : 0 ≤ a.toInt ∧ a.toInt < (I 9 1).toInt
      · rw [need_ok xs L _ (by omega) I J X a (I 9 1) c, zcw_v, T112_0_6_694, need_no xs L _ (by omega) I J X b (I 9 0) (fun z => Q ⟨c, z⟩), zcw_x, zthr_P rfl]
        rfl
      · rw [need_no xs L _ (by omega) I J X a (I 9 1) c, zcw_x, zthr_P rfl]
        rfl
    · refine (zcS (S148_0 xs L (d + 2) _ _ _ _ _)).trans ?_
      simp only [decide_eq_true_eq, i32_le, i32_lt, i32_eq, Int32.reduceToInt]
      by_cases c1 : a.toInt < 0
      · rw [if_pos c1]
        rfl
      rw [if_neg c1]
      by_cases c2 : (I 61 6).toInt ≤ a.toInt
      · rw [if_pos c2]
        rfl
      rw [if_neg c2]
      by_cases c3 : b.toInt < 0
      · rw [if_pos c3]
        rfl
      rw [if_neg c3, if_neg (by omega)]
      rfl
    · exact zup_at
    · exact ⟨h4, h5, ⟨h1, h2, h3⟩, h6, h7, h8, h9, h10, h11, h12⟩
    · exact zfr8_m (zfr8_m zfr8_rfl (by decide)) (by decide)
    · exact Or.inl rfl
