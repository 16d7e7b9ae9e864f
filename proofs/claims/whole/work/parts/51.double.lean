/-! THE PURE PART: which signals are double, on both sides. -/
def zany (p : Nat → Bool) : Nat → Nat → Bool
  | 0, _ => false
  | j + 1, i => p i || zany p j (i + 1)
theorem zany_iff {p : Nat → Bool} : ∀ (j i : Nat), zany p j i = true ↔ ∃ o, i ≤ o ∧ o < i + j ∧ p o = true
  | 0, i => ⟨fun h => (by cases h), fun ⟨o, h1, h2, _⟩ => by omega⟩
  | j + 1, i => by
    have ih := zany_iff (p := p) j (i + 1)
    show (p i || zany p j (i + 1)) = true ↔ _
    rw [Bool.or_eq_true, ih]
    constructor
    · rintro (h | ⟨o, h1, h2, h3⟩)
      · exact ⟨i, by omega, by omega, h⟩
      · exact ⟨o, by omega, by omega, h3⟩
    · rintro ⟨o, h1, h2, h3⟩
      by_cases c : o = i
      · exact Or.inl (c ▸ h3)
      · exact Or.inr ⟨o, by omega, by omega, h3⟩
/-- another signal makes s double, as the model looks at it -/
abbrev zdp (I : Nat → Nat → Int32) (s : Nat) (most : Int32) (o : Nat) : Prop := ¬ I 109 o = 0 ∧ ¬ I 74 o = I 74 s ∧ I 71 (nv (I 74 o)) = I 71 (nv (I 74 s)) ∧ I 108 o = I 108 s ∧ ¬ most < I 76 s - I 76 o ∧ (0 < I 76 s - I 76 o ∨ (I 76 s - I 76 o = 0 ∧ o < s))
theorem dbl_loop (xs : Nat → Int32) (L d : Nat) (I : Nat → Nat → Int32) (J : Nat → Nat → Int64) (X : XH) (k x most : Int32) (s n : Nat) (hn : I 61 19 = Int32.ofNat n) (hn2 : n ≤ 300) (hs : s < n) (hb : ∀ q, q < n → 0 ≤ (I 74 q).toInt ∧ (I 74 q).toInt < 24) : ∀ (j i : Nat), i + j = n → zgo xs L (d + 5) 194 4 [(0, .ref 61), (1, .int (Int32.ofNat s)), (2, .int k), (3, .int x), (4, .int most), (5, .int (Int32.ofNat i))] (zmk I J X) = some (.inr (some (.int (if zany (fun o => decide (zdp I s most o)) j i = true then 1 else 0))), zmk I J X)
  | 0, i, hi => by
    have hi : i = n := by omega
    subst hi
    rw [zgo_q, S194_4, hn, if_pos (decide_eq_true ((nat_le (by omega) (by omega)).mpr (Nat.le_refl _)))]
    rfl
  | j + 1, i, hi => by
    have ih := dbl_loop xs L d I J X k x most s n hn hn2 hs hb j (i + 1) (by omega)
    have zi : zix 0 300 0 (Int32.ofNat i) := zix_nat rfl (by omega) (by omega)
    have zi1 : zix 1 300 1 (Int32.ofNat i) := zix_nat rfl (by omega) (by omega)
    have zs : zix 0 300 0 (Int32.ofNat s) := zix_nat rfl (by omega) (by omega)
    have b1 := hb i (by omega)
    have b2 := hb s hs
    have zb1 : zix 0 24 0 (I 74 i) := zix_of rfl b1.1 b1.2
    have zb2 : zix 0 24 0 (I 74 s) := zix_of rfl b2.1 b2.2
    have cm : ¬ decide (Int32.ofNat n ≤ Int32.ofNat i) = true := fun z => by
      have := (nat_le (by omega) (by omega)).mp (of_decide_eq_true z)
      omega
    rw [zgo_q, S194_4, hn, if_neg cm]
    repeat rw [if_pos zi1]
    repeat rw [if_pos zi]
    repeat rw [if_pos zs]
    rw [i32_clamp (n := i) (by omega), i32_clamp (n := s) (by omega)]
    repeat rw [if_pos zb1]
    repeat rw [if_pos zb2]
    rw [nat_succ]
    have hno : ¬ zdp I s most i → zany (fun o => decide (zdp I s most o)) (j + 1) i = zany (fun o => decide (zdp I s most o)) j (i + 1) := by
      intro h
      show (decide (zdp I s most i) || _) = _
      rw [decide_eq_false h]
      rfl
    have hyes : zdp I s most i → zany (fun o => decide (zdp I s most o)) (j + 1) i = true := by
      intro h
      show (decide (zdp I s most i) || _) = _
      rw [decide_eq_true h]
      rfl
    by_cases c1 : I 109 i = 0
    · rw [if_pos (decide_eq_true c1), zth_go, hno (fun z => z.1 c1)]
      exact ih
    rw [if_neg (fun z => c1 (of_decide_eq_true z))]
    by_cases c2 : I 74 i = I 74 s
    · rw [if_pos (decide_eq_true c2), zth_go, hno (fun z => z.2.1 c2)]
      exact ih
    rw [if_neg (fun z => c2 (of_decide_eq_true z))]
    by_cases c3 : I 71 (nv (I 74 i)) = I 71 (nv (I 74 s))
    · rw [if_neg (fun z => (of_decide_eq_true z) c3)]
      by_cases c4 : I 108 i = I 108 s
      · rw [if_pos (decide_eq_true c4)]
        by_cases c5 : most < I 76 s - I 76 i
        · rw [if_pos (decide_eq_true c5), zth_go, hno (fun z => z.2.2.2.2.1 c5)]
          exact ih
        rw [if_neg (fun z => c5 (of_decide_eq_true z))]
        by_cases c6 : 0 < I 76 s - I 76 i
        · rw [if_pos (decide_eq_true c6), hyes ⟨c1, c2, c3, c4, c5, Or.inl c6⟩]
          rfl
        rw [if_neg (fun z => c6 (of_decide_eq_true z))]
        by_cases c7 : I 76 s - I 76 i = 0
        · rw [if_neg (fun z => (of_decide_eq_true z) c7)]
          by_cases c8 : i < s
          · rw [if_neg (fun z => by
              have := (nat_le (by omega) (by omega)).mp (of_decide_eq_true z)
              omega), hyes ⟨c1, c2, c3, c4, c5, Or.inr ⟨c7, c8⟩⟩]
            rfl
          · rw [if_pos (decide_eq_true ((nat_le (by omega) (by omega)).mpr (by omega))), zth_go, hno (fun z => z.2.2.2.2.2.elim c6 (fun w => c8 w.2))]
            exact ih
        · rw [if_pos (decide_eq_true (show ¬ I 76 s - I 76 i = 0 from c7)), zth_go, hno (fun z => z.2.2.2.2.2.elim c6 (fun w => c7 w.1))]
          exact ih
      · rw [if_neg (fun z => c4 (of_decide_eq_true z)), zth_go, hno (fun z => c4 z.2.2.2.1)]
        exact ih
    · rw [if_pos (decide_eq_true (show ¬ I 71 (I 74 i).toNatClampNeg = I 71 (I 74 s).toNatClampNeg from c3)), zth_go, hno (fun z => c3 z.2.2.1)]
      exact ih
theorem zxo_near {I : Nat → Nat → Int32} {l m : Nat} (hl : l < 9) (hm : m ≤ 4) (t k : Int32) : (zxo l m (zbst (zFm I l m) (zOm I l m k) t k (zNm I l m)) = -1 ∧ znear I l m t k = 30) ∨ ∃ j, j < 37 ∧ zxo l m (zbst (zFm I l m) (zOm I l m k) t k (zNm I l m)) = Int32.ofNat j ∧ znear I l m t k = I 97 j := by
  unfold znear
  cases e : zbst (zFm I l m) (zOm I l m k) t k (zNm I l m) with
  | none => exact Or.inl ⟨rfl, rfl⟩
  | some j =>
    right
    by_cases c : j < m
    · refine ⟨4 * l + j, by omega, if_pos c, ?_⟩
      show I 97 (if j < m then 4 * l + j else 36) = _
      rw [if_pos c]
    · refine ⟨36, by omega, if_neg c, ?_⟩
      show I 97 (if j < m then 4 * l + j else 36) = _
      rw [if_neg c]
def znearM (I : Nat → Nat → Int32) (r t k : Int32) : Int32 := znear I (zlandM I r) (nv (I 92 (zlandM I r))) t k
theorem dbl_eq (xs : Nat → Int32) (L D : Nat) (hD : 7 ≤ D) (I : Nat → Nat → Int32) (J : Nat → Nat → Int64) (X : XH) (k : Int32) (s n : Nat) (hn : I 61 19 = Int32.ofNat n) (hn2 : n ≤ 300) (hs : s < n) (hb : ∀ q, q < n → 0 ≤ (I 74 q).toInt ∧ (I 74 q).toInt < 24) (hr : 0 ≤ (I 108 s).toInt ∧ (I 108 s).toInt < 40) (hl : 0 ≤ (I 65 (nv (I 108 s))).toInt ∧ (I 65 (nv (I 108 s))).toInt < 9) (hm : 0 ≤ (I 92 (zlandM I (I 108 s))).toInt ∧ (I 92 (zlandM I (I 108 s))).toInt ≤ 4) : zev xs L D 194 [.ref 61, .int (Int32.ofNat s), .int k] (zmk I J X) = some (.inr (some (.int (if zany (fun o => decide (zdp I s (znearM I (I 108 s) (I 76 s) k) o)) n 0 = true then 1 else 0))), zmk I J X) := by
  obtain ⟨d, rfl⟩ := Nat.exists_eq_add_of_le hD
  rw [show 7 + d = d + 1 + 6 by omega]
  refine (zcS (S194_0 xs L (d + 1) I J X _ _)).trans ?_
  have zs : zix 0 300 0 (Int32.ofNat s) := zix_nat rfl (by omega) (by omega)
  have zr : zix 0 40 0 (I 108 s) := zix_of rfl hr.1 hr.2
  have hl9 : zlandM I (I 108 s) < 9 := by
    have := nv_int hl.1
    unfold zlandM
    omega
  have hm4 : nv (I 92 (zlandM I (I 108 s))) ≤ 4 := by
    have := nv_int hm.1
    omega
  have e65 : I 65 ((I 108 s).toNatClampNeg) = Int32.ofNat (zlandM I (I 108 s)) := (nv_of hl.1).symm
  repeat rw [if_pos zs]
  rw [i32_clamp (n := s) (by omega), if_pos zr, e65, terms_eq xs L _ (by omega) I J X _ _ (I 76 s) k hl9 hm4 (nv_of hm.1).symm, zci_i, T194_0_14_686 xs L (d + 1)]
  have hfin := fun x most => dbl_loop xs L (d + 1) I J X k x most s n hn hn2 hs hb n 0 (by omega)
  rcases zxo_near (I := I) hl9 hm4 (I 76 s) k with ⟨h1, h2⟩ | ⟨j, h1, h2, h3⟩
  · rw [h1, if_neg (by decide), zth_go]
    have e : znearM I (I 108 s) (I 76 s) k = 30 := h2
    rw [e]
    exact hfin (-1) 30
  · have zj : zix 0 37 0 (Int32.ofNat j) := zix_nat rfl h1 (by omega)
    rw [h2, if_pos (decide_eq_true (show ¬ Int32.ofNat j = -1 from nat_m1 (by omega))), if_pos zj, i32_clamp (n := j) (by omega), zth_go]
    have e : znearM I (I 108 s) (I 76 s) k = I 97 j := h3
    rw [e]
    exact hfin (Int32.ofNat j) (I 97 j)
