/-! THE PURE PART: all that the class knows; where the model lets each signal count. -/
theorem zcpI_ov (I : Nat → Nat → Int32) : zcpI I 28 33 300 = zov I 33 (fun s => if s < 300 then I 28 s else I 33 s) := by
  funext a k
  unfold zcpI zov
  by_cases c : a = 33
  · rw [if_pos c, if_pos c, c]
  · rw [if_neg c, if_neg c]
/-- the signals' roads as the class knows them -/
def zW1 (I : Nat → Nat → Int32) (k : Int32) (e : Nat) : Nat → Int32 := zdw I k (fun s => if s < 300 then I 28 s else I 33 s) e
def zW2 (V I : Nat → Nat → Int32) (k : Int32) (e n : Nat) : Nat → Int32 := zpre (zwf V I k (zW1 I k e)) (zW1 I k e) n
def zKn (V I : Nat → Nat → Int32) (k : Int32) (e n : Nat) : Nat → Nat → Int32 := zov (zov I 33 (zW2 V I k e n)) 34 (zdb V (zov I 33 (zW2 V I k e n)) k (I 34) n)
theorem know_eq (xs : Nat → Int32) (L D : Nat) (hD : 9 ≤ D) (V I : Nat → Nat → Int32) (J : Nat → Nat → Int64) (X : XH) (k : Int32) (e m n : Nat) (hn : I 26 4 = Int32.ofNat n) (hn2 : n ≤ 300) (he : I 20 1 = Int32.ofNat e) (hem : e ≤ 40) (hm : m ≤ 40) (hd : ∀ t, t < e → (0 ≤ (I 25 t).toInt ∧ (I 25 t).toInt < m) ∧ 0 ≤ (I 21 (nv (I 25 t))).toInt ∧ (I 21 (nv (I 25 t))).toInt < n) (ho : ∀ p, p < n → 0 ≤ (I 32 p).toInt ∧ (I 32 p).toInt < n) (hb : ∀ q, q < n → 0 ≤ (I 27 q).toInt ∧ (I 27 q).toInt < 24) (hT : ∀ l, l < 9 → ∃ ρ O, zTm V I X k l (nv (V 92 l)) ρ O) (hf : ∀ s, s < n → zW1 I k e s = -1 ∨ ((0 ≤ (zW1 I k e s).toInt ∧ (zW1 I k e s).toInt < 40) ∧ 0 ≤ (I 4 (nv (zW1 I k e s))).toInt ∧ (I 4 (nv (zW1 I k e s))).toInt < 9)) : zev xs L D 70 [.ref 26, .int k] (zmk I J X) = some (.inr none, zmk (zKn V I k e n) J X) := by
  obtain ⟨d, rfl⟩ := Nat.exists_eq_add_of_le hD
  rw [show 9 + d = d + 3 + 6 by omega]
  refine (zcS (S70_0 xs L (d + 3) I J X _)).trans ?_
  rw [zcpI_ov, over_eq xs L _ (by omega) I J X k _ e m n he hem hm hn2 hd, zcw_v, T70_0_14_686 xs L (d + 3), zth_go]
  have h1 := know_l1 xs L d V I J X k (zW1 I k e) n hn hn2 hT hf n 0 (by omega)
  rw [zpre_0] at h1
  refine h1.trans ?_
  have hf2 : ∀ s, s < n → zov I 33 (zW2 V I k e n) 33 s = -1 ∨ ((0 ≤ (zov I 33 (zW2 V I k e n) 33 s).toInt ∧ (zov I 33 (zW2 V I k e n) 33 s).toInt < 40) ∧ 0 ≤ (I 4 (nv (zov I 33 (zW2 V I k e n) 33 s))).toInt ∧ (I 4 (nv (zov I 33 (zW2 V I k e n) 33 s))).toInt < 9) := by
    intro s hs
    have e1 : zov I 33 (zW2 V I k e n) 33 s = zwf V I k (zW1 I k e) s := by
      rw [zov_at]
      exact zpre_lt hs
    rw [e1]
    unfold zwf
    by_cases c : zkn I k s ∧ (zW1 I k e s = -1 ∨ (I 30 s - I 29 s).toInt ≤ (zlateR V I (zW1 I k e s) (I 29 s) k).toInt)
    · rw [if_pos c]
      exact hf s hs
    · rw [if_neg c]
      exact Or.inl rfl
  have h2 := know_l2 xs L d V (zov I 33 (zW2 V I k e n)) J X k (I 34) n hn hn2 ho hb (fun l hl => by
    obtain ⟨ρ, O, h⟩ := hT l hl
    exact ⟨ρ, O, zTm_33 h⟩) hf2 n 0 (by omega)
  have e34 : zov (zov I 33 (zW2 V I k e n)) 34 (zdb V (zov I 33 (zW2 V I k e n)) k (I 34) 0) = zov I 33 (zW2 V I k e n) := by
    show zov (zov I 33 (zW2 V I k e n)) 34 (zov I 33 (zW2 V I k e n) 34) = _
    exact zov_self _ _
  rw [e34] at h2
  exact h2
/-- a dispute about a signal that was decided by k, not refused -/
abbrev zQd (I : Nat → Nat → Int32) (k : Int32) (s d : Nat) : Prop := I 79 d = Int32.ofNat s ∧ ¬ I 80 d = -1 ∧ (I 80 d).toInt ≤ k.toInt ∧ ¬ I 82 d = 0
/-- the one of the first d that was decided last -/
def zlst (I : Nat → Nat → Int32) (k : Int32) (s : Nat) : Nat → Option Nat
  | 0 => none
  | d + 1 => if zQd I k s d then (match zlst I k s d with
    | none => some d
    | some c => if (I 81 d).toInt ≤ (I 81 c).toInt then some c else some d) else zlst I k s d
def zlsto : Option Nat → Int32
  | none => -1
  | some d => Int32.ofNat d
theorem zlst_lt {I : Nat → Nat → Int32} {k : Int32} {s : Nat} : ∀ {d c : Nat}, zlst I k s d = some c → c < d ∧ zQd I k s c
  | 0, c, h => by cases h
  | d + 1, c, h => by
    unfold zlst at h
    by_cases q : zQd I k s d
    · rw [if_pos q] at h
      cases e : zlst I k s d with
      | none =>
        rw [e] at h
        cases h
        exact ⟨by omega, q⟩
      | some b =>
        rw [e] at h
        have h : (if (I 81 d).toInt ≤ (I 81 b).toInt then some b else some d) = some c := h
        have hb := zlst_lt e
        split at h
        · cases h
          exact ⟨by omega, hb.2⟩
        · cases h
          exact ⟨by omega, q⟩
    · rw [if_neg q] at h
      have := zlst_lt h
      exact ⟨by omega, this.2⟩
/-- the road on which the model lets a signal stand; whether it counts there -/
def zrn (I : Nat → Nat → Int32) (s : Nat) : Option Nat → Int32
  | none => I 75 s
  | some d => if I 82 d = 2 then I 83 d else I 75 s
abbrev zknM (I : Nat → Nat → Int32) (k : Int32) (s : Nat) : Prop := (I 77 s).toInt ≤ k.toInt ∧ (I 78 s = -1 ∨ k.toInt < (I 78 s).toInt)
def zndel (I : Nat → Nat → Int32) : Option Nat → Prop
  | none => True
  | some d => ¬ I 82 d = 1
theorem zxo_late {I : Nat → Nat → Int32} {l m : Nat} (hl : l < 9) (hm : m ≤ 4) (t k : Int32) : (zxo l m (zbst (zFm I l m) (zOm I l m k) t k (zNm I l m)) = -1 ∧ zlate I l m t k = 10080) ∨ ∃ j, j < 37 ∧ zxo l m (zbst (zFm I l m) (zOm I l m k) t k (zNm I l m)) = Int32.ofNat j ∧ zlate I l m t k = I 96 j := by
  unfold zlate
  cases e : zbst (zFm I l m) (zOm I l m k) t k (zNm I l m) with
  | none => exact Or.inl ⟨rfl, rfl⟩
  | some j =>
    right
    by_cases c : j < m
    · refine ⟨4 * l + j, by omega, if_pos c, ?_⟩
      show I 96 (if j < m then 4 * l + j else 36) = _
      rw [if_pos c]
    · refine ⟨36, by omega, if_neg c, ?_⟩
      show I 96 (if j < m then 4 * l + j else 36) = _
      rw [if_neg c]

theorem jT_661 (xs : Nat → Int32) (L d : Nat) (I : Nat → Nat → Int32) (J : Nat → Nat → Int64) (X : XH) (kn a2 b0 lt : Int32) (s : Nat) (o : Option Nat) (hs : s < 300) (ho : ∀ c, o = some c → c < 40) (hk : kn = 0 ∨ kn = 1) (hb : (b0 = -1 ∧ lt = 10080) ∨ ∃ j, j < 37 ∧ b0 = Int32.ofNat j ∧ lt = I 96 j) [Decidable (¬ kn = 0 ∧ zndel I o ∧ (I 77 s - I 76 s).toInt ≤ lt.toInt)] : zseg (zE xs L (d + 5) 186) (zC 186) 661 (zB186_11.drop 15) [(4, .int kn), (0, .ref 61), (1, .int (Int32.ofNat s)), (2, .int a2), (3, .int (zlsto o))] [.int b0] (zmk I J X) = some (.inr (.inr none, zmk (zup I 109 s (zbi (¬ kn = 0 ∧ zndel I o ∧ (I 77 s - I 76 s).toInt ≤ lt.toInt))) J X)) := by
  have z1 : zix 1 300 1 (Int32.ofNat s) := zix_nat rfl (by omega) (by omega)
  have z0 : zix 0 300 0 (Int32.ofNat s) := zix_nat rfl (by omega) (by omega)
  rw [T186_11_15_661 xs L d]
  repeat rw [if_pos z1]
  repeat rw [if_pos z0]
  rw [i32_clamp (n := s) (by omega), vpb0, vpb1]
  rcases hk with e | e
  · subst e
    rw [if_pos (by decide), zbi_f (fun z => z.1 rfl)]
  · subst e
    rw [if_neg (by decide)]
    have key : (if decide (¬ b0 = (-1 : Int32)) = true then (if zix 0 37 0 b0 then (if decide (I 96 b0.toNatClampNeg < I 77 s - I 76 s) = true then some (Sum.inr (Sum.inr none, zmk (zup I 109 s 0) J X)) else some (Sum.inr (Sum.inr none, zmk (zup I 109 s 1) J X))) else none) else (if decide ((10080 : Int32) < I 77 s - I 76 s) = true then some (Sum.inr (Sum.inr none, zmk (zup I 109 s 0) J X)) else some (Sum.inr (Sum.inr none, zmk (zup I 109 s 1) J X))) : Option Out) = some (Sum.inr (Sum.inr none, zmk (zup I 109 s (if (I 77 s - I 76 s).toInt ≤ lt.toInt then 1 else 0)) J X)) := by
      rcases hb with ⟨h1, h2⟩ | ⟨j, h1, h2, h3⟩
      · rw [h1, h2, if_neg (by decide)]
        by_cases c : (10080 : Int32) < I 77 s - I 76 s
        · rw [if_pos (decide_eq_true c), if_neg (by
            have := i32_lt.mp c
            omega)]
        · have c2 : ¬ (10080 : Int32).toInt < (I 77 s - I 76 s).toInt := fun z => c (i32_lt.mpr z)
          rw [if_neg (fun z => c (of_decide_eq_true z)), if_pos (by omega)]
      · have zj : zix 0 37 0 (Int32.ofNat j) := zix_nat rfl h1 (by omega)
        rw [h2, h3, if_pos (decide_eq_true (show ¬ Int32.ofNat j = -1 from nat_m1 (by omega))), if_pos zj, i32_clamp (n := j) (by omega)]
        by_cases c : I 96 j < I 77 s - I 76 s
        · rw [if_pos (decide_eq_true c), if_neg (by
            have := i32_lt.mp c
            omega)]
        · have c2 : ¬ (I 96 j).toInt < (I 77 s - I 76 s).toInt := fun z => c (i32_lt.mpr z)
          rw [if_neg (fun z => c (of_decide_eq_true z)), if_pos (by omega)]
    have fin : zndel I o → zbi (¬ (1 : Int32) = 0 ∧ zndel I o ∧ (I 77 s - I 76 s).toInt ≤ lt.toInt) = if (I 77 s - I 76 s).toInt ≤ lt.toInt then 1 else 0 := by
      intro hd
      by_cases c : (I 77 s - I 76 s).toInt ≤ lt.toInt
      · rw [if_pos c]
        exact zbi_t ⟨by decide, hd, c⟩
      · rw [if_neg c]
        exact zbi_f (fun z => c z.2.2)
    cases o with
    | none =>
      rw [if_pos (show decide (zlsto none = (-1 : Int32)) = true by decide), key, fin trivial]
    | some c =>
      have hc := ho c rfl
      have e1 : zlsto (some c) = Int32.ofNat c := rfl
      have zc : zix 0 40 0 (Int32.ofNat c) := zix_nat rfl hc (by omega)
      rw [e1, if_neg (fun z => nat_m1 (by omega) (of_decide_eq_true z)), if_pos zc, i32_clamp (n := c) (by omega)]
      by_cases h1 : I 82 c = 1
      · rw [if_pos (decide_eq_true h1), zbi_f (fun z => z.2.1 h1)]
      · rw [if_neg (fun z => h1 (of_decide_eq_true z)), key, fin h1]

theorem jT_655 (xs : Nat → Int32) (L d : Nat) (I : Nat → Nat → Int32) (J : Nat → Nat → Int64) (X : XH) (kn a2 b0 lt : Int32) (s : Nat) (o : Option Nat) (hs : s < 300) (ho : ∀ c, o = some c → c < 40) (hk : kn = 0 ∨ kn = 1) (hb : (b0 = -1 ∧ lt = 10080) ∨ ∃ j, j < 37 ∧ b0 = Int32.ofNat j ∧ lt = I 96 j) [Decidable (¬ kn = 0 ∧ zndel I o ∧ (I 77 s - I 76 s).toInt ≤ lt.toInt)] : zseg (zE xs L (d + 5) 186) (zC 186) 655 (zB186_11.drop 15) [(4, .int kn), (0, .ref 61), (1, .int (Int32.ofNat s)), (2, .int a2), (3, .int (zlsto o))] [.int b0] (zmk I J X) = some (.inr (.inr none, zmk (zup I 109 s (zbi (¬ kn = 0 ∧ zndel I o ∧ (I 77 s - I 76 s).toInt ≤ lt.toInt))) J X)) := by
  have z1 : zix 1 300 1 (Int32.ofNat s) := zix_nat rfl (by omega) (by omega)
  have z0 : zix 0 300 0 (Int32.ofNat s) := zix_nat rfl (by omega) (by omega)
  rw [T186_11_15_655 xs L d]
  repeat rw [if_pos z1]
  repeat rw [if_pos z0]
  rw [i32_clamp (n := s) (by omega), vpb0, vpb1]
  rcases hk with e | e
  · subst e
    rw [if_pos (by decide), zbi_f (fun z => z.1 rfl)]
  · subst e
    rw [if_neg (by decide)]
    have key : (if decide (¬ b0 = (-1 : Int32)) = true then (if zix 0 37 0 b0 then (if decide (I 96 b0.toNatClampNeg < I 77 s - I 76 s) = true then some (Sum.inr (Sum.inr none, zmk (zup I 109 s 0) J X)) else some (Sum.inr (Sum.inr none, zmk (zup I 109 s 1) J X))) else none) else (if decide ((10080 : Int32) < I 77 s - I 76 s) = true then some (Sum.inr (Sum.inr none, zmk (zup I 109 s 0) J X)) else some (Sum.inr (Sum.inr none, zmk (zup I 109 s 1) J X))) : Option Out) = some (Sum.inr (Sum.inr none, zmk (zup I 109 s (if (I 77 s - I 76 s).toInt ≤ lt.toInt then 1 else 0)) J X)) := by
      rcases hb with ⟨h1, h2⟩ | ⟨j, h1, h2, h3⟩
      · rw [h1, h2, if_neg (by decide)]
        by_cases c : (10080 : Int32) < I 77 s - I 76 s
        · rw [if_pos (decide_eq_true c), if_neg (by
            have := i32_lt.mp c
            omega)]
        · have c2 : ¬ (10080 : Int32).toInt < (I 77 s - I 76 s).toInt := fun z => c (i32_lt.mpr z)
          rw [if_neg (fun z => c (of_decide_eq_true z)), if_pos (by omega)]
      · have zj : zix 0 37 0 (Int32.ofNat j) := zix_nat rfl h1 (by omega)
        rw [h2, h3, if_pos (decide_eq_true (show ¬ Int32.ofNat j = -1 from nat_m1 (by omega))), if_pos zj, i32_clamp (n := j) (by omega)]
        by_cases c : I 96 j < I 77 s - I 76 s
        · rw [if_pos (decide_eq_true c), if_neg (by
            have := i32_lt.mp c
            omega)]
        · have c2 : ¬ (I 96 j).toInt < (I 77 s - I 76 s).toInt := fun z => c (i32_lt.mpr z)
          rw [if_neg (fun z => c (of_decide_eq_true z)), if_pos (by omega)]
    have fin : zndel I o → zbi (¬ (1 : Int32) = 0 ∧ zndel I o ∧ (I 77 s - I 76 s).toInt ≤ lt.toInt) = if (I 77 s - I 76 s).toInt ≤ lt.toInt then 1 else 0 := by
      intro hd
      by_cases c : (I 77 s - I 76 s).toInt ≤ lt.toInt
      · rw [if_pos c]
        exact zbi_t ⟨by decide, hd, c⟩
      · rw [if_neg c]
        exact zbi_f (fun z => c z.2.2)
    cases o with
    | none =>
      rw [if_pos (show decide (zlsto none = (-1 : Int32)) = true by decide), key, fin trivial]
    | some c =>
      have hc := ho c rfl
      have e1 : zlsto (some c) = Int32.ofNat c := rfl
      have zc : zix 0 40 0 (Int32.ofNat c) := zix_nat rfl hc (by omega)
      rw [e1, if_neg (fun z => nat_m1 (by omega) (of_decide_eq_true z)), if_pos zc, i32_clamp (n := c) (by omega)]
      by_cases h1 : I 82 c = 1
      · rw [if_pos (decide_eq_true h1), zbi_f (fun z => z.2.1 h1)]
      · rw [if_neg (fun z => h1 (of_decide_eq_true z)), key, fin h1]

theorem jT_649 (xs : Nat → Int32) (L d : Nat) (I : Nat → Nat → Int32) (J : Nat → Nat → Int64) (X : XH) (kn a2 b0 lt : Int32) (s : Nat) (o : Option Nat) (hs : s < 300) (ho : ∀ c, o = some c → c < 40) (hk : kn = 0 ∨ kn = 1) (hb : (b0 = -1 ∧ lt = 10080) ∨ ∃ j, j < 37 ∧ b0 = Int32.ofNat j ∧ lt = I 96 j) [Decidable (¬ kn = 0 ∧ zndel I o ∧ (I 77 s - I 76 s).toInt ≤ lt.toInt)] : zseg (zE xs L (d + 5) 186) (zC 186) 649 (zB186_11.drop 15) [(4, .int kn), (0, .ref 61), (1, .int (Int32.ofNat s)), (2, .int a2), (3, .int (zlsto o))] [.int b0] (zmk I J X) = some (.inr (.inr none, zmk (zup I 109 s (zbi (¬ kn = 0 ∧ zndel I o ∧ (I 77 s - I 76 s).toInt ≤ lt.toInt))) J X)) := by
  have z1 : zix 1 300 1 (Int32.ofNat s) := zix_nat rfl (by omega) (by omega)
  have z0 : zix 0 300 0 (Int32.ofNat s) := zix_nat rfl (by omega) (by omega)
  rw [T186_11_15_649 xs L d]
  repeat rw [if_pos z1]
  repeat rw [if_pos z0]
  rw [i32_clamp (n := s) (by omega), vpb0, vpb1]
  rcases hk with e | e
  · subst e
    rw [if_pos (by decide), zbi_f (fun z => z.1 rfl)]
  · subst e
    rw [if_neg (by decide)]
    have key : (if decide (¬ b0 = (-1 : Int32)) = true then (if zix 0 37 0 b0 then (if decide (I 96 b0.toNatClampNeg < I 77 s - I 76 s) = true then some (Sum.inr (Sum.inr none, zmk (zup I 109 s 0) J X)) else some (Sum.inr (Sum.inr none, zmk (zup I 109 s 1) J X))) else none) else (if decide ((10080 : Int32) < I 77 s - I 76 s) = true then some (Sum.inr (Sum.inr none, zmk (zup I 109 s 0) J X)) else some (Sum.inr (Sum.inr none, zmk (zup I 109 s 1) J X))) : Option Out) = some (Sum.inr (Sum.inr none, zmk (zup I 109 s (if (I 77 s - I 76 s).toInt ≤ lt.toInt then 1 else 0)) J X)) := by
      rcases hb with ⟨h1, h2⟩ | ⟨j, h1, h2, h3⟩
      · rw [h1, h2, if_neg (by decide)]
        by_cases c : (10080 : Int32) < I 77 s - I 76 s
        · rw [if_pos (decide_eq_true c), if_neg (by
            have := i32_lt.mp c
            omega)]
        · have c2 : ¬ (10080 : Int32).toInt < (I 77 s - I 76 s).toInt := fun z => c (i32_lt.mpr z)
          rw [if_neg (fun z => c (of_decide_eq_true z)), if_pos (by omega)]
      · have zj : zix 0 37 0 (Int32.ofNat j) := zix_nat rfl h1 (by omega)
        rw [h2, h3, if_pos (decide_eq_true (show ¬ Int32.ofNat j = -1 from nat_m1 (by omega))), if_pos zj, i32_clamp (n := j) (by omega)]
        by_cases c : I 96 j < I 77 s - I 76 s
        · rw [if_pos (decide_eq_true c), if_neg (by
            have := i32_lt.mp c
            omega)]
        · have c2 : ¬ (I 96 j).toInt < (I 77 s - I 76 s).toInt := fun z => c (i32_lt.mpr z)
          rw [if_neg (fun z => c (of_decide_eq_true z)), if_pos (by omega)]
    have fin : zndel I o → zbi (¬ (1 : Int32) = 0 ∧ zndel I o ∧ (I 77 s - I 76 s).toInt ≤ lt.toInt) = if (I 77 s - I 76 s).toInt ≤ lt.toInt then 1 else 0 := by
      intro hd
      by_cases c : (I 77 s - I 76 s).toInt ≤ lt.toInt
      · rw [if_pos c]
        exact zbi_t ⟨by decide, hd, c⟩
      · rw [if_neg c]
        exact zbi_f (fun z => c z.2.2)
    cases o with
    | none =>
      rw [if_pos (show decide (zlsto none = (-1 : Int32)) = true by decide), key, fin trivial]
    | some c =>
      have hc := ho c rfl
      have e1 : zlsto (some c) = Int32.ofNat c := rfl
      have zc : zix 0 40 0 (Int32.ofNat c) := zix_nat rfl hc (by omega)
      rw [e1, if_neg (fun z => nat_m1 (by omega) (of_decide_eq_true z)), if_pos zc, i32_clamp (n := c) (by omega)]
      by_cases h1 : I 82 c = 1
      · rw [if_pos (decide_eq_true h1), zbi_f (fun z => z.2.1 h1)]
      · rw [if_neg (fun z => h1 (of_decide_eq_true z)), key, fin h1]

theorem jT_648 (xs : Nat → Int32) (L d : Nat) (I : Nat → Nat → Int32) (J : Nat → Nat → Int64) (X : XH) (kn a2 b0 lt : Int32) (s : Nat) (o : Option Nat) (hs : s < 300) (ho : ∀ c, o = some c → c < 40) (hk : kn = 0 ∨ kn = 1) (hb : (b0 = -1 ∧ lt = 10080) ∨ ∃ j, j < 37 ∧ b0 = Int32.ofNat j ∧ lt = I 96 j) [Decidable (¬ kn = 0 ∧ zndel I o ∧ (I 77 s - I 76 s).toInt ≤ lt.toInt)] : zseg (zE xs L (d + 5) 186) (zC 186) 648 (zB186_11.drop 15) [(4, .int kn), (0, .ref 61), (1, .int (Int32.ofNat s)), (2, .int a2), (3, .int (zlsto o))] [.int b0] (zmk I J X) = some (.inr (.inr none, zmk (zup I 109 s (zbi (¬ kn = 0 ∧ zndel I o ∧ (I 77 s - I 76 s).toInt ≤ lt.toInt))) J X)) := by
  have z1 : zix 1 300 1 (Int32.ofNat s) := zix_nat rfl (by omega) (by omega)
  have z0 : zix 0 300 0 (Int32.ofNat s) := zix_nat rfl (by omega) (by omega)
  rw [T186_11_15_648 xs L d]
  repeat rw [if_pos z1]
  repeat rw [if_pos z0]
  rw [i32_clamp (n := s) (by omega), vpb0, vpb1]
  rcases hk with e | e
  · subst e
    rw [if_pos (by decide), zbi_f (fun z => z.1 rfl)]
  · subst e
    rw [if_neg (by decide)]
    have key : (if decide (¬ b0 = (-1 : Int32)) = true then (if zix 0 37 0 b0 then (if decide (I 96 b0.toNatClampNeg < I 77 s - I 76 s) = true then some (Sum.inr (Sum.inr none, zmk (zup I 109 s 0) J X)) else some (Sum.inr (Sum.inr none, zmk (zup I 109 s 1) J X))) else none) else (if decide ((10080 : Int32) < I 77 s - I 76 s) = true then some (Sum.inr (Sum.inr none, zmk (zup I 109 s 0) J X)) else some (Sum.inr (Sum.inr none, zmk (zup I 109 s 1) J X))) : Option Out) = some (Sum.inr (Sum.inr none, zmk (zup I 109 s (if (I 77 s - I 76 s).toInt ≤ lt.toInt then 1 else 0)) J X)) := by
      rcases hb with ⟨h1, h2⟩ | ⟨j, h1, h2, h3⟩
      · rw [h1, h2, if_neg (by decide)]
        by_cases c : (10080 : Int32) < I 77 s - I 76 s
        · rw [if_pos (decide_eq_true c), if_neg (by
            have := i32_lt.mp c
            omega)]
        · have c2 : ¬ (10080 : Int32).toInt < (I 77 s - I 76 s).toInt := fun z => c (i32_lt.mpr z)
          rw [if_neg (fun z => c (of_decide_eq_true z)), if_pos (by omega)]
      · have zj : zix 0 37 0 (Int32.ofNat j) := zix_nat rfl h1 (by omega)
        rw [h2, h3, if_pos (decide_eq_true (show ¬ Int32.ofNat j = -1 from nat_m1 (by omega))), if_pos zj, i32_clamp (n := j) (by omega)]
        by_cases c : I 96 j < I 77 s - I 76 s
        · rw [if_pos (decide_eq_true c), if_neg (by
            have := i32_lt.mp c
            omega)]
        · have c2 : ¬ (I 96 j).toInt < (I 77 s - I 76 s).toInt := fun z => c (i32_lt.mpr z)
          rw [if_neg (fun z => c (of_decide_eq_true z)), if_pos (by omega)]
    have fin : zndel I o → zbi (¬ (1 : Int32) = 0 ∧ zndel I o ∧ (I 77 s - I 76 s).toInt ≤ lt.toInt) = if (I 77 s - I 76 s).toInt ≤ lt.toInt then 1 else 0 := by
      intro hd
      by_cases c : (I 77 s - I 76 s).toInt ≤ lt.toInt
      · rw [if_pos c]
        exact zbi_t ⟨by decide, hd, c⟩
      · rw [if_neg c]
        exact zbi_f (fun z => c z.2.2)
    cases o with
    | none =>
      rw [if_pos (show decide (zlsto none = (-1 : Int32)) = true by decide), key, fin trivial]
    | some c =>
      have hc := ho c rfl
      have e1 : zlsto (some c) = Int32.ofNat c := rfl
      have zc : zix 0 40 0 (Int32.ofNat c) := zix_nat rfl hc (by omega)
      rw [e1, if_neg (fun z => nat_m1 (by omega) (of_decide_eq_true z)), if_pos zc, i32_clamp (n := c) (by omega)]
      by_cases h1 : I 82 c = 1
      · rw [if_pos (decide_eq_true h1), zbi_f (fun z => z.2.1 h1)]
      · rw [if_neg (fun z => h1 (of_decide_eq_true z)), key, fin h1]

theorem jT_643 (xs : Nat → Int32) (L d : Nat) (I : Nat → Nat → Int32) (J : Nat → Nat → Int64) (X : XH) (kn a2 b0 lt : Int32) (s : Nat) (o : Option Nat) (hs : s < 300) (ho : ∀ c, o = some c → c < 40) (hk : kn = 0 ∨ kn = 1) (hb : (b0 = -1 ∧ lt = 10080) ∨ ∃ j, j < 37 ∧ b0 = Int32.ofNat j ∧ lt = I 96 j) [Decidable (¬ kn = 0 ∧ zndel I o ∧ (I 77 s - I 76 s).toInt ≤ lt.toInt)] : zseg (zE xs L (d + 5) 186) (zC 186) 643 (zB186_11.drop 15) [(4, .int kn), (0, .ref 61), (1, .int (Int32.ofNat s)), (2, .int a2), (3, .int (zlsto o))] [.int b0] (zmk I J X) = some (.inr (.inr none, zmk (zup I 109 s (zbi (¬ kn = 0 ∧ zndel I o ∧ (I 77 s - I 76 s).toInt ≤ lt.toInt))) J X)) := by
  have z1 : zix 1 300 1 (Int32.ofNat s) := zix_nat rfl (by omega) (by omega)
  have z0 : zix 0 300 0 (Int32.ofNat s) := zix_nat rfl (by omega) (by omega)
  rw [T186_11_15_643 xs L d]
  repeat rw [if_pos z1]
  repeat rw [if_pos z0]
  rw [i32_clamp (n := s) (by omega), vpb0, vpb1]
  rcases hk with e | e
  · subst e
    rw [if_pos (by decide), zbi_f (fun z => z.1 rfl)]
  · subst e
    rw [if_neg (by decide)]
    have key : (if decide (¬ b0 = (-1 : Int32)) = true then (if zix 0 37 0 b0 then (if decide (I 96 b0.toNatClampNeg < I 77 s - I 76 s) = true then some (Sum.inr (Sum.inr none, zmk (zup I 109 s 0) J X)) else some (Sum.inr (Sum.inr none, zmk (zup I 109 s 1) J X))) else none) else (if decide ((10080 : Int32) < I 77 s - I 76 s) = true then some (Sum.inr (Sum.inr none, zmk (zup I 109 s 0) J X)) else some (Sum.inr (Sum.inr none, zmk (zup I 109 s 1) J X))) : Option Out) = some (Sum.inr (Sum.inr none, zmk (zup I 109 s (if (I 77 s - I 76 s).toInt ≤ lt.toInt then 1 else 0)) J X)) := by
      rcases hb with ⟨h1, h2⟩ | ⟨j, h1, h2, h3⟩
      · rw [h1, h2, if_neg (by decide)]
        by_cases c : (10080 : Int32) < I 77 s - I 76 s
        · rw [if_pos (decide_eq_true c), if_neg (by
            have := i32_lt.mp c
            omega)]
        · have c2 : ¬ (10080 : Int32).toInt < (I 77 s - I 76 s).toInt := fun z => c (i32_lt.mpr z)
          rw [if_neg (fun z => c (of_decide_eq_true z)), if_pos (by omega)]
      · have zj : zix 0 37 0 (Int32.ofNat j) := zix_nat rfl h1 (by omega)
        rw [h2, h3, if_pos (decide_eq_true (show ¬ Int32.ofNat j = -1 from nat_m1 (by omega))), if_pos zj, i32_clamp (n := j) (by omega)]
        by_cases c : I 96 j < I 77 s - I 76 s
        · rw [if_pos (decide_eq_true c), if_neg (by
            have := i32_lt.mp c
            omega)]
        · have c2 : ¬ (I 96 j).toInt < (I 77 s - I 76 s).toInt := fun z => c (i32_lt.mpr z)
          rw [if_neg (fun z => c (of_decide_eq_true z)), if_pos (by omega)]
    have fin : zndel I o → zbi (¬ (1 : Int32) = 0 ∧ zndel I o ∧ (I 77 s - I 76 s).toInt ≤ lt.toInt) = if (I 77 s - I 76 s).toInt ≤ lt.toInt then 1 else 0 := by
      intro hd
      by_cases c : (I 77 s - I 76 s).toInt ≤ lt.toInt
      · rw [if_pos c]
        exact zbi_t ⟨by decide, hd, c⟩
      · rw [if_neg c]
        exact zbi_f (fun z => c z.2.2)
    cases o with
    | none =>
      rw [if_pos (show decide (zlsto none = (-1 : Int32)) = true by decide), key, fin trivial]
    | some c =>
      have hc := ho c rfl
      have e1 : zlsto (some c) = Int32.ofNat c := rfl
      have zc : zix 0 40 0 (Int32.ofNat c) := zix_nat rfl hc (by omega)
      rw [e1, if_neg (fun z => nat_m1 (by omega) (of_decide_eq_true z)), if_pos zc, i32_clamp (n := c) (by omega)]
      by_cases h1 : I 82 c = 1
      · rw [if_pos (decide_eq_true h1), zbi_f (fun z => z.2.1 h1)]
      · rw [if_neg (fun z => h1 (of_decide_eq_true z)), key, fin h1]

theorem jT_642 (xs : Nat → Int32) (L d : Nat) (I : Nat → Nat → Int32) (J : Nat → Nat → Int64) (X : XH) (kn a2 b0 lt : Int32) (s : Nat) (o : Option Nat) (hs : s < 300) (ho : ∀ c, o = some c → c < 40) (hk : kn = 0 ∨ kn = 1) (hb : (b0 = -1 ∧ lt = 10080) ∨ ∃ j, j < 37 ∧ b0 = Int32.ofNat j ∧ lt = I 96 j) [Decidable (¬ kn = 0 ∧ zndel I o ∧ (I 77 s - I 76 s).toInt ≤ lt.toInt)] : zseg (zE xs L (d + 5) 186) (zC 186) 642 (zB186_11.drop 15) [(4, .int kn), (0, .ref 61), (1, .int (Int32.ofNat s)), (2, .int a2), (3, .int (zlsto o))] [.int b0] (zmk I J X) = some (.inr (.inr none, zmk (zup I 109 s (zbi (¬ kn = 0 ∧ zndel I o ∧ (I 77 s - I 76 s).toInt ≤ lt.toInt))) J X)) := by
  have z1 : zix 1 300 1 (Int32.ofNat s) := zix_nat rfl (by omega) (by omega)
  have z0 : zix 0 300 0 (Int32.ofNat s) := zix_nat rfl (by omega) (by omega)
  rw [T186_11_15_642 xs L d]
  repeat rw [if_pos z1]
  repeat rw [if_pos z0]
  rw [i32_clamp (n := s) (by omega), vpb0, vpb1]
  rcases hk with e | e
  · subst e
    rw [if_pos (by decide), zbi_f (fun z => z.1 rfl)]
  · subst e
    rw [if_neg (by decide)]
    have key : (if decide (¬ b0 = (-1 : Int32)) = true then (if zix 0 37 0 b0 then (if decide (I 96 b0.toNatClampNeg < I 77 s - I 76 s) = true then some (Sum.inr (Sum.inr none, zmk (zup I 109 s 0) J X)) else some (Sum.inr (Sum.inr none, zmk (zup I 109 s 1) J X))) else none) else (if decide ((10080 : Int32) < I 77 s - I 76 s) = true then some (Sum.inr (Sum.inr none, zmk (zup I 109 s 0) J X)) else some (Sum.inr (Sum.inr none, zmk (zup I 109 s 1) J X))) : Option Out) = some (Sum.inr (Sum.inr none, zmk (zup I 109 s (if (I 77 s - I 76 s).toInt ≤ lt.toInt then 1 else 0)) J X)) := by
      rcases hb with ⟨h1, h2⟩ | ⟨j, h1, h2, h3⟩
      · rw [h1, h2, if_neg (by decide)]
        by_cases c : (10080 : Int32) < I 77 s - I 76 s
        · rw [if_pos (decide_eq_true c), if_neg (by
            have := i32_lt.mp c
            omega)]
        · have c2 : ¬ (10080 : Int32).toInt < (I 77 s - I 76 s).toInt := fun z => c (i32_lt.mpr z)
          rw [if_neg (fun z => c (of_decide_eq_true z)), if_pos (by omega)]
      · have zj : zix 0 37 0 (Int32.ofNat j) := zix_nat rfl h1 (by omega)
        rw [h2, h3, if_pos (decide_eq_true (show ¬ Int32.ofNat j = -1 from nat_m1 (by omega))), if_pos zj, i32_clamp (n := j) (by omega)]
        by_cases c : I 96 j < I 77 s - I 76 s
        · rw [if_pos (decide_eq_true c), if_neg (by
            have := i32_lt.mp c
            omega)]
        · have c2 : ¬ (I 96 j).toInt < (I 77 s - I 76 s).toInt := fun z => c (i32_lt.mpr z)
          rw [if_neg (fun z => c (of_decide_eq_true z)), if_pos (by omega)]
    have fin : zndel I o → zbi (¬ (1 : Int32) = 0 ∧ zndel I o ∧ (I 77 s - I 76 s).toInt ≤ lt.toInt) = if (I 77 s - I 76 s).toInt ≤ lt.toInt then 1 else 0 := by
      intro hd
      by_cases c : (I 77 s - I 76 s).toInt ≤ lt.toInt
      · rw [if_pos c]
        exact zbi_t ⟨by decide, hd, c⟩
      · rw [if_neg c]
        exact zbi_f (fun z => c z.2.2)
    cases o with
    | none =>
      rw [if_pos (show decide (zlsto none = (-1 : Int32)) = true by decide), key, fin trivial]
    | some c =>
      have hc := ho c rfl
      have e1 : zlsto (some c) = Int32.ofNat c := rfl
      have zc : zix 0 40 0 (Int32.ofNat c) := zix_nat rfl hc (by omega)
      rw [e1, if_neg (fun z => nat_m1 (by omega) (of_decide_eq_true z)), if_pos zc, i32_clamp (n := c) (by omega)]
      by_cases h1 : I 82 c = 1
      · rw [if_pos (decide_eq_true h1), zbi_f (fun z => z.2.1 h1)]
      · rw [if_neg (fun z => h1 (of_decide_eq_true z)), key, fin h1]

