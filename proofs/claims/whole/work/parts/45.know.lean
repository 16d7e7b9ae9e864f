/-! THE PURE PART: where each signal counts, as the class finds it. -/
/-- the roads of the signals, overruled by the first e decisions as known at k -/
def zdw (I : Nat → Nat → Int32) (k : Int32) (f : Nat → Int32) : Nat → Nat → Int32
  | 0 => f
  | i + 1 => if (I 22 (nv (I 25 i))).toInt ≤ k.toInt ∧ ¬ I 23 (nv (I 25 i)) = 0 then zset (zdw I k f i) (nv (I 21 (nv (I 25 i)))) (if I 23 (nv (I 25 i)) = 2 then I 24 (nv (I 25 i)) else -1) else zdw I k f i
theorem over_loop (xs : Nat → Int32) (L d : Nat) (I : Nat → Nat → Int32) (J : Nat → Nat → Int64) (X : XH) (k : Int32) (f : Nat → Int32) (e m n : Nat) (he : I 20 1 = Int32.ofNat e) (hem : e ≤ 40) (hm : m ≤ 40) (hn : n ≤ 300) (h : ∀ t, t < e → (0 ≤ (I 25 t).toInt ∧ (I 25 t).toInt < m) ∧ 0 ≤ (I 21 (nv (I 25 t))).toInt ∧ (I 21 (nv (I 25 t))).toInt < n) : ∀ (j i : Nat), i + j = e → zgo xs L (d + 5) 10 2 [(0, .ref 20), (1, .ref 33), (2, .int k), (3, .int (Int32.ofNat i))] (zmk (zov I 33 (zdw I k f i)) J X) = some (.inr none, zmk (zov I 33 (zdw I k f e)) J X)
  | 0, i, hi => by
    have hi : i = e := by omega
    subst hi
    rw [zgo_q, S10_2]
    have e1 : zov I 33 (zdw I k f i) 20 1 = I 20 1 := rfl
    rw [e1, he, if_pos (decide_eq_true ((nat_le (by omega) (by omega)).mpr (Nat.le_refl _)))]
    rfl
  | j + 1, i, hi => by
    have ih := over_loop xs L d I J X k f e m n he hem hm hn h j (i + 1) (by omega)
    obtain ⟨h1, h2⟩ := h i (by omega)
    have n1 := nv_int h1.1
    have n2 := nv_int h2.1
    have e1 : zov I 33 (zdw I k f i) 20 1 = I 20 1 := rfl
    have e25 : zat (zov I 33 (zdw I k f i)) 25 40 (Int32.ofNat i) = I 25 i := by
      rw [zat_nat (by omega) (by omega)]
      rfl
    have ea : ∀ a, a ≠ 33 → zat (zov I 33 (zdw I k f i)) a 40 (I 25 i) = I a (nv (I 25 i)) := by
      intro a ha
      rw [zat_of h1.1 (by omega), zov_ne ha]
    rw [zgo_q, S10_2, e1, he, if_neg (fun z => by
      have := (nat_le (by omega) (by omega)).mp (of_decide_eq_true z)
      omega), e25, ea 22 (by decide), ea 23 (by decide), ea 21 (by decide), ea 24 (by decide), nat_succ]
    have hput : ∀ v, zput (zov I 33 (zdw I k f i)) 33 300 (I 21 (nv (I 25 i))) v = zov I 33 (zset (zdw I k f i) (nv (I 21 (nv (I 25 i)))) v) := by
      intro v
      rw [zput_of h2.1 (by omega), zup_zov]
    rw [hput, hput]
    by_cases c1 : k < I 22 (nv (I 25 i))
    · rw [if_pos (decide_eq_true c1), zth_go]
      have c1 := i32_lt.mp c1
      have es : zdw I k f (i + 1) = zdw I k f i := if_neg (fun z => by have := z.1; omega)
      rw [es] at ih
      exact ih
    rw [if_neg (fun z => c1 (of_decide_eq_true z))]
    have c1 : (I 22 (nv (I 25 i))).toInt ≤ k.toInt := by
      have : ¬ k.toInt < (I 22 (nv (I 25 i))).toInt := fun z => c1 (i32_lt.mpr z)
      omega
    by_cases c2 : I 23 (nv (I 25 i)) = 0
    · rw [if_pos (decide_eq_true c2), zth_go]
      have es : zdw I k f (i + 1) = zdw I k f i := if_neg (fun z => z.2 c2)
      rw [es] at ih
      exact ih
    rw [if_neg (fun z => c2 (of_decide_eq_true z))]
    have es : zdw I k f (i + 1) = zset (zdw I k f i) (nv (I 21 (nv (I 25 i)))) (if I 23 (nv (I 25 i)) = 2 then I 24 (nv (I 25 i)) else -1) := if_pos ⟨c1, c2⟩
    rw [es] at ih
    by_cases c3 : I 23 (nv (I 25 i)) = 2
    · rw [if_neg (fun z => (of_decide_eq_true z) c3), zth_go]
      rw [if_pos c3] at ih
      exact ih
    · rw [if_pos (decide_eq_true (show ¬ I 23 (nv (I 25 i)) = 2 from c3)), zth_go]
      rw [if_neg c3] at ih
      exact ih
theorem over_eq (xs : Nat → Int32) (L D : Nat) (hD : 6 ≤ D) (I : Nat → Nat → Int32) (J : Nat → Nat → Int64) (X : XH) (k : Int32) (f : Nat → Int32) (e m n : Nat) (he : I 20 1 = Int32.ofNat e) (hem : e ≤ 40) (hm : m ≤ 40) (hn : n ≤ 300) (h : ∀ t, t < e → (0 ≤ (I 25 t).toInt ∧ (I 25 t).toInt < m) ∧ 0 ≤ (I 21 (nv (I 25 t))).toInt ∧ (I 21 (nv (I 25 t))).toInt < n) : zev xs L D 10 [.ref 20, .ref 33, .int k] (zmk (zov I 33 f) J X) = some (.inr none, zmk (zov I 33 (zdw I k f e)) J X) := by
  obtain ⟨d, rfl⟩ := Nat.exists_eq_add_of_le hD
  rw [Nat.add_comm 6 d]
  refine (zcS (S10_0 xs L d _ J X _)).trans ?_
  rw [zth_go]
  exact over_loop xs L d I J X k f e m n he hem hm hn h e 0 (by omega)
/-- a signal is known at k -/
abbrev zkn (I : Nat → Nat → Int32) (k : Int32) (s : Nat) : Prop := (I 30 s).toInt ≤ k.toInt ∧ (I 31 s = -1 ∨ k.toInt < (I 31 s).toInt)
theorem known_eq (xs : Nat → Int32) (L D : Nat) (hD : 6 ≤ D) (I : Nat → Nat → Int32) (J : Nat → Nat → Int64) (X : XH) (k : Int32) (s : Nat) (hs : s < 300) : zev xs L D 71 [.ref 26, .int (Int32.ofNat s), .int k] (zmk I J X) = some (.inr (some (.int (zbi (zkn I k s)))), zmk I J X) := by
  obtain ⟨d, rfl⟩ := Nat.exists_eq_add_of_le hD
  rw [Nat.add_comm 6 d]
  refine (zcS (S71_0 xs L d I J X _ _)).trans ?_
  rw [zat_nat (by omega) (by omega), zat_nat (by omega) (by omega)]
  by_cases c1 : k < I 30 s
  · rw [if_pos (decide_eq_true c1), zbi_f (fun z => by
      have c1 := i32_lt.mp c1
      have := z.1
      omega)]
    rfl
  rw [if_neg (fun z => c1 (of_decide_eq_true z))]
  have c1 : (I 30 s).toInt ≤ k.toInt := by
    have : ¬ k.toInt < (I 30 s).toInt := fun z => c1 (i32_lt.mpr z)
    omega
  by_cases c2 : I 31 s = -1
  · rw [if_pos (decide_eq_true c2), zbi_t ⟨c1, Or.inl c2⟩]
    rfl
  rw [if_neg (fun z => c2 (of_decide_eq_true z))]
  by_cases c3 : I 31 s ≤ k
  · rw [if_pos (decide_eq_true c3), zbi_f (fun z => z.2.elim c2 (fun z => by
      have c3 := i32_le.mp c3
      omega))]
    rfl
  · rw [if_neg (fun z => c3 (of_decide_eq_true z))]
    have c3 : ¬ (I 31 s).toInt ≤ k.toInt := fun z => c3 (i32_le.mpr z)
    rw [zbi_t ⟨c1, Or.inr (by omega)⟩]
    rfl
/-- the terms of a land on both sides: where they lie, what they tell -/
def zTm (V I : Nat → Nat → Int32) (X : XH) (k : Int32) (l m : Nat) (ρ : Nat → Nat) (O : Nat → Int32) : Prop := m ≤ 4 ∧ V 92 l = Int32.ofNat m ∧ zEnt I X l (zNm V l m) ρ (zFm V l m) O ∧ (∀ i, i < m → O i = V 94 (4 * l + i)) ∧ (∀ i, i < zNm V l m → ¬ i < m → (O i).toInt ≤ k.toInt) ∧ (I 16 2 = 10080 ∧ I 16 3 = 30) ∧ ∀ i, i < zNm V l m → I (ρ i) 2 = V 96 (if i < m then 4 * l + i else 36) ∧ I (ρ i) 3 = V 97 (if i < m then 4 * l + i else 36)
/-- how late a signal may be told, within how many minutes one makes another double -/
def zlate (I : Nat → Nat → Int32) (l m : Nat) (t k : Int32) : Int32 := match zbst (zFm I l m) (zOm I l m k) t k (zNm I l m) with
  | none => 10080
  | some j => I 96 (if j < m then 4 * l + j else 36)
def znear (I : Nat → Nat → Int32) (l m : Nat) (t k : Int32) : Int32 := match zbst (zFm I l m) (zOm I l m k) t k (zNm I l m) with
  | none => 30
  | some j => I 97 (if j < m then 4 * l + j else 36)
theorem zTm_bst {V I : Nat → Nat → Int32} {X : XH} {k : Int32} {l m : Nat} {ρ : Nat → Nat} {O : Nat → Int32} (h : zTm V I X k l m ρ O) (t : Int32) : zbst (zFm V l m) O t k (zNm V l m) = zbst (zFm V l m) (zOm V l m k) t k (zNm V l m) := by
  refine zbst_congr (fun i hi => ⟨rfl, ?_⟩)
  unfold zOm
  by_cases c : i < m
  · rw [if_pos c, h.2.2.2.1 i c]
  · rw [if_neg c]
    exact ⟨fun _ => Int.le_refl _, fun _ => h.2.2.2.2.1 i hi c⟩
/-- what the class finds for a minute: an object of the right kind that tells these two -/
theorem zTm_find {V I : Nat → Nat → Int32} {X : XH} {k : Int32} {l m : Nat} {ρ : Nat → Nat} {O : Nat → Int32} (J : Nat → Nat → Int64) (h : zTm V I X k l m ρ O) (t : Int32) : hK (zmk I J X) (zrfo ρ (zbst (zFm V l m) O t k (zNm V l m))) = (18, 0) ∧ I (zrfo ρ (zbst (zFm V l m) O t k (zNm V l m))) 2 = zlate V l m t k ∧ I (zrfo ρ (zbst (zFm V l m) O t k (zNm V l m))) 3 = znear V l m t k := by
  unfold zlate znear
  rw [zTm_bst h t]
  cases e : zbst (zFm V l m) (zOm V l m k) t k (zNm V l m) with
  | none => exact ⟨rfl, h.2.2.2.2.2.1.1, h.2.2.2.2.2.1.2⟩
  | some j =>
    have hj := zbst_lt e
    obtain ⟨_, q2, q3, _, _, _⟩ := h.2.2.1.2.2.2.2 j hj
    have q := h.2.2.2.2.2.2 j hj
    exact ⟨(zmk_K q2).trans q3, q.1, q.2⟩
theorem late_eq (xs : Nat → Int32) (L D : Nat) (hD : 8 ≤ D) (V I : Nat → Nat → Int32) (J : Nat → Nat → Int64) (X : XH) (k : Int32) (s l m : Nat) (ρ : Nat → Nat) (O : Nat → Int32) (hs : s < 300) (hw : ¬ I 33 s = -1) (hr : 0 ≤ (I 33 s).toInt ∧ (I 33 s).toInt < 40) (hl : I 4 (nv (I 33 s)) = Int32.ofNat l) (h : zTm V I X k l m ρ O) : zev xs L D 72 [.ref 26, .int (Int32.ofNat s), .int k] (zmk I J X) = some (.inr (some (.int (if (I 30 s - I 29 s).toInt ≤ (zlate V l m (I 29 s) k).toInt then 0 else 1))), zmk I J X) := by
  obtain ⟨d, rfl⟩ := Nat.exists_eq_add_of_le hD
  rw [show 8 + d = d + 2 + 6 by omega]
  refine (zcS (S72_0 xs L (d + 2) I J X _ _)).trans ?_
  have e33 : zat I 33 300 (Int32.ofNat s) = I 33 s := zat_nat (by omega) (by omega)
  have e29 : zat I 29 300 (Int32.ofNat s) = I 29 s := zat_nat (by omega) (by omega)
  have e30 : zat I 30 300 (Int32.ofNat s) = I 30 s := zat_nat (by omega) (by omega)
  have e4 : zat I 4 40 (I 33 s) = Int32.ofNat l := (zat_of hr.1 hr.2).trans hl
  obtain ⟨f1, f2, f3⟩ := zTm_find J h (I 29 s)
  rw [e33, e29, e30, e4, if_neg (fun z => hw (of_decide_eq_true z)), find_eq xs L _ (by omega) I J X l _ ρ _ O (I 29 s) k h.2.2.1, zcr_r, T72_0_26_674, if_pos f1, f2]
  by_cases c : (I 30 s - I 29 s).toInt ≤ (zlate V l m (I 29 s) k).toInt
  · rw [if_pos (decide_eq_true (i32_le.mpr c)), if_pos c]
    rfl
  · rw [if_neg (fun z => c (i32_le.mp (of_decide_eq_true z))), if_neg c]
    rfl
theorem late_no (xs : Nat → Int32) (L D : Nat) (hD : 8 ≤ D) (I : Nat → Nat → Int32) (J : Nat → Nat → Int64) (X : XH) (k : Int32) (s : Nat) (hs : s < 300) (hw : I 33 s = -1) : zev xs L D 72 [.ref 26, .int (Int32.ofNat s), .int k] (zmk I J X) = some (.inr (some (.int 0)), zmk I J X) := by
  obtain ⟨d, rfl⟩ := Nat.exists_eq_add_of_le hD
  rw [show 8 + d = d + 2 + 6 by omega]
  refine (zcS (S72_0 xs L (d + 2) I J X _ _)).trans ?_
  have e33 : zat I 33 300 (Int32.ofNat s) = I 33 s := zat_nat (by omega) (by omega)
  rw [e33, if_pos (decide_eq_true hw)]
  rfl
