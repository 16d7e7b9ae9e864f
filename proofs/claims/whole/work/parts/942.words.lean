/-! THE PURE PART: words in the class. -/
def yat : Nat → List Int32 → Prop
  | _, [] => True
  | o, c :: w => zch 0 o = c ∧ ¬ c = 32 ∧ yat (o + 1) w
def ywat : Nat → List (List Int32) → Prop
  | o, [] => o = 79
  | o, w :: ws => yat o w ∧ zch 0 (o + w.length) = 32 ∧ o + w.length < 79 ∧ ywat (o + w.length + 1) ws
theorem zlen_0 : zlen 0 = 79 := by decide
theorem u0_0 : (UInt32.ofNat 0).toNat = 0 := rfl
def yatb : Nat → List Int32 → Bool
  | _, [] => true
  | o, c :: w => decide (zch 0 o = c) && (decide (¬ c = 32) && yatb (o + 1) w)
def ywatb : Nat → List (List Int32) → Bool
  | o, [] => decide (o = 79)
  | o, w :: ws => yatb o w && (decide (zch 0 (o + w.length) = 32) && (decide (o + w.length < 79) && ywatb (o + w.length + 1) ws))
theorem yatb_at : ∀ (w : List Int32) (o : Nat), yatb o w = true → yat o w
  | [], _, _ => trivial
  | c :: w, o, h => by
    have h : (decide (zch 0 o = c) && (decide (¬ c = 32) && yatb (o + 1) w)) = true := h
    rw [Bool.and_eq_true, Bool.and_eq_true] at h
    exact ⟨of_decide_eq_true h.1, of_decide_eq_true h.2.1, yatb_at w (o + 1) h.2.2⟩
theorem ywatb_at : ∀ (ws : List (List Int32)) (o : Nat), ywatb o ws = true → ywat o ws
  | [], o, h => (of_decide_eq_true (p := o = 79) h : o = 79)
  | w :: ws, o, h => by
    have h : (yatb o w && (decide (zch 0 (o + w.length) = 32) && (decide (o + w.length < 79) && ywatb (o + w.length + 1) ws))) = true := h
    rw [Bool.and_eq_true, Bool.and_eq_true, Bool.and_eq_true] at h
    exact ⟨yatb_at w o h.1, of_decide_eq_true h.2.1, of_decide_eq_true h.2.2.1, ywatb_at ws _ h.2.2.2⟩
theorem yws_at : ywat 0 yws := ywatb_at yws 0 (by decide +kernel)
theorem row_loop (xs : Nat → Int32) (L d : Nat) (H : Nat → Nat → Int32) (J : Nat → Nat → Int64) (X : XH) (T : Nat → Int32) (p o s : Nat) (hT : H 36 = T) (h3 : H 35 3 = Int32.ofNat p) (hs : s < 79) : ∀ (w : List Int32) (t : Nat), yat (o + t) w → o + t + w.length = s → p + t + w.length ≤ 400 → zgo xs L (d + 5) 49 3 [(0, .ref 35), (1, .int (Int32.ofNat o)), (2, .int (Int32.ofNat s)), (3, .int (Int32.ofNat (o + t)))] (zmk H J X) = some (.inr (some (.int (if ymt T (p + t) w = true then 1 else 0))), zmk H J X)
  | [], t, ha, he, hp => by
    have he : o + t = s := he
    rw [zgo_q, S49_3 xs L d, if_pos (decide_eq_true ((nat_le (by omega) (by omega)).mpr (by omega)))]
    rfl
  | c :: w, t, ha, he, hp => by
    have hl : (c :: w).length = w.length + 1 := List.length_cons
    have ih := row_loop xs L d H J X T p o s hT h3 hs w (t + 1) (by
      rw [show o + (t + 1) = o + t + 1 by omega]
      exact ha.2.2) (by omega) (by omega)
    have ei : Int32.ofNat p + Int32.ofNat (o + t) - Int32.ofNat o = Int32.ofNat (p + t) := by
      rw [nat_add, nat_sub2 (by omega) (by omega), show p + (o + t) - o = p + t by omega]
    have ek : (Int32.ofNat (o + t)).toNatClampNeg = o + t := i32_clamp (by omega)
    have ec : zch (UInt32.ofNat 0).toNat (Int32.ofNat (o + t)).toNatClampNeg = c := by
      rw [ek]
      exact ha.1
    have zz : (UInt32.ofNat 0).toNat < 16 ∧ ¬ (Int32.ofNat (o + t) < 0 ∨ zlen (UInt32.ofNat 0).toNat ≤ (Int32.ofNat (o + t)).toNatClampNeg) ∧ 0 ≤ 4 := by
      refine ⟨by decide, fun z => ?_, by decide⟩
      rcases z with z | z
      · have z := i32_lt.mp z
        rw [i32_toInt (by omega)] at z
        have : (0 : Int32).toInt = 0 := by decide
        omega
      · rw [ek, u0_0, zlen_0] at z
        omega
    have zl : ¬ decide (Int32.ofNat (zlen (UInt32.ofNat 0).toNat) ≤ Int32.ofNat (o + t)) = true := fun z => by
      have z := of_decide_eq_true z
      rw [u0_0, zlen_0] at z
      have := (nat_le (by omega) (by omega)).mp z
      omega
    have em : ymt T (p + t) (c :: w) = (decide (c = T (p + t)) && ymt T (p + t + 1) w) := rfl
    rw [zgo_q, S49_3 xs L d, if_neg (fun z => by
      have := (nat_le (by omega) (by omega)).mp (of_decide_eq_true z)
      omega), if_neg zl, if_pos zz, ec, h3, ei, zat_nat (by omega) (by omega), hT, em]
    by_cases q : c = T (p + t)
    · rw [if_pos (decide_eq_true q), decide_eq_true q, Bool.true_and, zth_go, nat_succ]
      exact ih
    · rw [if_neg (fun z => q (of_decide_eq_true z)), decide_eq_false q, Bool.false_and, if_neg (show ¬ false = true by decide)]
      rfl
theorem row_c (xs : Nat → Int32) (L D : Nat) (hD : 6 ≤ D) (H : Nat → Nat → Int32) (J : Nat → Nat → Int64) (X : XH) (T : Nat → Int32) (p q o : Nat) (w : List Int32) (hT : H 36 = T) (h3 : H 35 3 = Int32.ofNat p) (h4 : H 35 4 = Int32.ofNat q) (hp : p ≤ q) (hq : q ≤ 400) (ha : yat o w) (hs : o + w.length < 79) : zev xs L D 49 [.ref 35, .int (Int32.ofNat o), .int (Int32.ofNat (o + w.length))] (zmk H J X) = some (.inr (some (.int (if yrow9 T p (q - p) w = true then 1 else 0))), zmk H J X) := by
  obtain ⟨d, rfl⟩ := Nat.exists_eq_add_of_le hD
  rw [Nat.add_comm 6 d]
  refine (zcS (S49_0 xs L d H J X _ _)).trans ?_
  have er : yrow9 T p (q - p) w = (decide (w.length = q - p) && ymt T p w) := rfl
  rw [h3, h4, nat_sub2 (by omega) (by omega), nat_sub2 (by omega) hp, show o + w.length - o = w.length by omega, er]
  by_cases c : w.length = q - p
  · rw [if_pos (decide_eq_true (show Int32.ofNat w.length = Int32.ofNat (q - p) by rw [c])), decide_eq_true c, Bool.true_and, zth_go]
    exact row_loop xs L d H J X T p o (o + w.length) hT h3 hs w 0 ha rfl (by omega)
  · rw [if_neg (fun z => c (i32_nat_inj (by omega) (by omega) (of_decide_eq_true z))), decide_eq_false c, Bool.false_and, if_neg (show ¬ false = true by decide)]
    rfl
theorem char_loop (xs : Nat → Int32) (L d : Nat) (H : Nat → Nat → Int32) (J : Nat → Nat → Int64) (X : XH) (a1 a2 : Int32) (o : Nat) : ∀ (w : List Int32) (t : Nat), yat (o + t) w → o + t + w.length < 79 → zgo xs L (d + 5) 48 4 [(0, .ref 35), (1, .int a1), (2, .int a2), (3, .int (Int32.ofNat (o + t)))] (zmk H J X) = zgo xs L (d + 5) 48 4 [(0, .ref 35), (1, .int a1), (2, .int a2), (3, .int (Int32.ofNat (o + t + w.length)))] (zmk H J X)
  | [], _, _, _ => rfl
  | c :: w, t, ha, hs => by
    have hl : (c :: w).length = w.length + 1 := List.length_cons
    have ih := char_loop xs L d H J X a1 a2 o w (t + 1) (by
      rw [show o + (t + 1) = o + t + 1 by omega]
      exact ha.2.2) (by omega)
    have ek : (Int32.ofNat (o + t)).toNatClampNeg = o + t := i32_clamp (by omega)
    have ec : zch (UInt32.ofNat 0).toNat (Int32.ofNat (o + t)).toNatClampNeg = c := by
      rw [ek]
      exact ha.1
    have zz : (UInt32.ofNat 0).toNat < 16 ∧ ¬ (Int32.ofNat (o + t) < 0 ∨ zlen (UInt32.ofNat 0).toNat ≤ (Int32.ofNat (o + t)).toNatClampNeg) ∧ 0 ≤ 4 := by
      refine ⟨by decide, fun z => ?_, by decide⟩
      rcases z with z | z
      · have z := i32_lt.mp z
        rw [i32_toInt (by omega)] at z
        have : (0 : Int32).toInt = 0 := by decide
        omega
      · rw [ek, u0_0, zlen_0] at z
        omega
    have zl : ¬ decide (Int32.ofNat (zlen (UInt32.ofNat 0).toNat) ≤ Int32.ofNat (o + t)) = true := fun z => by
      have z := of_decide_eq_true z
      rw [u0_0, zlen_0] at z
      have := (nat_le (by omega) (by omega)).mp z
      omega
    rw [zgo_q, S48_4 xs L d, if_neg zl, if_pos zz, ec, if_pos (decide_eq_true ha.2.1), zth_go, nat_succ]
    rw [show o + t + (c :: w).length = o + (t + 1) + w.length by omega]
    exact ih
theorem word_loop (xs : Nat → Int32) (L d : Nat) (J : Nat → Nat → Int64) (X : XH) (T : Nat → Int32) (p q : Nat) (hp : p ≤ q) (hq : q ≤ 400) : ∀ (ws : List (List Int32)) (o i : Nat) (x : Int32) (H : Nat → Nat → Int32), ywat o ws → i + ws.length ≤ 100 → H 36 = T → H 35 3 = Int32.ofNat p → H 35 4 = Int32.ofNat q → H 35 5 = x → ∃ H', zgo xs L (d + 1 + 5) 48 4 [(0, .ref 35), (1, .int (Int32.ofNat o)), (2, .int (Int32.ofNat i)), (3, .int (Int32.ofNat o))] (zmk H J X) = some (.inr none, zmk H' J X) ∧ yf35 [5] H H' ∧ H' 35 5 = ywd T p (q - p) i ws x
  | [], o, i, x, H, ha, hi, hT, h3, h4, h5 => by
    have ha : o = 79 := ha
    refine ⟨H, ?_, yf35_rfl, h5⟩
    have zl : decide (Int32.ofNat (zlen (UInt32.ofNat 0).toNat) ≤ Int32.ofNat o) = true := decide_eq_true (by
      rw [u0_0, zlen_0, ha]
      exact (nat_le (by omega) (by omega)).mpr (Nat.le_refl _))
    rw [zgo_q, S48_4 xs L (d + 1), if_pos zl]
    rfl
  | w :: ws, o, i, x, H, ha, hi, hT, h3, h4, h5 => by
    have hl : (w :: ws).length = ws.length + 1 := List.length_cons
    obtain ⟨a1, a2, a3, a4⟩ := ha
    have c0 : zgo xs L (d + 1 + 5) 48 4 [(0, .ref 35), (1, .int (Int32.ofNat o)), (2, .int (Int32.ofNat i)), (3, .int (Int32.ofNat o))] (zmk H J X) = zgo xs L (d + 1 + 5) 48 4 [(0, .ref 35), (1, .int (Int32.ofNat o)), (2, .int (Int32.ofNat i)), (3, .int (Int32.ofNat (o + w.length)))] (zmk H J X) := char_loop xs L (d + 1) H J X (Int32.ofNat o) (Int32.ofNat i) o w 0 a1 a3
    have r := row_c xs L (d + 1 + 5) (by omega) H J X T p q o w hT h3 h4 hp hq a1 a3
    have ek : (Int32.ofNat (o + w.length)).toNatClampNeg = o + w.length := i32_clamp (by omega)
    have ec : zch (UInt32.ofNat 0).toNat (Int32.ofNat (o + w.length)).toNatClampNeg = 32 := by
      rw [ek]
      exact a2
    have zz : (UInt32.ofNat 0).toNat < 16 ∧ ¬ (Int32.ofNat (o + w.length) < 0 ∨ zlen (UInt32.ofNat 0).toNat ≤ (Int32.ofNat (o + w.length)).toNatClampNeg) ∧ 0 ≤ 4 := by
      refine ⟨by decide, fun z => ?_, by decide⟩
      rcases z with z | z
      · have z := i32_lt.mp z
        rw [i32_toInt (by omega)] at z
        have : (0 : Int32).toInt = 0 := by decide
        omega
      · rw [ek, u0_0, zlen_0] at z
        omega
    have zl : ¬ decide (Int32.ofNat (zlen (UInt32.ofNat 0).toNat) ≤ Int32.ofNat (o + w.length)) = true := fun z => by
      have z := of_decide_eq_true z
      rw [u0_0, zlen_0] at z
      have := (nat_le (by omega) (by omega)).mp z
      omega
    have S := c0
    rw [zgo_q xs L (d + 1 + 5) 48 4 [(0, .ref 35), (1, .int (Int32.ofNat o)), (2, .int (Int32.ofNat i)), (3, .int (Int32.ofNat (o + w.length)))], S48_4 xs L (d + 1), if_neg zl, if_pos zz, ec, if_neg (show ¬ decide (¬ (32 : Int32) = 32) = true by decide), r, zci_i, T48_4_13_687 xs L (d + 1), nat_succ, nat_succ] at S
    by_cases q9 : yrow9 T p (q - p) w = true
    · rw [if_pos q9, if_neg (show ¬ decide ((1 : Int32) = 0) = true by decide), zth_go] at S
      obtain ⟨H', s1, s2, s3⟩ := word_loop xs L d J X T p q hp hq ws (o + w.length + 1) (i + 1) ((300 : Int32) + Int32.ofNat i) (zup H 35 5 ((300 : Int32) + Int32.ofNat i)) a4 (by omega) hT ((zup_k (by decide)).trans h3) ((zup_k (by decide)).trans h4) zup_at
      refine ⟨H', S.trans s1, yf35_tr (yf35_up yf35_rfl (by decide)) s2 (fun _ h => h), ?_⟩
      rw [s3]
      show _ = ywd T p (q - p) (i + 1) ws (if yrow9 T p (q - p) w = true then _ else _)
      rw [if_pos q9]
    · rw [if_neg q9, if_pos (show decide ((0 : Int32) = 0) = true by decide), zth_go] at S
      obtain ⟨H', s1, s2, s3⟩ := word_loop xs L d J X T p q hp hq ws (o + w.length + 1) (i + 1) x H a4 (by omega) hT h3 h4 h5
      refine ⟨H', S.trans s1, s2, ?_⟩
      rw [s3]
      show _ = ywd T p (q - p) (i + 1) ws (if yrow9 T p (q - p) w = true then _ else _)
      rw [if_neg q9]
