/-! THE PURE PART: which word it is, in the model. -/
def yas : Nat → Nat → List Int32 → Prop
  | s, o, [] => zlen s = o
  | s, o, c :: w => zch s o = c ∧ o < zlen s ∧ yas s (o + 1) w
def yasb : Nat → Nat → List Int32 → Bool
  | s, o, [] => decide (zlen s = o)
  | s, o, c :: w => decide (zch s o = c) && (decide (o < zlen s) && yasb s (o + 1) w)
theorem yasb_at : ∀ (s : Nat) (w : List Int32) (o : Nat), yasb s o w = true → yas s o w
  | s, [], o, h => (of_decide_eq_true (p := zlen s = o) h : zlen s = o)
  | s, c :: w, o, h => by
    have h : (decide (zch s o = c) && (decide (o < zlen s) && yasb s (o + 1) w)) = true := h
    rw [Bool.and_eq_true, Bool.and_eq_true] at h
    exact ⟨of_decide_eq_true h.1, of_decide_eq_true h.2.1, yasb_at s w (o + 1) h.2.2⟩
/-- the string of the i-th word -/
def ystr (i : Nat) : Nat := [9, 10, 11, 12, 14, 15, 13, 1, 2, 3, 4, 5, 6, 7, 8].getD i 0
def ywi (i : Nat) : List Int32 := yws.getD i []
theorem yas_all : ∀ i, i < 15 → ystr i < 16 ∧ zlen (ystr i) < 10 ∧ (ywi i).length = zlen (ystr i) ∧ yas (ystr i) 0 (ywi i) := fun i hi => by
  have h : ∀ i, i < 15 → ystr i < 16 ∧ zlen (ystr i) < 10 ∧ (ywi i).length = zlen (ystr i) ∧ yasb (ystr i) 0 (ywi i) = true := by decide +kernel
  obtain ⟨h1, h2, h3, h4⟩ := h i hi
  exact ⟨h1, h2, h3, yasb_at _ _ _ h4⟩
theorem is_loop (xs : Nat → Int32) (L d : Nat) (M : Nat → Nat → Int32) (J : Nat → Nat → Int64) (X : XH) (T : Nat → Int32) (p s : Nat) (hs : s < 16) (hl : zlen s < 10) (hT : M 104 = T) (h63 : M 61 63 = Int32.ofNat p) (hp : p + zlen s ≤ 400) : ∀ (w : List Int32) (o : Nat), yas s o w → zgo xs L (d + 5) 166 4 [(0, .ref 61), (1, .float (UInt32.ofNat s)), (2, .int 1), (3, .int (Int32.ofNat o))] (zmk M J X) = some (.inr (some (.int (if ymt T (p + o) w = true then 1 else 0))), zmk M J X)
  | [], o, ha => by
    have ha : zlen s = o := ha
    have us : (UInt32.ofNat s).toNat = s := by
      rw [UInt32.toNat_ofNat', Nat.mod_eq_of_lt (by omega)]
    rw [zgo_q, S166_4 xs L d, if_neg (show ¬ decide ((1 : Int32) = 0) = true by decide), us, if_pos ⟨hs, by decide⟩, if_pos (decide_eq_true ((nat_le (by omega) (by omega)).mpr (by omega))), if_pos (Or.inr rfl)]
    rfl
  | c :: w, o, ha => by
    have us : (UInt32.ofNat s).toNat = s := by
      rw [UInt32.toNat_ofNat', Nat.mod_eq_of_lt (by omega)]
    have ho := ha.2.1
    have ih := is_loop xs L d M J X T p s hs hl hT h63 hp w (o + 1) ha.2.2
    have eo : (Int32.ofNat o).toNatClampNeg = o := i32_clamp (by omega)
    have zz : s < 16 ∧ ¬ (Int32.ofNat o < 0 ∨ zlen s ≤ (Int32.ofNat o).toNatClampNeg) ∧ 0 ≤ 4 := by
      refine ⟨hs, fun z => ?_, by decide⟩
      rcases z with z | z
      · have z := i32_lt.mp z
        rw [i32_toInt (by omega)] at z
        have : (0 : Int32).toInt = 0 := by decide
        omega
      · rw [eo] at z
        omega
    have ec : zch s (Int32.ofNat o).toNatClampNeg = c := by rw [eo, ha.1]
    have ek : M 104 (Int32.ofNat (p + o)).toNatClampNeg = T (p + o) := by rw [i32_clamp (by omega), hT]
    have em : ymt T (p + o) (c :: w) = (decide (c = T (p + o)) && ymt T (p + o + 1) w) := rfl
    rw [zgo_q, S166_4 xs L d, if_neg (show ¬ decide ((1 : Int32) = 0) = true by decide), us, if_pos ⟨hs, by decide⟩, if_neg (fun z => by
      have := (nat_le (by omega) (by omega)).mp (of_decide_eq_true z)
      omega), if_pos zz, h63, nat_add, if_pos (zix_nat rfl (by omega) (by omega)), ec, ek, em]
    by_cases q : c = T (p + o)
    · rw [if_neg (fun z => (of_decide_eq_true z) q), decide_eq_true q, Bool.true_and, zth_go, nat_succ]
      exact ih
    · rw [if_pos (decide_eq_true q), decide_eq_false q, Bool.false_and, if_neg (show ¬ false = true by decide), zth_go, zgo_q, S166_4 xs L d, if_pos (show decide ((0 : Int32) = 0) = true by decide), if_pos (Or.inl rfl)]
      rfl
theorem is_0 (xs : Nat → Int32) (L d : Nat) (M : Nat → Nat → Int32) (J : Nat → Nat → Int64) (X : XH) (s : UInt32) (a : Int32) : zgo xs L (d + 5) 166 4 [(0, .ref 61), (1, .float s), (2, .int 0), (3, .int a)] (zmk M J X) = some (.inr (some (.int 0)), zmk M J X) := by
  rw [zgo_q, S166_4 xs L d, if_pos (show decide ((0 : Int32) = 0) = true by decide), if_pos (Or.inl rfl)]
  rfl
theorem is_m (xs : Nat → Int32) (L D : Nat) (hD : 6 ≤ D) (M : Nat → Nat → Int32) (J : Nat → Nat → Int64) (X : XH) (T : Nat → Int32) (p q i : Nat) (hi : i < 15) (hT : M 104 = T) (h63 : M 61 63 = Int32.ofNat p) (h64 : M 61 64 = Int32.ofNat q) (hpq : p ≤ q) (hq : q ≤ 400) : zev xs L D 166 [.ref 61, .float (UInt32.ofNat (ystr i))] (zmk M J X) = some (.inr (some (.int (if M 61 65 = 0 ∧ M 61 60 = 1 ∧ yrow9 T p (q - p) (ywi i) = true then 1 else 0))), zmk M J X) := by
  obtain ⟨d, rfl⟩ := Nat.exists_eq_add_of_le hD
  rw [Nat.add_comm 6 d]
  obtain ⟨hs, hl, h3, h4⟩ := yas_all i hi
  have us : (UInt32.ofNat (ystr i)).toNat = ystr i := by
    rw [UInt32.toNat_ofNat', Nat.mod_eq_of_lt (by omega)]
  refine (zcS (S166_0 xs L d M J X _)).trans ?_
  by_cases c1 : M 61 65 = 0
  · rw [if_neg (fun z => (of_decide_eq_true z) c1)]
    by_cases c2 : M 61 60 = 1
    · rw [if_neg (fun z => (of_decide_eq_true z) c2), us, if_pos ⟨hs, by decide⟩, h63, h64, nat_sub2 (by omega) hpq]
      have ey : yrow9 T p (q - p) (ywi i) = (decide ((ywi i).length = q - p) && ymt T p (ywi i)) := rfl
      by_cases c3 : zlen (ystr i) = q - p
      · rw [if_neg (fun z => (of_decide_eq_true z) (by rw [c3])), zth_go]
        have lo := is_loop xs L d M J X T p (ystr i) hs hl hT h63 (by omega) (ywi i) 0 h4
        refine Eq.trans lo ?_
        rw [ey, h3, decide_eq_true c3, Bool.true_and]
        by_cases c4 : ymt T (p + 0) (ywi i) = true
        · rw [if_pos c4, if_pos ⟨c1, c2, c4⟩]
        · rw [if_neg c4, if_neg (fun z => c4 z.2.2)]
      · rw [if_pos (decide_eq_true (show ¬ Int32.ofNat (zlen (ystr i)) = Int32.ofNat (q - p) from fun z => c3 (i32_nat_inj (by omega) (by omega) z))), zth_go, is_0, ey, h3, decide_eq_false c3, Bool.false_and, if_neg (show ¬ (M 61 65 = 0 ∧ M 61 60 = 1 ∧ false = true) from fun z => absurd z.2.2 (by decide))]
    · rw [if_pos (decide_eq_true c2), zth_go, is_0, if_neg (fun z => c2 z.2.1)]
  · rw [if_pos (decide_eq_true c1), zth_go, is_0, if_neg (fun z => c1 z.1)]
theorem ymt_uniq {T : Nat → Int32} : ∀ (w v : List Int32) (p : Nat), w.length = v.length → ymt T p w = true → ymt T p v = true → w = v
  | [], [], _, _, _, _ => rfl
  | [], _ :: _, _, h, _, _ => by cases h
  | _ :: _, [], _, h, _, _ => by cases h
  | c :: w, e :: v, p, h, h1, h2 => by
    have h1 : (decide (c = T p) && ymt T (p + 1) w) = true := h1
    have h2 : (decide (e = T p) && ymt T (p + 1) v) = true := h2
    rw [Bool.and_eq_true] at h1 h2
    have hl : w.length = v.length := by
      rw [List.length_cons, List.length_cons] at h
      omega
    rw [ymt_uniq w v (p + 1) hl h1.2 h2.2, of_decide_eq_true h1.1, ← of_decide_eq_true h2.1]
theorem yrow_uniq {T : Nat → Int32} {p l : Nat} {w v : List Int32} (h1 : yrow9 T p l w = true) (h2 : yrow9 T p l v = true) : w = v := by
  have h1 : (decide (w.length = l) && ymt T p w) = true := h1
  have h2 : (decide (v.length = l) && ymt T p v) = true := h2
  rw [Bool.and_eq_true] at h1 h2
  exact ymt_uniq w v p ((of_decide_eq_true h1.1).trans (of_decide_eq_true h2.1).symm) h1.2 h2.2
theorem ywd_spec {T : Nat → Int32} {p l : Nat} : ∀ (ws : List (List Int32)) (i : Nat) (x : Int32), (ywd T p l i ws x = x ∧ ∀ j, j < ws.length → yrow9 T p l (ws.getD j []) = false) ∨ ∃ j, j < ws.length ∧ yrow9 T p l (ws.getD j []) = true ∧ ywd T p l i ws x = (300 : Int32) + Int32.ofNat (i + j)
  | [], i, x => Or.inl ⟨rfl, fun j hj => absurd hj (Nat.not_lt_zero j)⟩
  | w :: ws, i, x => by
    have hl : (w :: ws).length = ws.length + 1 := List.length_cons
    have e : ywd T p l i (w :: ws) x = ywd T p l (i + 1) ws (if yrow9 T p l w = true then (300 : Int32) + Int32.ofNat i else x) := rfl
    rcases ywd_spec (T := T) (p := p) (l := l) ws (i + 1) (if yrow9 T p l w = true then (300 : Int32) + Int32.ofNat i else x) with ⟨h1, h2⟩ | ⟨j, h1, h2, h3⟩
    · by_cases c : yrow9 T p l w = true
      · rw [if_pos c] at h1
        exact Or.inr ⟨0, by omega, c, by rw [e, if_pos c, h1]; rfl⟩
      · rw [if_neg c] at h1
        refine Or.inl ⟨by rw [e, if_neg c, h1], fun j hj => ?_⟩
        cases j with
        | zero => exact Bool.eq_false_iff.mpr c
        | succ j => exact h2 j (by omega)
    · refine Or.inr ⟨j + 1, by omega, h2, ?_⟩
      rw [e, h3, show i + 1 + j = i + (j + 1) by omega]
/-- a word is the i-th just if its token says so -/
theorem ywc_iff {T : Nat → Int32} {p l i : Nat} (hi : i < 15) : yrow9 T p l (ywi i) = true ↔ ywc T p l = (300 : Int32) + Int32.ofNat i := by
  have inj : ∀ i, i < 15 → ∀ j, j < 15 → ywi i = ywi j → i = j := by decide +kernel
  have inj2 : ∀ i, i < 15 → ∀ j, j < 15 → (300 : Int32) + Int32.ofNat i = (300 : Int32) + Int32.ofNat j → i = j := by decide +kernel
  have n299 : ∀ i, i < 15 → ¬ (299 : Int32) = (300 : Int32) + Int32.ofNat i := by decide +kernel
  have hl : yws.length = 15 := by decide
  rcases ywd_spec (T := T) (p := p) (l := l) yws 0 299 with ⟨h1, h2⟩ | ⟨j, h1, h2, h3⟩
  · refine ⟨fun z => ?_, fun z => ?_⟩
    · have := h2 i (by omega)
      have z : yrow9 T p l (yws.getD i []) = true := z
      rw [this] at z
      exact absurd z (by decide)
    · have z : ywd T p l 0 yws 299 = _ := z
      rw [h1] at z
      exact absurd z (n299 i hi)
  · rw [Nat.zero_add] at h3
    refine ⟨fun z => ?_, fun z => ?_⟩
    · have := inj i hi j (by omega) (yrow_uniq z h2)
      rw [this]
      exact h3
    · have z : ywd T p l 0 yws 299 = _ := z
      rw [h3] at z
      have := inj2 j (by omega) i hi z
      rw [← this]
      exact h2
