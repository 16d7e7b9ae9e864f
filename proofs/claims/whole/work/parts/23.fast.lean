/-! THE PURE PART, 4: the heap with its static objects, and the small methods as a table. Written by program (wip/whole/mk23.py). -/
/-- the kinds of the objects that are there at the law's beginning -/
def zK0 : List (Nat × Nat) := [(21, 0), (14, 0), (0, 40), (0, 40), (0, 40), (0, 40), (0, 40), (0, 40), (0, 576), (12, 0), (0, 6), (0, 16), (0, 16), (0, 24), (0, 24), (10, 0), (18, 0), (0, 0), (3, 45), (0, 9), (11, 0), (0, 40), (0, 40), (0, 40), (0, 40), (0, 40), (17, 0), (0, 300), (0, 300), (0, 300), (0, 300), (0, 300), (0, 300), (0, 300), (0, 300), (16, 0), (0, 400), (0, 400), (0, 400), (15, 0), (0, 60), (0, 60), (0, 60), (0, 60), (15, 0), (0, 60), (0, 60), (0, 60), (0, 60), (19, 0), (0, 27), (0, 8), (0, 400), (13, 0), (2, 27), (2, 27), (2, 9), (20, 0), (0, 20), (0, 20), (0, 13), (22, 0), (4, 8), (0, 40), (0, 40), (0, 40), (0, 40), (0, 40), (0, 6), (0, 16), (0, 16), (0, 24), (0, 24), (1, 40), (0, 300), (0, 300), (0, 300), (0, 300), (0, 300), (0, 40), (0, 40), (0, 40), (0, 40), (0, 40), (0, 60), (0, 60), (0, 60), (0, 60), (0, 60), (0, 60), (0, 60), (1, 60), (0, 9), (0, 37), (0, 37), (0, 37), (0, 37), (0, 37), (0, 592), (0, 592), (0, 592), (0, 23680), (0, 8), (0, 200), (0, 400), (0, 20), (0, 20), (0, 120), (0, 300), (1, 300), (0, 576), (0, 300), (0, 8000), (0, 8000), (0, 8000), (0, 8000), (0, 8000), (0, 27), (1, 8000), (2, 9), (2, 9), (2, 9), (2, 1)]
/-- what their reference fields hold -/
def zR0 : List (List (Option Nat)) := [[some 1, some 9, some 15, some 20, some 26, some 35, some 39, some 44, some 49, some 53, some 57], [none, none, some 2, some 3, some 4, some 5, some 6, some 7, some 8], [], [], [], [], [], [], [], [none, none, none, some 10, some 11, some 12, some 13, some 14], [], [], [], [], [], [some 16, some 18, some 19], [none, none, none, none, some 17], [], [], [], [none, none, some 21, some 22, some 23, some 24, some 25], [], [], [], [], [], [some 1, some 9, some 15, some 20, none, some 27, some 28, some 29, some 30, some 31, some 32, some 33, some 34], [], [], [], [], [], [], [], [], [some 36, none, none, none, none, none, none, none, none, none, none, none, some 37, none, some 38], [], [], [], [none, some 40, some 41, some 42, some 43], [], [], [], [], [none, some 45, some 46, some 47, some 48], [], [], [], [], [some 1, some 9, some 26, some 15, some 39, some 50, some 51, some 52], [], [], [], [some 9, some 49, some 44, some 54, some 55, some 56], [], [], [], [none, some 58, some 59, some 60], [], [], [], [some 62, none, none, none, none, none, none, none, some 63, some 64, some 65, some 66, some 67, some 68, some 69, some 70, some 71, some 72, some 73, none, none, none, none, none, some 74, some 75, some 76, some 77, some 78, some 79, some 80, some 81, some 82, some 83, some 84, some 85, some 86, some 87, some 88, some 89, some 90, some 91, some 92, some 93, some 94, some 95, some 96, some 97, some 98, some 99, some 100, some 101, some 102, some 103, none, none, some 104, none, none, none, none, none, none, none, none, none, none, none, none, none, some 105, some 106, some 107, some 108, some 109, some 110, none, none, some 111, some 112, some 113, some 114, some 115, some 116, some 117, some 118, some 119, some 120, some 121], [some 1, some 2, some 3, some 4, some 5, some 6, some 7, some 8], [], [], [], [], [], [], [], [], [], [], [], [], [], [], [], [], [], [], [], [], [], [], [], [], [], [], [], [], [], [], [], [], [], [], [], [], [], [], [], [], [], [], [], [], [], [], [], [], [], [], [], [], [], [], [], [], [], [], [], []]
def zKw (K : Nat → Nat × Nat) : Nat → Nat × Nat := fun a => bif Nat.ble a 122 then zK0.getD a (0, 0) else K a
def zRw (R : Nat → Nat → Option Nat) : Nat → Nat → Option Nat := fun a k => bif Nat.ble a 122 then (bif Nat.beq a 18 then R a k else (zR0.getD a []).getD k none) else R a k
abbrev XH : Type := (Nat → Nat → Option Nat) × (Nat → Nat × Nat) × Nat × Nat × Nat
/-- a heap whose static objects are as they were laid -/
def zmk (I : Nat → Nat → Int32) (L : Nat → Nat → Int64) (X : XH) : AH := (I, L, zRw X.1, zKw X.2.1, X.2.2)
def zat (I : Nat → Nat → Int32) (a n : Nat) (i : Int32) : Int32 := if i < 0 ∨ n ≤ i.toNatClampNeg then 0 else I a i.toNatClampNeg
def zput (I : Nat → Nat → Int32) (a n : Nat) (i v : Int32) : Nat → Nat → Int32 := fun a' => if a' = a then (fun k => if k = i.toNatClampNeg ∧ ¬ (i < 0 ∨ n ≤ i.toNatClampNeg) then v else I a' k) else I a'
def zlat (I : Nat → Nat → Int64) (a n : Nat) (i : Int32) : Int64 := if i < 0 ∨ n ≤ i.toNatClampNeg then 0 else I a i.toNatClampNeg
def zlput (I : Nat → Nat → Int64) (a n : Nat) (i : Int32) (v : Int64) : Nat → Nat → Int64 := fun a' => if a' = a then (fun k => if k = i.toNatClampNeg ∧ ¬ (i < 0 ∨ n ≤ i.toNatClampNeg) then v else I a' k) else I a'
def zbi (p : Prop) [Decidable p] : Int32 := if p then 1 else 0
theorem zbi_t {p : Prop} [Decidable p] (c : p) : zbi p = 1 := if_pos c
theorem zbi_f {p : Prop} [Decidable p] (c : ¬ p) : zbi p = 0 := if_neg c
theorem zge_of {n : Nat} {i : Int32} (hn : n < 2147483648) (hi : ¬ i < 0) : Int32.ofNat n ≤ i ↔ n ≤ i.toNatClampNeg := by
  have e := i32_toInt hn
  have z0 : (0 : Int32).toInt = 0 := by decide
  have h1 : 0 ≤ i.toInt := by
    have : ¬ i.toInt < (0 : Int32).toInt := fun q => hi (Int32.lt_iff_toInt_lt.mpr q)
    omega
  have h2 : i.toNatClampNeg = i.toInt.toNat := rfl
  constructor
  · intro q
    have q := Int32.le_iff_toInt_le.mp q
    omega
  · intro q
    apply Int32.le_iff_toInt_le.mpr
    omega
theorem zite_congr {α : Type} {c : Prop} [Decidable c] {a b a' b' : α} (ha : a = a') (hb : b = b') : (if c then a else b) = (if c then a' else b') := by rw [ha, hb]
theorem zb_pos {α : Type} {p : Prop} [Decidable p] {a b : α} (c : p) : (if decide p = true then a else b) = a := if_pos (decide_eq_true c)
theorem zb_neg {α : Type} {p : Prop} [Decidable p] {a b : α} (c : ¬ p) : (if decide p = true then a else b) = b := if_neg (fun q => c (of_decide_eq_true q))
abbrev Tab : Type := Nat → List Value → AH → Option (Ret × AH)
abbrev Ent : Type := List Value → AH → Option (Ret × AH)
theorem zbif {b : Bool} {α : Type} {x : Option α} {y : α} (q : (bif b then x else none) = some y) : b = true ∧ x = some y := by
  cases b with
  | false => cases q
  | true => exact ⟨rfl, q⟩
def zkq (k : Nat × Nat) (tag : Nat) : Bool := match k with
  | (t, n) => Nat.beq t tag && Nat.ble n 60000
def zkd (k : Nat × Nat) (c : Nat) : Bool := match k with
  | (t, n) => Nat.beq t c && Nat.beq n 0
theorem zkk {k : Nat × Nat} {tag : Nat} (q : zkq k tag = true) : k.1 = tag ∧ k.2 < 2147483648 := by
  obtain ⟨t, n⟩ := k
  have q := Bool.and_eq_true_iff.mp q
  exact ⟨Nat.eq_of_beq_eq_true q.1, Nat.lt_of_le_of_lt (Nat.le_of_ble_eq_true q.2) (by decide)⟩
theorem zkc {k : Nat × Nat} {c : Nat} (q : zkd k c = true) : k = (c, 0) := by
  obtain ⟨t, n⟩ := k
  have q := Bool.and_eq_true_iff.mp q
  exact Prod.ext (Nat.eq_of_beq_eq_true q.1) (Nat.eq_of_beq_eq_true q.2)
def zh107 : Ent := fun as h => match as with
  | [.ref a, .int i] => bif zkq (hK h a) 0 then some (.inr (some (.int (zat h.1 a (hK h a).2 i))), h) else none
  | _ => none
theorem zt107 (xs : Nat → Int32) (L d : Nat) (as : List Value) (h : AH) (r : Ret × AH) (q : zh107 as h = some r) : zev xs L (d + 1) 107 as h = some r := by
  unfold zh107 at q
  split at q
  · rename_i a i
    obtain ⟨k, q⟩ := zbif q
    · have k := zkk k
      cases q
      refine zev_ret (Nat.le_of_ble_eq_true rfl) ?_
      by_cases c1 : i < 0
      · refine (zb_pos c1).trans ?_
        rw [zat, if_pos (Or.inl c1)]
        rfl
      · refine (zb_neg c1).trans ?_
        refine (if_pos (show (hK h a).1 ≤ 4 by omega)).trans ?_
        by_cases c2 : (hK h a).2 ≤ i.toNatClampNeg
        · refine (zb_pos ((zge_of k.2 c1).mpr c2)).trans ?_
          rw [zat, if_pos (Or.inr c2)]
          rfl
        · refine (zb_neg (fun z => c2 ((zge_of k.2 c1).mp z))).trans ?_
          have c3 : ¬ (i < 0 ∨ (hK h a).2 ≤ i.toNatClampNeg) := fun z => z.elim c1 c2
          refine (if_pos (show zin h a 0 i from ⟨k.1, c3⟩)).trans ?_
          rw [zat, if_neg c3]
          rfl
  · cases q
def zh99 : Ent := fun as h => match as with
  | [.ref a, .int i, .int v] => bif zkq (hK h a) 0 then some (.inr none, (zput h.1 a (hK h a).2 i v, h.2)) else none
  | _ => none
theorem zput_no {I : Nat → Nat → Int32} {a n : Nat} {i v : Int32} (c : i < 0 ∨ n ≤ i.toNatClampNeg) : zput I a n i v = I := by
  funext a' k
  unfold zput
  split
  · exact if_neg (fun q => q.2 c)
  · rfl
theorem zput_yes {I : Nat → Nat → Int32} {a n : Nat} {i v : Int32} (c : ¬ (i < 0 ∨ n ≤ i.toNatClampNeg)) : zput I a n i v = zup I a i.toNatClampNeg v := by
  funext a' k
  unfold zput zup
  split
  · show (if k = i.toNatClampNeg ∧ ¬ (i < 0 ∨ n ≤ i.toNatClampNeg) then v else I a' k) = (if k = i.toNatClampNeg then v else I a' k)
    by_cases e : k = i.toNatClampNeg
    · rw [if_pos ⟨e, c⟩, if_pos e]
    · rw [if_neg (fun q => e q.1), if_neg e]
  · rfl
theorem zt99 (xs : Nat → Int32) (L d : Nat) (as : List Value) (h : AH) (r : Ret × AH) (q : zh99 as h = some r) : zev xs L (d + 1) 99 as h = some r := by
  unfold zh99 at q
  split at q
  · rename_i a i v
    obtain ⟨k, q⟩ := zbif q
    · have k := zkk k
      cases q
      refine zev_ret (Nat.le_of_ble_eq_true rfl) ?_
      by_cases c1 : i < 0
      · refine (zb_pos c1).trans ?_
        rw [zput_no (Or.inl c1)]
        rfl
      · refine (zb_neg c1).trans ?_
        refine (if_pos (show (hK h a).1 ≤ 4 by omega)).trans ?_
        by_cases c2 : (hK h a).2 ≤ i.toNatClampNeg
        · refine (zb_pos ((zge_of k.2 c1).mpr c2)).trans ?_
          rw [zput_no (Or.inr c2)]
          rfl
        · refine (zb_neg (fun z => c2 ((zge_of k.2 c1).mp z))).trans ?_
          have c3 : ¬ (i < 0 ∨ (hK h a).2 ≤ i.toNatClampNeg) := fun z => z.elim c1 c2
          refine (if_pos (show zin h a 0 i from ⟨k.1, c3⟩)).trans ?_
          rw [zput_yes c3]
          rfl
  · cases q
def zh131 : Ent := fun as h => match as with
  | [.ref a, .int i] => bif zkq (hK h a) 2 then some (.inr (some (.long (zlat h.2.1 a (hK h a).2 i))), h) else none
  | _ => none
theorem zt131 (xs : Nat → Int32) (L d : Nat) (as : List Value) (h : AH) (r : Ret × AH) (q : zh131 as h = some r) : zev xs L (d + 1) 131 as h = some r := by
  unfold zh131 at q
  split at q
  · rename_i a i
    obtain ⟨k, q⟩ := zbif q
    · have k := zkk k
      cases q
      refine zev_ret (Nat.le_of_ble_eq_true rfl) ?_
      by_cases c1 : i < 0
      · refine (zb_pos c1).trans ?_
        rw [zlat, if_pos (Or.inl c1)]
        rfl
      · refine (zb_neg c1).trans ?_
        refine (if_pos (show (hK h a).1 ≤ 4 by omega)).trans ?_
        by_cases c2 : (hK h a).2 ≤ i.toNatClampNeg
        · refine (zb_pos ((zge_of k.2 c1).mpr c2)).trans ?_
          rw [zlat, if_pos (Or.inr c2)]
          rfl
        · refine (zb_neg (fun z => c2 ((zge_of k.2 c1).mp z))).trans ?_
          have c3 : ¬ (i < 0 ∨ (hK h a).2 ≤ i.toNatClampNeg) := fun z => z.elim c1 c2
          refine (if_pos (show zin h a 2 i from ⟨k.1, c3⟩)).trans ?_
          rw [zlat, if_neg c3]
          rfl
  · cases q
def zh132 : Ent := fun as h => match as with
  | [.ref a, .int i, .long v] => bif zkq (hK h a) 2 then some (.inr none, (h.1, zlput h.2.1 a (hK h a).2 i v, h.2.2)) else none
  | _ => none
theorem zlput_no {I : Nat → Nat → Int64} {a n : Nat} {i : Int32} {v : Int64} (c : i < 0 ∨ n ≤ i.toNatClampNeg) : zlput I a n i v = I := by
  funext a' k
  unfold zlput
  split
  · exact if_neg (fun q => q.2 c)
  · rfl
theorem zlput_yes {I : Nat → Nat → Int64} {a n : Nat} {i : Int32} {v : Int64} (c : ¬ (i < 0 ∨ n ≤ i.toNatClampNeg)) : zlput I a n i v = zup I a i.toNatClampNeg v := by
  funext a' k
  unfold zlput zup
  split
  · show (if k = i.toNatClampNeg ∧ ¬ (i < 0 ∨ n ≤ i.toNatClampNeg) then v else I a' k) = (if k = i.toNatClampNeg then v else I a' k)
    by_cases e : k = i.toNatClampNeg
    · rw [if_pos ⟨e, c⟩, if_pos e]
    · rw [if_neg (fun q => e q.1), if_neg e]
  · rfl
theorem zt132 (xs : Nat → Int32) (L d : Nat) (as : List Value) (h : AH) (r : Ret × AH) (q : zh132 as h = some r) : zev xs L (d + 1) 132 as h = some r := by
  unfold zh132 at q
  split at q
  · rename_i a i v
    obtain ⟨k, q⟩ := zbif q
    · have k := zkk k
      cases q
      refine zev_ret (Nat.le_of_ble_eq_true rfl) ?_
      by_cases c1 : i < 0
      · refine (zb_pos c1).trans ?_
        rw [zlput_no (Or.inl c1)]
        rfl
      · refine (zb_neg c1).trans ?_
        refine (if_pos (show (hK h a).1 ≤ 4 by omega)).trans ?_
        by_cases c2 : (hK h a).2 ≤ i.toNatClampNeg
        · refine (zb_pos ((zge_of k.2 c1).mpr c2)).trans ?_
          rw [zlput_no (Or.inr c2)]
          rfl
        · refine (zb_neg (fun z => c2 ((zge_of k.2 c1).mp z))).trans ?_
          have c3 : ¬ (i < 0 ∨ (hK h a).2 ≤ i.toNatClampNeg) := fun z => z.elim c1 c2
          refine (if_pos (show zin h a 2 i from ⟨k.1, c3⟩)).trans ?_
          rw [zlput_yes c3]
          rfl
  · cases q
def zh102 : Ent := fun as h => match as with
  | [.int x, .int y, .int z] => some (.inr (some (.int (zbi (¬ x < y ∧ ¬ z < x)))), h)
  | _ => none
theorem zt102 (xs : Nat → Int32) (L d : Nat) (as : List Value) (h : AH) (r : Ret × AH) (q : zh102 as h = some r) : zev xs L (d + 1) 102 as h = some r := by
  unfold zh102 at q
  split at q
  · rename_i x y z
    cases q
    refine zev_ret (Nat.le_of_ble_eq_true rfl) ?_
    by_cases c1 : x < y
    · refine (zb_pos c1).trans ?_
      rw [zbi_f (fun z => z.1 c1)]
      rfl
    · refine (zb_neg c1).trans ?_
      by_cases c2 : z < x
      · refine (zb_pos c2).trans ?_
        rw [zbi_f (fun z => z.2 c2)]
        rfl
      · refine (zb_neg c2).trans ?_
        rw [zbi_t ⟨c1, c2⟩]
        rfl
  · cases q
def zh47 : Ent := fun as h => match as with
  | [.int x] => some (.inr (some (.int (zbi (¬ x < 97 ∧ ¬ 122 < x)))), h)
  | _ => none
theorem zt47 (xs : Nat → Int32) (L d : Nat) (as : List Value) (h : AH) (r : Ret × AH) (q : zh47 as h = some r) : zev xs L (d + 1) 47 as h = some r := by
  unfold zh47 at q
  split at q
  · rename_i x
    cases q
    refine zev_ret (Nat.le_of_ble_eq_true rfl) ?_
    by_cases c1 : x < 97
    · refine (zb_pos c1).trans ?_
      rw [zbi_f (fun z => z.1 c1)]
      rfl
    · refine (zb_neg c1).trans ?_
      by_cases c2 : 122 < x
      · refine (zb_pos c2).trans ?_
        rw [zbi_f (fun z => z.2 c2)]
        rfl
      · refine (zb_neg c2).trans ?_
        rw [zbi_t ⟨c1, c2⟩]
        rfl
  · cases q
def zh163 : Ent := fun as h => match as with
  | [.int x] => some (.inr (some (.int (zbi (¬ x < 97 ∧ ¬ 122 < x)))), h)
  | _ => none
theorem zt163 (xs : Nat → Int32) (L d : Nat) (as : List Value) (h : AH) (r : Ret × AH) (q : zh163 as h = some r) : zev xs L (d + 1) 163 as h = some r := by
  unfold zh163 at q
  split at q
  · rename_i x
    cases q
    refine zev_ret (Nat.le_of_ble_eq_true rfl) ?_
    by_cases c1 : x < 97
    · refine (zb_pos c1).trans ?_
      rw [zbi_f (fun z => z.1 c1)]
      rfl
    · refine (zb_neg c1).trans ?_
      by_cases c2 : 122 < x
      · refine (zb_pos c2).trans ?_
        rw [zbi_f (fun z => z.2 c2)]
        rfl
      · refine (zb_neg c2).trans ?_
        rw [zbi_t ⟨c1, c2⟩]
        rfl
  · cases q
def zh50 : Ent := fun as h => match as with
  | [.int x] => some (.inr (some (.int (zbi (¬ x < 48 ∧ ¬ 57 < x)))), h)
  | _ => none
theorem zt50 (xs : Nat → Int32) (L d : Nat) (as : List Value) (h : AH) (r : Ret × AH) (q : zh50 as h = some r) : zev xs L (d + 1) 50 as h = some r := by
  unfold zh50 at q
  split at q
  · rename_i x
    cases q
    refine zev_ret (Nat.le_of_ble_eq_true rfl) ?_
    by_cases c1 : x < 48
    · refine (zb_pos c1).trans ?_
      rw [zbi_f (fun z => z.1 c1)]
      rfl
    · refine (zb_neg c1).trans ?_
      by_cases c2 : 57 < x
      · refine (zb_pos c2).trans ?_
        rw [zbi_f (fun z => z.2 c2)]
        rfl
      · refine (zb_neg c2).trans ?_
        rw [zbi_t ⟨c1, c2⟩]
        rfl
  · cases q
def zh164 : Ent := fun as h => match as with
  | [.int x] => some (.inr (some (.int (zbi (¬ x < 48 ∧ ¬ 57 < x)))), h)
  | _ => none
theorem zt164 (xs : Nat → Int32) (L d : Nat) (as : List Value) (h : AH) (r : Ret × AH) (q : zh164 as h = some r) : zev xs L (d + 1) 164 as h = some r := by
  unfold zh164 at q
  split at q
  · rename_i x
    cases q
    refine zev_ret (Nat.le_of_ble_eq_true rfl) ?_
    by_cases c1 : x < 48
    · refine (zb_pos c1).trans ?_
      rw [zbi_f (fun z => z.1 c1)]
      rfl
    · refine (zb_neg c1).trans ?_
      by_cases c2 : 57 < x
      · refine (zb_pos c2).trans ?_
        rw [zbi_f (fun z => z.2 c2)]
        rfl
      · refine (zb_neg c2).trans ?_
        rw [zbi_t ⟨c1, c2⟩]
        rfl
  · cases q
def zh144 : Ent := fun as h => match as with
  | [.ref a, .int x] => bif zkd (hK h a) 22 then some (.inr (some (.int (zbi (¬ x < 0 ∧ ¬ hI h a 3 ≤ x)))), h) else none
  | _ => none
theorem zt144 (xs : Nat → Int32) (L d : Nat) (as : List Value) (h : AH) (r : Ret × AH) (q : zh144 as h = some r) : zev xs L (d + 1) 144 as h = some r := by
  unfold zh144 at q
  split at q
  · rename_i a x
    obtain ⟨k, q⟩ := zbif q
    have k := zkc k
    cases q
    refine zev_ret (Nat.le_of_ble_eq_true rfl) ?_
    by_cases c1 : x < 0
    · refine (zb_pos c1).trans ?_
      rw [zbi_f (fun z => z.1 c1)]
      rfl
    · refine (zb_neg c1).trans ?_
      refine (if_pos k).trans ?_
      by_cases c2 : hI h a 3 ≤ x
      · refine (zb_pos c2).trans ?_
        rw [zbi_f (fun z => z.2 c2)]
        rfl
      · refine (zb_neg c2).trans ?_
        rw [zbi_t ⟨c1, c2⟩]
        rfl
  · cases q
def zh151 : Ent := fun as h => match as with
  | [.ref a, .int x] => bif zkd (hK h a) 22 then some (.inr (some (.int (zbi (¬ x < 0 ∧ ¬ hI h a 7 ≤ x)))), h) else none
  | _ => none
theorem zt151 (xs : Nat → Int32) (L d : Nat) (as : List Value) (h : AH) (r : Ret × AH) (q : zh151 as h = some r) : zev xs L (d + 1) 151 as h = some r := by
  unfold zh151 at q
  split at q
  · rename_i a x
    obtain ⟨k, q⟩ := zbif q
    have k := zkc k
    cases q
    refine zev_ret (Nat.le_of_ble_eq_true rfl) ?_
    by_cases c1 : x < 0
    · refine (zb_pos c1).trans ?_
      rw [zbi_f (fun z => z.1 c1)]
      rfl
    · refine (zb_neg c1).trans ?_
      refine (if_pos k).trans ?_
      by_cases c2 : hI h a 7 ≤ x
      · refine (zb_pos c2).trans ?_
        rw [zbi_f (fun z => z.2 c2)]
        rfl
      · refine (zb_neg c2).trans ?_
        rw [zbi_t ⟨c1, c2⟩]
        rfl
  · cases q
def zh152 : Ent := fun as h => match as with
  | [.ref a, .int x] => bif zkd (hK h a) 22 then some (.inr (some (.int (zbi (¬ x < 0 ∧ ¬ hI h a 4 ≤ x)))), h) else none
  | _ => none
theorem zt152 (xs : Nat → Int32) (L d : Nat) (as : List Value) (h : AH) (r : Ret × AH) (q : zh152 as h = some r) : zev xs L (d + 1) 152 as h = some r := by
  unfold zh152 at q
  split at q
  · rename_i a x
    obtain ⟨k, q⟩ := zbif q
    have k := zkc k
    cases q
    refine zev_ret (Nat.le_of_ble_eq_true rfl) ?_
    by_cases c1 : x < 0
    · refine (zb_pos c1).trans ?_
      rw [zbi_f (fun z => z.1 c1)]
      rfl
    · refine (zb_neg c1).trans ?_
      refine (if_pos k).trans ?_
      by_cases c2 : hI h a 4 ≤ x
      · refine (zb_pos c2).trans ?_
        rw [zbi_f (fun z => z.2 c2)]
        rfl
      · refine (zb_neg c2).trans ?_
        rw [zbi_t ⟨c1, c2⟩]
        rfl
  · cases q
def zh154 : Ent := fun as h => match as with
  | [.ref a, .int x] => bif zkd (hK h a) 22 then some (.inr (some (.int (zbi (¬ x < 0 ∧ ¬ hI h a 19 ≤ x)))), h) else none
  | _ => none
theorem zt154 (xs : Nat → Int32) (L d : Nat) (as : List Value) (h : AH) (r : Ret × AH) (q : zh154 as h = some r) : zev xs L (d + 1) 154 as h = some r := by
  unfold zh154 at q
  split at q
  · rename_i a x
    obtain ⟨k, q⟩ := zbif q
    have k := zkc k
    cases q
    refine zev_ret (Nat.le_of_ble_eq_true rfl) ?_
    by_cases c1 : x < 0
    · refine (zb_pos c1).trans ?_
      rw [zbi_f (fun z => z.1 c1)]
      rfl
    · refine (zb_neg c1).trans ?_
      refine (if_pos k).trans ?_
      by_cases c2 : hI h a 19 ≤ x
      · refine (zb_pos c2).trans ?_
        rw [zbi_f (fun z => z.2 c2)]
        rfl
      · refine (zb_neg c2).trans ?_
        rw [zbi_t ⟨c1, c2⟩]
        rfl
  · cases q
def zh183 : Ent := fun as h => match as with
  | [.ref a, .int x] => bif zkd (hK h a) 22 then some (.inr (some (.int (zbi (¬ x < 0 ∧ ¬ hI h a 2 < x)))), h) else none
  | _ => none
theorem zt183 (xs : Nat → Int32) (L d : Nat) (as : List Value) (h : AH) (r : Ret × AH) (q : zh183 as h = some r) : zev xs L (d + 1) 183 as h = some r := by
  unfold zh183 at q
  split at q
  · rename_i a x
    obtain ⟨k, q⟩ := zbif q
    have k := zkc k
    cases q
    refine zev_ret (Nat.le_of_ble_eq_true rfl) ?_
    by_cases c1 : x < 0
    · refine (zb_pos c1).trans ?_
      rw [zbi_f (fun z => z.1 c1)]
      rfl
    · refine (zb_neg c1).trans ?_
      refine (if_pos k).trans ?_
      by_cases c2 : hI h a 2 < x
      · refine (zb_pos c2).trans ?_
        rw [zbi_f (fun z => z.2 c2)]
        rfl
      · refine (zb_neg c2).trans ?_
        rw [zbi_t ⟨c1, c2⟩]
        rfl
  · cases q
def zh46 : Ent := fun as h => match as with
  | [.int x] => some (.inr (some (.int (zbi (x = 32 ∨ x = 10)))), h)
  | _ => none
theorem zt46 (xs : Nat → Int32) (L d : Nat) (as : List Value) (h : AH) (r : Ret × AH) (q : zh46 as h = some r) : zev xs L (d + 1) 46 as h = some r := by
  unfold zh46 at q
  split at q
  · rename_i x
    cases q
    refine zev_ret (Nat.le_of_ble_eq_true rfl) ?_
    by_cases c1 : x = 32
    · refine (zb_pos c1).trans ?_
      rw [zbi_t (Or.inl c1)]
      rfl
    · refine (zb_neg c1).trans ?_
      by_cases c2 : x = 10
      · refine (zb_neg (fun z => z c2)).trans ?_
        rw [zbi_t (Or.inr c2)]
        rfl
      · refine (zb_pos c2).trans ?_
        rw [zbi_f (fun z => z.elim c1 c2)]
        rfl
  · cases q
def zh169 : Ent := fun as h => match as with
  | [.ref a, .int x] => bif zkd (hK h a) 22 then some (.inr (some (.int (zbi (hI h a 65 = 0 ∧ hI h a 60 = 3 ∧ hI h a 61 = x)))), h) else none
  | _ => none
theorem zt169 (xs : Nat → Int32) (L d : Nat) (as : List Value) (h : AH) (r : Ret × AH) (q : zh169 as h = some r) : zev xs L (d + 1) 169 as h = some r := by
  unfold zh169 at q
  split at q
  · rename_i a x
    obtain ⟨k, q⟩ := zbif q
    · have k := zkc k
      cases q
      refine zev_ret (Nat.le_of_ble_eq_true rfl) ?_
      refine (if_pos k).trans ?_
      by_cases c1 : hI h a 65 = 0
      · refine (zb_neg (fun z => z c1)).trans ?_
        refine (if_pos k).trans ?_
        by_cases c2 : hI h a 60 = 3
        · refine (zb_neg (fun z => z c2)).trans ?_
          refine (if_pos k).trans ?_
          by_cases c3 : hI h a 61 = x
          · refine (zb_neg (fun z => z c3)).trans ?_
            rw [zbi_t ⟨c1, c2, c3⟩]
            rfl
          · refine (zb_pos c3).trans ?_
            rw [zbi_f (fun z => c3 z.2.2)]
            rfl
        · refine (zb_pos c2).trans ?_
          rw [zbi_f (fun z => c2 z.2.1)]
          rfl
      · refine (zb_pos c1).trans ?_
        rw [zbi_f (fun z => c1 z.1)]
        rfl
  · cases q
def zmn (a b : Int32) : Int32 := if a ≤ b then a else b
def zmx (a b : Int32) : Int32 := if b ≤ a then a else b
def zh236 : Ent := fun as h => match as with
  | [.int x, .int y] => some (.inr (some (.int (zmn x y))), h)
  | _ => none
theorem zt236 (xs : Nat → Int32) (L d : Nat) (as : List Value) (h : AH) (r : Ret × AH) (q : zh236 as h = some r) : zev xs L (d + 1) 236 as h = some r := by
  unfold zh236 at q
  split at q
  · cases q
    exact zmin_eq ..
  · cases q
def zh237 : Ent := fun as h => match as with
  | [.int x, .int y] => some (.inr (some (.int (zmx x y))), h)
  | _ => none
theorem zt237 (xs : Nat → Int32) (L d : Nat) (as : List Value) (h : AH) (r : Ret × AH) (q : zh237 as h = some r) : zev xs L (d + 1) 237 as h = some r := by
  unfold zh237 at q
  split at q
  · cases q
    exact zmax_eq ..
  · cases q
def zh238 : Ent := fun as h => match as with
  | [.int x] => some (.inr (some (.int (zbc x))), h)
  | _ => none
theorem zt238 (xs : Nat → Int32) (L d : Nat) (as : List Value) (h : AH) (r : Ret × AH) (q : zh238 as h = some r) : zev xs L (d + 1) 238 as h = some r := by
  unfold zh238 at q
  split at q
  · cases q
    exact bitCount_eq ..
  · cases q
def zrank (c : Int32) : Int32 := if c = 42 then 6 else if c = 43 then 5 else if c = 45 then 5 else if c = 47 then 6 else if c = 60 then 4 else if c = 61 then 4 else if c = 304 then 2 else if c = 305 then 1 else if c = 306 then 3 else 0
def zh53 : Ent := fun as h => match as with
  | [.int x] => some (.inr (some (.int (zrank x))), h)
  | _ => none
theorem zt53 (xs : Nat → Int32) (L d : Nat) (as : List Value) (h : AH) (r : Ret × AH) (q : zh53 as h = some r) : zev xs L (d + 1) 53 as h = some r := by
  unfold zh53 at q
  split at q
  · rename_i x
    cases q
    refine zev_ret (Nat.le_of_ble_eq_true rfl) ?_
    unfold zrank
    by_cases c0 : x = 42
    · refine (if_pos c0).trans ?_
      rw [if_pos c0]
      rfl
    refine (if_neg c0).trans ?_
    rw [if_neg c0]
    by_cases c1 : x = 43
    · refine (if_pos c1).trans ?_
      rw [if_pos c1]
      rfl
    refine (if_neg c1).trans ?_
    rw [if_neg c1]
    by_cases c2 : x = 45
    · refine (if_pos c2).trans ?_
      rw [if_pos c2]
      rfl
    refine (if_neg c2).trans ?_
    rw [if_neg c2]
    by_cases c3 : x = 47
    · refine (if_pos c3).trans ?_
      rw [if_pos c3]
      rfl
    refine (if_neg c3).trans ?_
    rw [if_neg c3]
    by_cases c4 : x = 60
    · refine (if_pos c4).trans ?_
      rw [if_pos c4]
      rfl
    refine (if_neg c4).trans ?_
    rw [if_neg c4]
    by_cases c5 : x = 61
    · refine (if_pos c5).trans ?_
      rw [if_pos c5]
      rfl
    refine (if_neg c5).trans ?_
    rw [if_neg c5]
    by_cases c6 : x = 304
    · refine (if_pos c6).trans ?_
      rw [if_pos c6]
      rfl
    refine (if_neg c6).trans ?_
    rw [if_neg c6]
    by_cases c7 : x = 305
    · refine (if_pos c7).trans ?_
      rw [if_pos c7]
      rfl
    refine (if_neg c7).trans ?_
    rw [if_neg c7]
    by_cases c8 : x = 306
    · refine (if_pos c8).trans ?_
      rw [if_pos c8]
      rfl
    refine (if_neg c8).trans ?_
    rw [if_neg c8]
    rfl
  · cases q
def zT1 : Tab := fun m as h => (bif Nat.beq m 107 then zh107 as h else (bif Nat.beq m 99 then zh99 as h else (bif Nat.beq m 131 then zh131 as h else (bif Nat.beq m 132 then zh132 as h else (bif Nat.beq m 102 then zh102 as h else (bif Nat.beq m 46 then zh46 as h else (bif Nat.beq m 47 then zh47 as h else (bif Nat.beq m 50 then zh50 as h else (bif Nat.beq m 53 then zh53 as h else (bif Nat.beq m 236 then zh236 as h else (bif Nat.beq m 237 then zh237 as h else (bif Nat.beq m 238 then zh238 as h else (bif Nat.beq m 144 then zh144 as h else (bif Nat.beq m 151 then zh151 as h else (bif Nat.beq m 152 then zh152 as h else (bif Nat.beq m 154 then zh154 as h else (bif Nat.beq m 163 then zh163 as h else (bif Nat.beq m 164 then zh164 as h else (bif Nat.beq m 169 then zh169 as h else (bif Nat.beq m 183 then zh183 as h else none))))))))))))))))))))
theorem zT1_ok (xs : Nat → Int32) (L d m : Nat) (as : List Value) (h : AH) (r : Ret × AH) (q : zT1 m as h = some r) : zev xs L (d + 2) m as h = some r := by
  unfold zT1 at q
  by_cases e107 : m = 107
  · subst e107
    exact zt107 xs L _ as h r q
  rw [(show Nat.beq m 107 = false from Bool.eq_false_iff.mpr (fun z => e107 (Nat.eq_of_beq_eq_true z)))] at q
  rw [cond_false] at q
  by_cases e99 : m = 99
  · subst e99
    exact zt99 xs L _ as h r q
  rw [(show Nat.beq m 99 = false from Bool.eq_false_iff.mpr (fun z => e99 (Nat.eq_of_beq_eq_true z)))] at q
  rw [cond_false] at q
  by_cases e131 : m = 131
  · subst e131
    exact zt131 xs L _ as h r q
  rw [(show Nat.beq m 131 = false from Bool.eq_false_iff.mpr (fun z => e131 (Nat.eq_of_beq_eq_true z)))] at q
  rw [cond_false] at q
  by_cases e132 : m = 132
  · subst e132
    exact zt132 xs L _ as h r q
  rw [(show Nat.beq m 132 = false from Bool.eq_false_iff.mpr (fun z => e132 (Nat.eq_of_beq_eq_true z)))] at q
  rw [cond_false] at q
  by_cases e102 : m = 102
  · subst e102
    exact zt102 xs L _ as h r q
  rw [(show Nat.beq m 102 = false from Bool.eq_false_iff.mpr (fun z => e102 (Nat.eq_of_beq_eq_true z)))] at q
  rw [cond_false] at q
  by_cases e46 : m = 46
  · subst e46
    exact zt46 xs L _ as h r q
  rw [(show Nat.beq m 46 = false from Bool.eq_false_iff.mpr (fun z => e46 (Nat.eq_of_beq_eq_true z)))] at q
  rw [cond_false] at q
  by_cases e47 : m = 47
  · subst e47
    exact zt47 xs L _ as h r q
  rw [(show Nat.beq m 47 = false from Bool.eq_false_iff.mpr (fun z => e47 (Nat.eq_of_beq_eq_true z)))] at q
  rw [cond_false] at q
  by_cases e50 : m = 50
  · subst e50
    exact zt50 xs L _ as h r q
  rw [(show Nat.beq m 50 = false from Bool.eq_false_iff.mpr (fun z => e50 (Nat.eq_of_beq_eq_true z)))] at q
  rw [cond_false] at q
  by_cases e53 : m = 53
  · subst e53
    exact zt53 xs L _ as h r q
  rw [(show Nat.beq m 53 = false from Bool.eq_false_iff.mpr (fun z => e53 (Nat.eq_of_beq_eq_true z)))] at q
  rw [cond_false] at q
  by_cases e236 : m = 236
  · subst e236
    exact zt236 xs L _ as h r q
  rw [(show Nat.beq m 236 = false from Bool.eq_false_iff.mpr (fun z => e236 (Nat.eq_of_beq_eq_true z)))] at q
  rw [cond_false] at q
  by_cases e237 : m = 237
  · subst e237
    exact zt237 xs L _ as h r q
  rw [(show Nat.beq m 237 = false from Bool.eq_false_iff.mpr (fun z => e237 (Nat.eq_of_beq_eq_true z)))] at q
  rw [cond_false] at q
  by_cases e238 : m = 238
  · subst e238
    exact zt238 xs L _ as h r q
  rw [(show Nat.beq m 238 = false from Bool.eq_false_iff.mpr (fun z => e238 (Nat.eq_of_beq_eq_true z)))] at q
  rw [cond_false] at q
  by_cases e144 : m = 144
  · subst e144
    exact zt144 xs L _ as h r q
  rw [(show Nat.beq m 144 = false from Bool.eq_false_iff.mpr (fun z => e144 (Nat.eq_of_beq_eq_true z)))] at q
  rw [cond_false] at q
  by_cases e151 : m = 151
  · subst e151
    exact zt151 xs L _ as h r q
  rw [(show Nat.beq m 151 = false from Bool.eq_false_iff.mpr (fun z => e151 (Nat.eq_of_beq_eq_true z)))] at q
  rw [cond_false] at q
  by_cases e152 : m = 152
  · subst e152
    exact zt152 xs L _ as h r q
  rw [(show Nat.beq m 152 = false from Bool.eq_false_iff.mpr (fun z => e152 (Nat.eq_of_beq_eq_true z)))] at q
  rw [cond_false] at q
  by_cases e154 : m = 154
  · subst e154
    exact zt154 xs L _ as h r q
  rw [(show Nat.beq m 154 = false from Bool.eq_false_iff.mpr (fun z => e154 (Nat.eq_of_beq_eq_true z)))] at q
  rw [cond_false] at q
  by_cases e163 : m = 163
  · subst e163
    exact zt163 xs L _ as h r q
  rw [(show Nat.beq m 163 = false from Bool.eq_false_iff.mpr (fun z => e163 (Nat.eq_of_beq_eq_true z)))] at q
  rw [cond_false] at q
  by_cases e164 : m = 164
  · subst e164
    exact zt164 xs L _ as h r q
  rw [(show Nat.beq m 164 = false from Bool.eq_false_iff.mpr (fun z => e164 (Nat.eq_of_beq_eq_true z)))] at q
  rw [cond_false] at q
  by_cases e169 : m = 169
  · subst e169
    exact zt169 xs L _ as h r q
  rw [(show Nat.beq m 169 = false from Bool.eq_false_iff.mpr (fun z => e169 (Nat.eq_of_beq_eq_true z)))] at q
  rw [cond_false] at q
  by_cases e183 : m = 183
  · subst e183
    exact zt183 xs L _ as h r q
  rw [(show Nat.beq m 183 = false from Bool.eq_false_iff.mpr (fun z => e183 (Nat.eq_of_beq_eq_true z)))] at q
  rw [cond_false] at q
  cases q
def zinl (m : Nat) : Bool := Nat.beq m 15 || Nat.beq m 16 || Nat.beq m 17 || Nat.beq m 18 || Nat.beq m 19 || Nat.beq m 22 || Nat.beq m 33 || Nat.beq m 35 || Nat.beq m 36 || Nat.beq m 37 || Nat.beq m 38 || Nat.beq m 59 || Nat.beq m 60 || Nat.beq m 55 || Nat.beq m 67 || Nat.beq m 68 || Nat.beq m 73 || Nat.beq m 87 || Nat.beq m 93 || Nat.beq m 145 || Nat.beq m 155 || Nat.beq m 141 || Nat.beq m 105 || Nat.beq m 108
/-- calls, as the table and the straight methods answer them -/
noncomputable def zfx (T : Tab) (xs : Nat → Int32) (L : Nat) : Nat → Cal
  | 0 => zev xs L 0
  | 1 => zev xs L 1
  | d + 2 => fun m as h => match T m as h with
    | some r => some r
    | none => bif zinl m && Nat.ble (as.map fun (v : Value) => v.category).sum (zML m) then (match zseg (zfx T xs L (d + 1), zH m, xs, L) (zC m) zfuel (zC m 0) (lv_args 0 as) [] h with
      | some (.inr r) => some r
      | _ => zev xs L (d + 2) m as h) else zev xs L (d + 2) m as h
theorem zfx_eq {T : Tab} (xs : Nat → Int32) (L : Nat) (hT : ∀ d m as h r, T m as h = some r → zev xs L (d + 2) m as h = some r) : ∀ d : Nat, zfx T xs L d = zev xs L d
  | 0 => rfl
  | 1 => rfl
  | d + 2 => by
    have IH := zfx_eq xs L hT (d + 1)
    funext m as h
    show (match T m as h with
      | some r => some r
      | none => bif zinl m && Nat.ble (as.map fun (v : Value) => v.category).sum (zML m) then (match zseg (zfx T xs L (d + 1), zH m, xs, L) (zC m) zfuel (zC m 0) (lv_args 0 as) [] h with
        | some (.inr r) => some r
        | _ => zev xs L (d + 2) m as h) else zev xs L (d + 2) m as h) = _
    cases hq : T m as h with
    | some r => exact (hT d m as h r hq).symm
    | none =>
      show (bif zinl m && Nat.ble (as.map fun (v : Value) => v.category).sum (zML m) then _ else _) = _
      cases hb : (zinl m && Nat.ble (as.map fun v => v.category).sum (zML m)) with
      | false => rfl
      | true =>
        rw [IH]
        have hb2 := (Bool.and_eq_true_iff.mp hb).2
        show (match zseg (zev xs L (d + 1), zH m, xs, L) (zC m) zfuel (zC m 0) (lv_args 0 as) [] h with
          | some (.inr r) => some r
          | _ => zev xs L (d + 2) m as h) = _
        cases hs9 : zseg (zev xs L (d + 1), zH m, xs, L) (zC m) zfuel (zC m 0) (lv_args 0 as) [] h with
        | none => rfl
        | some o =>
          cases o with
          | inl x => rfl
          | inr r => exact (zev_ret (Nat.le_of_ble_eq_true hb2) hs9).symm
theorem zT1_q (xs : Nat → Int32) (L : Nat) : ∀ d m as h r, zT1 m as h = some r → zev xs L (d + 2) m as h = some r := fun d m as h r q => zT1_ok xs L d m as h r q
theorem zret1 {xs : Nat → Int32} {L d m : Nat} {as : List Value} {h h' : AH} {r : Ret} (hl : (as.map fun v => v.category).sum ≤ zML m) (hs9 : zseg (zfx zT1 xs L d, zH m, xs, L) (zC m) zfuel (zC m 0) (lv_args 0 as) [] h = some (.inr (r, h'))) : zev xs L (d + 1) m as h = some (r, h') := by
  rw [zfx_eq xs L (zT1_q xs L)] at hs9
  exact zev_ret hl hs9
def zh120 : Ent := fun as h => match as with
  | [.int x] => some (.inr (some (.int (zbi (¬ x < 0 ∧ ¬ 129599 < x)))), h)
  | _ => none
theorem zt120 (xs : Nat → Int32) (L d : Nat) (as : List Value) (h : AH) (r : Ret × AH) (q : zh120 as h = some r) : zev xs L (d + 3) 120 as h = some r := by
  unfold zh120 at q
  split at q
  · rename_i x
    cases q
    refine zret1 (Nat.le_of_ble_eq_true rfl) ?_
    by_cases c : (¬ x < 0 ∧ ¬ 129599 < x)
    · refine (if_pos (show zbi (¬ x < 0 ∧ ¬ 129599 < x) = 0 ∨ zbi (¬ x < 0 ∧ ¬ 129599 < x) = 1 from Or.inr (zbi_t c))).trans ?_
      rfl
    · refine (if_pos (show zbi (¬ x < 0 ∧ ¬ 129599 < x) = 0 ∨ zbi (¬ x < 0 ∧ ¬ 129599 < x) = 1 from Or.inl (zbi_f c))).trans ?_
      rfl
  · cases q
def zh52 : Ent := fun as h => match as with
  | [.int x] => some (.inr (some (.int (zbi (x = 59 ∨ x = 40 ∨ x = 41 ∨ ¬ zrank x ≤ 0)))), h)
  | _ => none
theorem zt52 (xs : Nat → Int32) (L d : Nat) (as : List Value) (h : AH) (r : Ret × AH) (q : zh52 as h = some r) : zev xs L (d + 3) 52 as h = some r := by
  unfold zh52 at q
  split at q
  · rename_i x
    cases q
    refine zret1 (Nat.le_of_ble_eq_true rfl) ?_
    by_cases c1 : x = 59
    · refine (zb_pos c1).trans ?_
      rw [zbi_t (Or.inl c1)]
      rfl
    refine (zb_neg c1).trans ?_
    by_cases c2 : x = 40
    · refine (zb_pos c2).trans ?_
      rw [zbi_t (Or.inr (Or.inl c2))]
      rfl
    refine (zb_neg c2).trans ?_
    by_cases c3 : x = 41
    · refine (zb_pos c3).trans ?_
      rw [zbi_t (Or.inr (Or.inr (Or.inl c3)))]
      rfl
    refine (zb_neg c3).trans ?_
    by_cases c4 : zrank x ≤ 0
    · refine (zb_pos c4).trans ?_
      rw [zbi_f (fun z => z.elim c1 (fun z => z.elim c2 (fun z => z.elim c3 (fun z => z c4))))]
      rfl
    refine (zb_neg c4).trans ?_
    rw [zbi_t (Or.inr (Or.inr (Or.inr c4)))]
    rfl
  · cases q
def zh32 : Ent := fun as h => match as with
  | [.ref a, .int i] => (match hR h a 7 with
    | some b => bif zkd (hK h a) 14 && zkq (hK h b) 0 then some (.inr (some (.int (zbi (zat h.1 b (hK h b).2 i = 1000000000)))), h) else none
    | none => none)
  | _ => none
theorem zt32 (xs : Nat → Int32) (L d : Nat) (as : List Value) (h : AH) (r : Ret × AH) (q : zh32 as h = some r) : zev xs L (d + 2) 32 as h = some r := by
  unfold zh32 at q
  split at q
  · rename_i a i
    split at q
    · rename_i b hb
      obtain ⟨k, q⟩ := zbif q
      · have k := Bool.and_eq_true_iff.mp k
        cases q
        refine zev_ret (Nat.le_of_ble_eq_true rfl) ?_
        refine (if_pos (zkc k.1)).trans ?_
        show zseg (zev xs L (d + 1), zH 32, xs, L) (zC 32) 698 (zB32_0.drop 2) [(0, .ref a), (1, .int i)] [zrf (hR h a 7)] h = _
        rw [hb]
        show zseg (zev xs L (d + 1), zH 32, xs, L) (zC 32) 697 ((5, 105, 107, 2, 5999, 4) :: zB32_0.drop 4) [(0, .ref a), (1, .int i)] [.int i, .ref b] h = _
        rw [zseg_calln (g := zgi) rfl ⟨Nat.le_of_ble_eq_true rfl, Nat.le_of_ble_eq_true rfl, Or.inl rfl⟩ (zt107 xs L d [.ref b, .int i] h _ (show (bif zkq (hK h b) 0 then _ else _) = _ by rw [k.2]; rfl))]
        generalize zat h.1 b (hK h b).2 i = x
        by_cases c : x = 1000000000
        · refine (zb_neg (fun z => z c)).trans ?_
          rw [zbi_t c]
          rfl
        · refine (zb_pos c).trans ?_
          rw [zbi_f c]
          rfl
    · cases q
  · cases q
def zh77 : Ent := fun as h => match as with
  | [.ref a, .int i] => (match hR h a 12 with
    | some b => bif zkd (hK h a) 17 && zkq (hK h b) 0 then some (.inr (some (.int (zbi (¬ zat h.1 b (hK h b).2 i = 0)))), h) else none
    | none => none)
  | _ => none
theorem zt77 (xs : Nat → Int32) (L d : Nat) (as : List Value) (h : AH) (r : Ret × AH) (q : zh77 as h = some r) : zev xs L (d + 2) 77 as h = some r := by
  unfold zh77 at q
  split at q
  · rename_i a i
    split at q
    · rename_i b hb
      obtain ⟨k, q⟩ := zbif q
      · have k := Bool.and_eq_true_iff.mp k
        cases q
        refine zev_ret (Nat.le_of_ble_eq_true rfl) ?_
        refine (if_pos (zkc k.1)).trans ?_
        show zseg (zev xs L (d + 1), zH 77, xs, L) (zC 77) 698 (zB77_0.drop 2) [(0, .ref a), (1, .int i)] [zrf (hR h a 12)] h = _
        rw [hb]
        show zseg (zev xs L (d + 1), zH 77, xs, L) (zC 77) 697 ((5, 105, 107, 2, 6799, 4) :: zB77_0.drop 4) [(0, .ref a), (1, .int i)] [.int i, .ref b] h = _
        rw [zseg_calln (g := zgi) rfl ⟨Nat.le_of_ble_eq_true rfl, Nat.le_of_ble_eq_true rfl, Or.inl rfl⟩ (zt107 xs L d [.ref b, .int i] h _ (show (bif zkq (hK h b) 0 then _ else _) = _ by rw [k.2]; rfl))]
        generalize zat h.1 b (hK h b).2 i = x
        by_cases c : ¬ x = 0
        · refine (zb_neg c).trans ?_
          rw [zbi_t c]
          rfl
        · refine (zb_pos (Decidable.not_not.mp c)).trans ?_
          rw [zbi_f c]
          rfl
    · cases q
  · cases q
def zh1 : Ent := fun as h => match as with
  | [.ref a, .int i] => (match hR h a 2 with
    | some b => bif zkd (hK h a) 10 && zkq (hK h b) 0 then some (.inr (some (.int (zbi (¬ 4 ≤ zat h.1 b (hK h b).2 i)))), h) else none
    | none => none)
  | _ => none
theorem zt1 (xs : Nat → Int32) (L d : Nat) (as : List Value) (h : AH) (r : Ret × AH) (q : zh1 as h = some r) : zev xs L (d + 2) 1 as h = some r := by
  unfold zh1 at q
  split at q
  · rename_i a i
    split at q
    · rename_i b hb
      obtain ⟨k, q⟩ := zbif q
      · have k := Bool.and_eq_true_iff.mp k
        cases q
        refine zev_ret (Nat.le_of_ble_eq_true rfl) ?_
        refine (if_pos (zkc k.1)).trans ?_
        show zseg (zev xs L (d + 1), zH 1, xs, L) (zC 1) 698 (zB1_0.drop 2) [(0, .ref a), (1, .int i)] [zrf (hR h a 2)] h = _
        rw [hb]
        show zseg (zev xs L (d + 1), zH 1, xs, L) (zC 1) 697 ((5, 105, 107, 2, 2899, 4) :: zB1_0.drop 4) [(0, .ref a), (1, .int i)] [.int i, .ref b] h = _
        rw [zseg_calln (g := zgi) rfl ⟨Nat.le_of_ble_eq_true rfl, Nat.le_of_ble_eq_true rfl, Or.inl rfl⟩ (zt107 xs L d [.ref b, .int i] h _ (show (bif zkq (hK h b) 0 then _ else _) = _ by rw [k.2]; rfl))]
        generalize zat h.1 b (hK h b).2 i = x
        by_cases c : ¬ 4 ≤ x
        · refine (zb_neg c).trans ?_
          rw [zbi_t c]
          rfl
        · refine (zb_pos (Decidable.not_not.mp c)).trans ?_
          rw [zbi_f c]
          rfl
    · cases q
  · cases q
def zT : Tab := fun m as h => (bif Nat.beq m 107 then zh107 as h else (bif Nat.beq m 99 then zh99 as h else (bif Nat.beq m 131 then zh131 as h else (bif Nat.beq m 132 then zh132 as h else (bif Nat.beq m 102 then zh102 as h else (bif Nat.beq m 46 then zh46 as h else (bif Nat.beq m 47 then zh47 as h else (bif Nat.beq m 50 then zh50 as h else (bif Nat.beq m 53 then zh53 as h else (bif Nat.beq m 236 then zh236 as h else (bif Nat.beq m 237 then zh237 as h else (bif Nat.beq m 238 then zh238 as h else (bif Nat.beq m 144 then zh144 as h else (bif Nat.beq m 151 then zh151 as h else (bif Nat.beq m 152 then zh152 as h else (bif Nat.beq m 154 then zh154 as h else (bif Nat.beq m 163 then zh163 as h else (bif Nat.beq m 164 then zh164 as h else (bif Nat.beq m 169 then zh169 as h else (bif Nat.beq m 183 then zh183 as h else (bif Nat.beq m 120 then zh120 as h else (bif Nat.beq m 52 then zh52 as h else (bif Nat.beq m 32 then zh32 as h else (bif Nat.beq m 77 then zh77 as h else (bif Nat.beq m 1 then zh1 as h else none)))))))))))))))))))))))))
theorem zT_ok (xs : Nat → Int32) (L d m : Nat) (as : List Value) (h : AH) (r : Ret × AH) (q : zT m as h = some r) : zev xs L (d + 3) m as h = some r := by
  unfold zT at q
  by_cases e107 : m = 107
  · subst e107
    exact zt107 xs L _ as h r q
  rw [(show Nat.beq m 107 = false from Bool.eq_false_iff.mpr (fun z => e107 (Nat.eq_of_beq_eq_true z)))] at q
  rw [cond_false] at q
  by_cases e99 : m = 99
  · subst e99
    exact zt99 xs L _ as h r q
  rw [(show Nat.beq m 99 = false from Bool.eq_false_iff.mpr (fun z => e99 (Nat.eq_of_beq_eq_true z)))] at q
  rw [cond_false] at q
  by_cases e131 : m = 131
  · subst e131
    exact zt131 xs L _ as h r q
  rw [(show Nat.beq m 131 = false from Bool.eq_false_iff.mpr (fun z => e131 (Nat.eq_of_beq_eq_true z)))] at q
  rw [cond_false] at q
  by_cases e132 : m = 132
  · subst e132
    exact zt132 xs L _ as h r q
  rw [(show Nat.beq m 132 = false from Bool.eq_false_iff.mpr (fun z => e132 (Nat.eq_of_beq_eq_true z)))] at q
  rw [cond_false] at q
  by_cases e102 : m = 102
  · subst e102
    exact zt102 xs L _ as h r q
  rw [(show Nat.beq m 102 = false from Bool.eq_false_iff.mpr (fun z => e102 (Nat.eq_of_beq_eq_true z)))] at q
  rw [cond_false] at q
  by_cases e46 : m = 46
  · subst e46
    exact zt46 xs L _ as h r q
  rw [(show Nat.beq m 46 = false from Bool.eq_false_iff.mpr (fun z => e46 (Nat.eq_of_beq_eq_true z)))] at q
  rw [cond_false] at q
  by_cases e47 : m = 47
  · subst e47
    exact zt47 xs L _ as h r q
  rw [(show Nat.beq m 47 = false from Bool.eq_false_iff.mpr (fun z => e47 (Nat.eq_of_beq_eq_true z)))] at q
  rw [cond_false] at q
  by_cases e50 : m = 50
  · subst e50
    exact zt50 xs L _ as h r q
  rw [(show Nat.beq m 50 = false from Bool.eq_false_iff.mpr (fun z => e50 (Nat.eq_of_beq_eq_true z)))] at q
  rw [cond_false] at q
  by_cases e53 : m = 53
  · subst e53
    exact zt53 xs L _ as h r q
  rw [(show Nat.beq m 53 = false from Bool.eq_false_iff.mpr (fun z => e53 (Nat.eq_of_beq_eq_true z)))] at q
  rw [cond_false] at q
  by_cases e236 : m = 236
  · subst e236
    exact zt236 xs L _ as h r q
  rw [(show Nat.beq m 236 = false from Bool.eq_false_iff.mpr (fun z => e236 (Nat.eq_of_beq_eq_true z)))] at q
  rw [cond_false] at q
  by_cases e237 : m = 237
  · subst e237
    exact zt237 xs L _ as h r q
  rw [(show Nat.beq m 237 = false from Bool.eq_false_iff.mpr (fun z => e237 (Nat.eq_of_beq_eq_true z)))] at q
  rw [cond_false] at q
  by_cases e238 : m = 238
  · subst e238
    exact zt238 xs L _ as h r q
  rw [(show Nat.beq m 238 = false from Bool.eq_false_iff.mpr (fun z => e238 (Nat.eq_of_beq_eq_true z)))] at q
  rw [cond_false] at q
  by_cases e144 : m = 144
  · subst e144
    exact zt144 xs L _ as h r q
  rw [(show Nat.beq m 144 = false from Bool.eq_false_iff.mpr (fun z => e144 (Nat.eq_of_beq_eq_true z)))] at q
  rw [cond_false] at q
  by_cases e151 : m = 151
  · subst e151
    exact zt151 xs L _ as h r q
  rw [(show Nat.beq m 151 = false from Bool.eq_false_iff.mpr (fun z => e151 (Nat.eq_of_beq_eq_true z)))] at q
  rw [cond_false] at q
  by_cases e152 : m = 152
  · subst e152
    exact zt152 xs L _ as h r q
  rw [(show Nat.beq m 152 = false from Bool.eq_false_iff.mpr (fun z => e152 (Nat.eq_of_beq_eq_true z)))] at q
  rw [cond_false] at q
  by_cases e154 : m = 154
  · subst e154
    exact zt154 xs L _ as h r q
  rw [(show Nat.beq m 154 = false from Bool.eq_false_iff.mpr (fun z => e154 (Nat.eq_of_beq_eq_true z)))] at q
  rw [cond_false] at q
  by_cases e163 : m = 163
  · subst e163
    exact zt163 xs L _ as h r q
  rw [(show Nat.beq m 163 = false from Bool.eq_false_iff.mpr (fun z => e163 (Nat.eq_of_beq_eq_true z)))] at q
  rw [cond_false] at q
  by_cases e164 : m = 164
  · subst e164
    exact zt164 xs L _ as h r q
  rw [(show Nat.beq m 164 = false from Bool.eq_false_iff.mpr (fun z => e164 (Nat.eq_of_beq_eq_true z)))] at q
  rw [cond_false] at q
  by_cases e169 : m = 169
  · subst e169
    exact zt169 xs L _ as h r q
  rw [(show Nat.beq m 169 = false from Bool.eq_false_iff.mpr (fun z => e169 (Nat.eq_of_beq_eq_true z)))] at q
  rw [cond_false] at q
  by_cases e183 : m = 183
  · subst e183
    exact zt183 xs L _ as h r q
  rw [(show Nat.beq m 183 = false from Bool.eq_false_iff.mpr (fun z => e183 (Nat.eq_of_beq_eq_true z)))] at q
  rw [cond_false] at q
  by_cases e120 : m = 120
  · subst e120
    exact zt120 xs L _ as h r q
  rw [(show Nat.beq m 120 = false from Bool.eq_false_iff.mpr (fun z => e120 (Nat.eq_of_beq_eq_true z)))] at q
  rw [cond_false] at q
  by_cases e52 : m = 52
  · subst e52
    exact zt52 xs L _ as h r q
  rw [(show Nat.beq m 52 = false from Bool.eq_false_iff.mpr (fun z => e52 (Nat.eq_of_beq_eq_true z)))] at q
  rw [cond_false] at q
  by_cases e32 : m = 32
  · subst e32
    exact zt32 xs L _ as h r q
  rw [(show Nat.beq m 32 = false from Bool.eq_false_iff.mpr (fun z => e32 (Nat.eq_of_beq_eq_true z)))] at q
  rw [cond_false] at q
  by_cases e77 : m = 77
  · subst e77
    exact zt77 xs L _ as h r q
  rw [(show Nat.beq m 77 = false from Bool.eq_false_iff.mpr (fun z => e77 (Nat.eq_of_beq_eq_true z)))] at q
  rw [cond_false] at q
  by_cases e1 : m = 1
  · subst e1
    exact zt1 xs L _ as h r q
  rw [(show Nat.beq m 1 = false from Bool.eq_false_iff.mpr (fun z => e1 (Nat.eq_of_beq_eq_true z)))] at q
  rw [cond_false] at q
  cases q
/-- calls at a depth, the table's and the straight methods' answers at hand -/
noncomputable def zfz (xs : Nat → Int32) (L : Nat) : Nat → Cal
  | 0 => zev xs L 0
  | 1 => zev xs L 1
  | 2 => zev xs L 2
  | d + 3 => fun m as h => match zT m as h with
    | some r => some r
    | none => bif zinl m && Nat.ble (as.map fun (v : Value) => v.category).sum (zML m) then (match zseg (zfz xs L (d + 2), zH m, xs, L) (zC m) zfuel (zC m 0) (lv_args 0 as) [] h with
      | some (.inr r) => some r
      | _ => zev xs L (d + 3) m as h) else zev xs L (d + 3) m as h
theorem zfz_eq (xs : Nat → Int32) (L : Nat) : ∀ d : Nat, zfz xs L d = zev xs L d
  | 0 => rfl
  | 1 => rfl
  | 2 => rfl
  | d + 3 => by
    have IH := zfz_eq xs L (d + 2)
    funext m as h
    show (match zT m as h with
      | some r => some r
      | none => bif zinl m && Nat.ble (as.map fun (v : Value) => v.category).sum (zML m) then (match zseg (zfz xs L (d + 2), zH m, xs, L) (zC m) zfuel (zC m 0) (lv_args 0 as) [] h with
        | some (.inr r) => some r
        | _ => zev xs L (d + 3) m as h) else zev xs L (d + 3) m as h) = _
    cases hq : zT m as h with
    | some r => exact (zT_ok xs L d m as h r hq).symm
    | none =>
      show (bif zinl m && Nat.ble (as.map fun (v : Value) => v.category).sum (zML m) then _ else _) = _
      cases hb : (zinl m && Nat.ble (as.map fun v => v.category).sum (zML m)) with
      | false => rfl
      | true =>
        rw [IH]
        have hb2 := (Bool.and_eq_true_iff.mp hb).2
        show (match zseg (zev xs L (d + 2), zH m, xs, L) (zC m) zfuel (zC m 0) (lv_args 0 as) [] h with
          | some (.inr r) => some r
          | _ => zev xs L (d + 3) m as h) = _
        cases hs9 : zseg (zev xs L (d + 2), zH m, xs, L) (zC m) zfuel (zC m 0) (lv_args 0 as) [] h with
        | none => rfl
        | some o =>
          cases o with
          | inl x => rfl
          | inr r => exact (zev_ret (Nat.le_of_ble_eq_true hb2) hs9).symm
/-- the surroundings of a method at a depth -/
noncomputable def zE (xs : Nat → Int32) (L d m : Nat) : Evn := (zfz xs L d, zH m, xs, L)
/-- the same without the table -/
noncomputable def zP (xs : Nat → Int32) (L d m : Nat) : Evn := (zev xs L d, zH m, xs, L)
theorem zE_P (xs : Nat → Int32) (L d m : Nat) : zE xs L d m = zP xs L d m := by
  unfold zE zP
  rw [zfz_eq]
theorem zE_eq (xs : Nat → Int32) (L d m : Nat) : zE xs L d m = (zev xs L d, zH m, xs, L) := by
  unfold zE
  rw [zfz_eq]
/-- a run from a loop's head -/
noncomputable def zgo (xs : Nat → Int32) (L d m b : Nat) (lo : LV) (h : AH) : Option (Ret × AH) := zlim (zE xs L d m) (zC m) b lo h
/-- what follows a stretch -/
noncomputable def zth (xs : Nat → Int32) (L d m : Nat) (o : Option Out) : Option (Ret × AH) := match o with
  | some (.inl x) => zgo xs L d m x.1 x.2.1 x.2.2
  | some (.inr r) => some r
  | none => none
theorem zgo_eq (xs : Nat → Int32) (L d m b : Nat) (lo : LV) (h : AH) : zgo xs L d m b lo h = zth xs L d m (zseg (zE xs L d m) (zC m) zfuel (zC m b) lo [] h) := by
  unfold zgo
  rw [zlim_eq]
  rfl
theorem zev_eq (xs : Nat → Int32) (L d m : Nat) (as : List Value) (h : AH) (hl : (as.map fun v => v.category).sum ≤ zML m) : zev xs L (d + 1) m as h = zth xs L d m (zseg (zE xs L d m) (zC m) zfuel (zC m 0) (lv_args 0 as) [] h) := by
  show (if (as.map fun v => v.category).sum ≤ zML m then _ else _) = _
  rw [if_pos hl, ← zE_eq]
  exact zgo_eq xs L d m 0 (lv_args 0 as) h
theorem zth_go {xs : Nat → Int32} {L d m b : Nat} {lo : LV} {h : AH} : zth xs L d m (some (.inl (b, lo, h))) = zgo xs L d m b lo h := rfl
theorem zth_ret {xs : Nat → Int32} {L d m : Nat} {r : Ret × AH} : zth xs L d m (some (.inr r)) = some r := rfl
/-- what goes on behind a call that must return -/
def zqi (o : Option (Ret × AH)) (f : Int32 → AH → Option Out) : Option Out := match o with
  | some (.inr v, h') => (match v with
    | some (.int r) => f r h'
    | _ => none)
  | _ => none
def zql (o : Option (Ret × AH)) (f : Int64 → AH → Option Out) : Option Out := match o with
  | some (.inr v, h') => (match v with
    | some (.long r) => f r h'
    | _ => none)
  | _ => none
def zqv (o : Option (Ret × AH)) (f : AH → Option Out) : Option Out := match o with
  | some (.inr v, h') => (match v with
    | none => f h'
    | _ => none)
  | _ => none
def zqr (o : Option (Ret × AH)) (f : Nat → AH → Option Out) (g : AH → Option Out) : Option Out := match o with
  | some (.inr v, h') => (match v with
    | some (.ref r) => f r h'
    | some .null => g h'
    | _ => none)
  | _ => none
/-- what goes on behind a call that may throw -/
def zci (E : Evn) (o : Option (Ret × AH)) (f : Int32 → AH → Option Out) : Option Out := match o with
  | some (.inr v, h') => (match v with
    | some (.int r) => f r h'
    | _ => none)
  | some (.inl x, h') => zthr E x h'
  | none => none
def zcl (E : Evn) (o : Option (Ret × AH)) (f : Int64 → AH → Option Out) : Option Out := match o with
  | some (.inr v, h') => (match v with
    | some (.long r) => f r h'
    | _ => none)
  | some (.inl x, h') => zthr E x h'
  | none => none
def zcw (E : Evn) (o : Option (Ret × AH)) (f : AH → Option Out) : Option Out := match o with
  | some (.inr v, h') => (match v with
    | none => f h'
    | _ => none)
  | some (.inl x, h') => zthr E x h'
  | none => none
theorem zqi_i {r : Int32} {h : AH} {f : Int32 → AH → Option Out} : zqi (some (.inr (some (.int r)), h)) f = f r h := rfl
theorem zql_l {r : Int64} {h : AH} {f : Int64 → AH → Option Out} : zql (some (.inr (some (.long r)), h)) f = f r h := rfl
theorem zqv_v {h : AH} {f : AH → Option Out} : zqv (some (.inr none, h)) f = f h := rfl
theorem zqr_r {r : Nat} {h : AH} {f : Nat → AH → Option Out} {g : AH → Option Out} : zqr (some (.inr (some (.ref r)), h)) f g = f r h := rfl
theorem zqr_n {h : AH} {f : Nat → AH → Option Out} {g : AH → Option Out} : zqr (some (.inr (some .null), h)) f g = g h := rfl
theorem zci_i {E : Evn} {r : Int32} {h : AH} {f : Int32 → AH → Option Out} : zci E (some (.inr (some (.int r)), h)) f = f r h := rfl
theorem zci_x {E : Evn} {x : Nat} {h : AH} {f : Int32 → AH → Option Out} : zci E (some (.inl x, h)) f = zthr E x h := rfl
def zcr (E : Evn) (o : Option (Ret × AH)) (f : Nat → AH → Option Out) (g : AH → Option Out) : Option Out := match o with
  | some (.inr v, h') => (match v with
    | some (.ref r) => f r h'
    | some .null => g h'
    | _ => none)
  | some (.inl x, h') => zthr E x h'
  | none => none
theorem zcr_r {E : Evn} {r : Nat} {h : AH} {f : Nat → AH → Option Out} {g : AH → Option Out} : zcr E (some (.inr (some (.ref r)), h)) f g = f r h := rfl
theorem zcl_l {E : Evn} {r : Int64} {h : AH} {f : Int64 → AH → Option Out} : zcl E (some (.inr (some (.long r)), h)) f = f r h := rfl
theorem zcl_x {E : Evn} {x : Nat} {h : AH} {f : Int64 → AH → Option Out} : zcl E (some (.inl x, h)) f = zthr E x h := rfl
theorem zcw_v {E : Evn} {h : AH} {f : AH → Option Out} : zcw E (some (.inr none, h)) f = f h := rfl
theorem zcw_x {E : Evn} {x : Nat} {h : AH} {f : AH → Option Out} : zcw E (some (.inl x, h)) f = zthr E x h := rfl
def zcpI (I : Nat → Nat → Int32) (a b n : Nat) : Nat → Nat → Int32 := fun a' => if a' = b then (fun k => if k < n then I a k else I a' k) else I a'
abbrev zix (t n tag : Nat) (i : Int32) : Prop := t = tag ∧ ¬ (i < 0 ∨ n ≤ i.toNatClampNeg)
