/-! THE PURE PART: terms told, both sides. -/
theorem zmk_inj {I I2 : Nat → Nat → Int32} {J : Nat → Nat → Int64} {X : XH} (h : zmk I J X = zmk I2 J X) : I = I2 := congrArg Prod.fst h
/-- reading: the class once, the model on any heap with the same text -/
theorem read_two (xs : Nat → Int32) (L d0 d1 : Nat) (hd1 : 49 ≤ d1) (Jc : Nat → Nat → Int64) (Xc : XH) {H : Nat → Nat → Int32} {T : Nat → Int32} {n : Nat} (hn : n ≤ 400) (hH : H 36 = T) (hb : ∀ i, i < n → 0 ≤ (T i).toInt ∧ (T i).toInt ≤ 255) : ∃ r H', zev xs L (d0 + 3 + 6) 44 [.ref 35, .int (Int32.ofNat n)] (zmk H Jc Xc) = some (.inr (some (.int r)), zmk H' Jc Xc) ∧ (∀ a, a ≠ 35 → a ≠ 37 → a ≠ 38 → H' a = H a) ∧ H' 35 1 = H 35 1 ∧ ∀ (M : Nat → Nat → Int32) (Jm : Nat → Nat → Int64) (Xm : XH) (x : Nat), x < 37 → M 104 = T → ∃ M', zev xs L (d1 + 1) 160 [.ref 61, .int (Int32.ofNat x), .int (Int32.ofNat n)] (zmk M Jm Xm) = some (.inr (some (.int r)), zmk M' Jm Xm) ∧ yfX x M M' ∧ (((¬ r = 0 ∧ ¬ r = 9) ∧ ∃ p, (M' 61 67 = Int32.ofNat p ∧ M' 61 65 = r) ∧ H' 35 3 = Int32.ofNat p) ∨ (r = 0 ∧ M' 61 67 = -1 ∧ ∃ C lt nr, yRd M' x C lt nr ∧ (yfl C).length < 400 ∧ H' 35 13 = Int32.ofNat (yfl C).length ∧ zrow (H' 37) 0 (yfl C) ∧ H' 35 10 = lt ∧ H' 35 11 = nr)) := by
  obtain ⟨r, H', M0, c1, c2, c3, c4, c5, c6⟩ := read_eq xs L d0 d1 hd1 Jc Jc Xc Xc (H := H) (M := fun _ => T) (x := 0) hn hH rfl hb (by decide)
  refine ⟨r, H', c1, c3, c4, fun M Jm Xm x hx hM => ?_⟩
  obtain ⟨r2, H2, M', e1, e2, e3, e4, e5, e6⟩ := read_eq xs L d0 d1 hd1 Jc Jm Xc Xm (H := H) (M := M) (x := x) hn hH hM hb hx
  have q := e1.symm.trans c1
  have q := Option.some.inj q
  have q1 : (Sum.inr (some (Value.int r2)) : Ret) = Sum.inr (some (Value.int r)) := congrArg Prod.fst q
  have q2 : H2 = H' := zmk_inj (congrArg Prod.snd q)
  have q3 : r2 = r := by
    injection q1 with q1
    injection q1 with q1
    injection q1
  subst q2 q3
  exact ⟨M', e2, e5, e6⟩
theorem read_9 (xs : Nat → Int32) (L D : Nat) (hD : 6 ≤ D) (I : Nat → Nat → Int32) (J : Nat → Nat → Int64) (X : XH) (a : Int32) : zev xs L D 121 [.ref 0, .int a, .int 0] (zmk I J X) = some (.inr (some (.int 9)), zmk (zup (zup I 0 12 (-1)) 35 1 0) J X) := by
  obtain ⟨d, rfl⟩ := Nat.exists_eq_add_of_le hD
  rw [Nat.add_comm 6 d]
  refine (zcS (S121_0 xs L d I J X a 0)).trans ?_
  rw [if_pos (show decide ((0 : Int32) = 0) = true by decide)]
  rfl
theorem read_121 (xs : Nat → Int32) (L D : Nat) (hD : 6 ≤ D) {I H' : Nat → Nat → Int32} (J : Nat → Nat → Int64) (X : XH) (a r : Int32) (h : zev xs L (D - 1) 44 [.ref 35, .int a] (zmk I J X) = some (.inr (some (.int r)), zmk H' J X)) (hr : r = 0 ∨ (¬ r = 0 ∧ ¬ r = 9)) : zev xs L D 121 [.ref 0, .int a, .int 1] (zmk I J X) = some (.inr (some (.int r)), zmk (zup (zup H' 0 12 (if r = 0 then -1 else H' 35 3)) 35 1 0) J X) := by
  obtain ⟨d, rfl⟩ := Nat.exists_eq_add_of_le hD
  rw [show 6 + d - 1 = d + 5 by omega] at h
  rw [Nat.add_comm 6 d]
  refine (zcS (S121_0 xs L d I J X a 1)).trans ?_
  rw [if_neg (show ¬ decide ((1 : Int32) = 0) = true by decide), h, zci_i, T121_0_6_694 xs L d]
  rcases hr with c | ⟨c, c9⟩
  · rw [if_pos (decide_eq_true c), if_pos c]
    rfl
  · rw [if_neg (fun z => c (of_decide_eq_true z)), if_neg c, if_pos (decide_eq_true c9)]
    rfl
/-- one telling of terms, on both sides -/
def yEn (I : Nat → Nat → Int32) (X : XH) (C : Nat → List (Bool × List Int32)) (l i : Nat) : Prop := ∃ r, X.1 18 (5 * l + i) = some r ∧ 123 ≤ r ∧ r < X.2.2.1 ∧ X.2.1 r = (18, 0) ∧ (I r 0 = I 93 (4 * l + i) ∧ 0 ≤ (I r 0).toInt ∧ I r 1 = I 94 (4 * l + i) ∧ I r 2 = I 96 (4 * l + i) ∧ I r 3 = I 97 (4 * l + i)) ∧ (∀ u, X.1 r 4 = some u → u < X.2.2.1) ∧ zTx I X C r (4 * l + i)
/-- the terms told of all lands -/
def PT (I : Nat → Nat → Int32) (X : XH) (C : Nat → List (Bool × List Int32)) : Prop := 123 ≤ X.2.2.1 ∧ (I 16 0 = -1 ∧ I 16 2 = 10080 ∧ I 16 3 = 30) ∧ ∀ l, l < 9 → I 19 l = I 92 l ∧ ∀ i, i < nv (I 92 l) → yEn I X C l i
theorem zMc_fr2 {V V' : Nat → Nat → Int32} {x : Nat} : ∀ (C : List (Bool × List Int32)) (i p : Nat), zMc V x i p C → (∀ a j, a ∈ [98, 99, 100] → 16 * x + i ≤ j → j < 16 * x + (i + C.length) → V' a j = V a j) → (∀ j, 640 * x + p ≤ j → j < 640 * x + (p + (ycs C).length) → V' 101 j = V 101 j) → zMc V' x i p C
  | [], i, p, h, _, _ => h
  | (b, m) :: C, i, p, h, e, f => by
    obtain ⟨g1, g2, g3, g4, g5⟩ := h
    have el : (ycs ((b, m) :: C)).length = (zmcs m).length + (ycs C).length := List.length_append
    have ec : ((b, m) :: C).length = C.length + 1 := List.length_cons
    refine ⟨?_, ?_, ?_, zrow_cg (fun j h1 h2 => ?_) g4, zMc_fr2 C (i + 1) (p + (zmcs m).length) g5 (fun a j ha h1 hj => e a j ha (by omega) (by omega)) (fun j h1 hj => f j (by omega) (by omega))⟩
    · rw [e 98 _ (by decide) (by omega) (by omega)]
      exact g1
    · rw [e 99 _ (by decide) (by omega) (by omega)]
      exact g2
    · rw [e 100 _ (by decide) (by omega) (by omega)]
      exact g3
    · exact (f j (by omega) (by omega)).symm
theorem zMc_len {V : Nat → Nat → Int32} {x : Nat} : ∀ (C : List (Bool × List Int32)) (i p : Nat), zMc V x i p C → p + (ycs C).length ≤ 640
  | [], i, p, h => h
  | (b, m) :: C, i, p, h => by
    have q := zMc_len C (i + 1) (p + (zmcs m).length) h.2.2.2.2
    have el : (ycs ((b, m) :: C)).length = (zmcs m).length + (ycs C).length := List.length_append
    omega
/-- all but text x and new objects is as it was -/
def yFx (x n : Nat) (I I2 : Nat → Nat → Int32) : Prop := (∀ b, 123 ≤ b → b < n → I2 b = I b) ∧ (∀ a j, a ∈ [93, 94, 95, 96, 97] → j ≠ x → I2 a j = I a j) ∧ (∀ a j, a ∈ [98, 99, 100] → j < 16 * x ∨ 16 * x + 16 ≤ j → I2 a j = I a j) ∧ ∀ j, j < 640 * x ∨ 640 * x + 640 ≤ j → I2 101 j = I 101 j
def yFX (p : Nat) (X X2 : XH) : Prop := (∀ j, j ≠ p → X2.1 18 j = X.1 18 j) ∧ (∀ r k, 123 ≤ r → r < X.2.2.1 → X2.1 r k = X.1 r k) ∧ (∀ r, r < X.2.2.1 → X2.2.1 r = X.2.1 r) ∧ X.2.2.1 ≤ X2.2.2.1
theorem zTx_keep {I I2 : Nat → Nat → Int32} {X X2 : XH} {C C2 : Nat → List (Bool × List Int32)} {x p r y : Nat} (hF : yFx x X.2.2.1 I I2) (hX : yFX p X X2) (hC : C2 y = C y) (hy : y ≠ x) (r1 : 123 ≤ r) (r2 : r < X.2.2.1) (hu : ∀ u, X.1 r 4 = some u → u < X.2.2.1) (h : zTx I X C r y) : zTx I2 X2 C2 r y := by
  obtain ⟨⟨u, u1, u2, u3, u4, u5⟩, ⟨q1, q2, q3⟩, q4⟩ := h
  have un := hu u u1
  have hl := zMc_len _ _ _ q3
  unfold zTx
  rw [hC]
  refine ⟨⟨u, (hX.2.1 r 4 r1 r2).trans u1, u2, (hX.2.2.1 u un).trans u3, u4, by rw [hF.1 u u2 un]; exact u5⟩, ⟨?_, q2, zMc_fr2 _ 0 0 q3 (fun a j ha h1 h2 => hF.2.2.1 a j ha (by omega)) (fun j h1 h2 => hF.2.2.2 j (by omega))⟩, q4⟩
  rw [hF.2.1 95 y (by decide) hy]
  exact q1
theorem yEn_keep {I I2 : Nat → Nat → Int32} {X X2 : XH} {C C2 : Nat → List (Bool × List Int32)} {x p l i : Nat} (hF : yFx x X.2.2.1 I I2) (hX : yFX p X X2) (hC : C2 (4 * l + i) = C (4 * l + i)) (hy : 4 * l + i ≠ x) (hp : 5 * l + i ≠ p) (h : yEn I X C l i) : yEn I2 X2 C2 l i := by
  obtain ⟨r, r1, r2, r3, r4, r5, r6, r7⟩ := h
  refine ⟨r, (hX.1 _ hp).trans r1, r2, Nat.lt_of_lt_of_le r3 hX.2.2.2, (hX.2.2.1 r r3).trans r4, ?_, fun u hu => ?_, zTx_keep hF hX hC hy r2 r3 r6 r7⟩
  · rw [hF.1 r r2 r3, hF.2.1 93 _ (by decide) hy, hF.2.1 94 _ (by decide) hy, hF.2.1 96 _ (by decide) hy, hF.2.1 97 _ (by decide) hy]
    exact r5
  · rw [hX.2.1 r 4 r2 r3] at hu
    exact Nat.lt_of_lt_of_le (r6 u hu) hX.2.2.2
theorem need_len (xs : Nat → Int32) (L D : Nat) (hD : 6 ≤ D) (I : Nat → Nat → Int32) (J : Nat → Nat → Int64) (X : XH) (b : Int32) : zev xs L D 119 [.ref 0, .int b] (zmk I J X) = if 0 ≤ b.toInt ∧ b.toInt ≤ (I 35 1).toInt then some (.inr none, zmk I J X) else some (.inl 1, zmk I J (zXe X)) := by
  obtain ⟨d, rfl⟩ := Nat.exists_eq_add_of_le hD
  rw [Nat.add_comm 6 d]
  refine (zcS (S119_0 xs L d I J X b)).trans ?_
  simp only [decide_eq_true_eq, zbi_eq0, i32_lt, Int32.reduceToInt]
  by_cases c : 0 ≤ b.toInt ∧ b.toInt ≤ (I 35 1).toInt
  · rw [if_pos (by omega), if_pos c]
    rfl
  · rw [if_neg (by omega), if_neg c]
    rfl
abbrev ySt (t : Nat) : List Nat := [t, t + 1, 0, 19, 35, 37, 38, 92, 93, 94, 95, 96, 97, 98, 99, 100, 101]
abbrev yTt : List Nat := [1, 57, 58, 59, 60, 61, 62, 63, 64, 65, 66, 67, 68]
/-- what an operation that reads leaves known -/
def yAfter (I : Nat → Nat → Int32) (X : XH) (I2 : Nat → Nat → Int32) (X2 : XH) : Prop := zfr8 (ySt X.2.2.1) yTt I I2 ∧ I2 0 11 = I 0 11 ∧ I2 0 13 = I 0 13 ∧ PTape I2 ∧ PTx I2 ∧ (I 0 12 = I 61 67 → I2 0 12 = I2 61 67) ∧ X.2.2.1 ≤ X2.2.2.1 ∧ X2.2.2.2.1 ≤ X.2.2.2.1 + 2 ∧ X2.2.2.2.2 ≤ X.2.2.2.2 + 410 ∧ ∀ l, l < 9 → nv (I 61 3) ≤ l → I2 92 l = I 92 l
theorem after_e {I I2 : Nat → Nat → Int32} {X : XH} (h : zfr8 [] [1] I I2) (hp : PTape I) (hx : PTx I) : yAfter I X I2 (zXe X) := by
  refine ⟨⟨fun b _ b6 => h.1 b (fun z => by cases z) b6, fun k hk => h.2 k (fun z => hk (by
    rw [List.mem_singleton.mp z]
    decide))⟩, ?_, ?_, PTape_fr h (by decide) (by decide) hp, PTx_fr h (by decide) hx, ?_, Nat.le_refl _, ?_, ?_, fun l _ _ => by rw [h.1 92 (fun z => by cases z) (by decide)]⟩
  · rw [h.1 0 (fun z => by cases z) (by decide)]
  · rw [h.1 0 (fun z => by cases z) (by decide)]
  · rw [h.1 0 (fun z => by cases z) (by decide), h.2 67 (by decide)]
    exact fun z => z
  · show X.2.2.2.1 + 1 ≤ _
    omega
  · show X.2.2.2.2 + 6 ≤ _
    omega
theorem PT_e {I I2 : Nat → Nat → Int32} {X : XH} {C : Nat → List (Bool × List Int32)} {S T : List Nat} (h : zfr8 S T I I2) (hs : ∀ b, b ∈ [16, 19, 92, 93, 94, 95, 96, 97, 98, 99, 100, 101] → b ∉ S) (hS : ∀ b, b ∈ S → b < 123) (p : PT I X C) : PT I2 X C := by
  obtain ⟨p0, p1, p2⟩ := p
  have e : ∀ b, b ∈ [16, 19, 92, 93, 94, 95, 96, 97, 98, 99, 100, 101] → I2 b = I b := fun b hb => h.1 b (hs b hb) (fun z => by
    rw [z] at hb
    exact absurd hb (by decide))
  refine ⟨p0, by rw [e 16 (by decide)]; exact p1, fun l hl => ?_⟩
  obtain ⟨q1, q2⟩ := p2 l hl
  rw [e 19 (by decide), e 92 (by decide)]
  refine ⟨q1, fun i hi => ?_⟩
  obtain ⟨r, r1, r2, r3, r4, r5, r6, r7⟩ := q2 i hi
  refine ⟨r, r1, r2, r3, r4, ?_, r6, zTx_fr h (fun b hb => hs b (by
    simp only [List.mem_cons, List.not_mem_nil, or_false] at hb ⊢
    omega)) hS r7⟩
  rw [e 93 (by decide), e 94 (by decide), e 96 (by decide), e 97 (by decide), h.1 r (fun z => by
    have := hS r z
    omega) (by omega)]
  exact r5
theorem PT_x {I : Nat → Nat → Int32} {X : XH} {C : Nat → List (Bool × List Int32)} (p : PT I X C) : PT I (zXe X) C := p
/-- the terms of all lands, where no land is under trial, as the queries use them -/
theorem PTm_of {I : Nat → Nat → Int32} {X : XH} {C : Nat → List (Bool × List Int32)} (p : PT I X C) (h54 : I 61 54 = -1) (hx : PTx I) (k : Int32) : PTm I X C k := by
  obtain ⟨p0, p1, p2⟩ := p
  intro l hl
  obtain ⟨q1, q2⟩ := p2 l hl
  have h92 := hx l hl
  have n92 := nv_int h92.1
  have eN : zNm I l (nv (I 92 l)) = nv (I 92 l) := by
    unfold zNm
    rw [h54]
    exact if_neg (fun z => nat_m1 (n := l) (by omega) z.symm)
  obtain ⟨ρ, hρ⟩ : ∃ ρ : Nat → Nat, ρ = fun i => (X.1 18 (5 * l + i)).getD 0 := ⟨_, rfl⟩
  refine ⟨ρ, fun i => I 94 (4 * l + i), ⟨by omega, (nv_of h92.1).symm, ⟨hl, ?_, ?_, p1.1, fun i hi => ?_⟩, fun i _ => rfl, fun i hi hn => ?_, ⟨p1.2.1, p1.2.2⟩, fun i hi => ?_⟩, fun i hi => ?_⟩
  · rw [eN]
    omega
  · rw [eN, q1]
    exact (nv_of h92.1).symm
  · rw [eN] at hi
    obtain ⟨r, r1, r2, r3, r4, r5, r6, r7⟩ := q2 i hi
    have er : ρ i = r := by
      rw [hρ]
      show (X.1 18 (5 * l + i)).getD 0 = r
      rw [r1]
      rfl
    have eF : zFm I l (nv (I 92 l)) i = I 93 (4 * l + i) := if_pos hi
    rw [er, eF]
    exact ⟨r1, r2, r4, r5.1, r5.2.2.1, by rw [← r5.1]; exact r5.2.1⟩
  · rw [eN] at hi
    exact absurd hi hn
  · rw [eN] at hi
    obtain ⟨r, r1, r2, r3, r4, r5, r6, r7⟩ := q2 i hi
    have er : ρ i = r := by
      rw [hρ]
      show (X.1 18 (5 * l + i)).getD 0 = r
      rw [r1]
      rfl
    rw [er, if_pos hi]
    exact r5.2.2.2
  · rw [eN] at hi
    obtain ⟨r, r1, r2, r3, r4, r5, r6, r7⟩ := q2 i hi
    have er : ρ i = r := by
      rw [hρ]
      show (X.1 18 (5 * l + i)).getD 0 = r
      rw [r1]
      rfl
    have ez : zidx l (nv (I 92 l)) i = 4 * l + i := if_pos hi
    rw [er, ez]
    exact r7
