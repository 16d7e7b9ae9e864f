/-! THE PURE PART: decisions, rates, and what is only asked. -/
/-- a wrapped call that answers yes or no, on both sides -/
def zAnb (xs : Nat → Int32) (L d W M : Nat) (as : List Value) (I : Nat → Nat → Int32) (J : Nat → Nat → Int64) (X : XH) (I2 : Nat → Nat → Int32) (J2 : Nat → Nat → Int64) (X2 : XH) : Prop :=
  ∃ k v I1, zev xs L d W (.ref 0 :: as ++ [.ref 122]) (zmk I J X) = some (.inr (some (.int k)), zmk I1 J2 X2) ∧ zev xs L d M (.ref 61 :: as) (zmk I1 J2 X2) = some (.inr (some (.int v)), zmk I2 J2 X2) ∧ I2 61 1 = k ∧ (k = 0 → J2 122 0 = if v = 0 then Int64.ofNat 0 else Int64.ofNat 1)
theorem settle_y (xs : Nat → Int32) (L D : Nat) (hD : 6 ≤ D) (I : Nat → Nat → Int32) (J : Nat → Nat → Int64) (X : XH) (a b c e : Int32) (h : zat I 22 40 a = -1) : zev xs L D 9 [.ref 20, .int a, .int b, .int c, .int e] (zmk I J X) = some (.inr (some (.int 1)), zmk (zup (zput (zput (zput (zput I 22 40 a e) 23 40 a b) 24 40 a c) 25 40 (I 20 1) a) 20 1 (I 20 1 + 1)) J X) := by
  obtain ⟨d, rfl⟩ := Nat.exists_eq_add_of_le hD
  rw [Nat.add_comm 6 d]
  refine (zcS (S9_0 xs L d I J X _ _ _ _)).trans ?_
  rw [if_pos (decide_eq_true h)]
  rfl
theorem settle_n (xs : Nat → Int32) (L D : Nat) (hD : 6 ≤ D) (I : Nat → Nat → Int32) (J : Nat → Nat → Int64) (X : XH) (a b c e : Int32) (h : ¬ zat I 22 40 a = -1) : zev xs L D 9 [.ref 20, .int a, .int b, .int c, .int e] (zmk I J X) = some (.inr (some (.int 0)), zmk I J X) := by
  obtain ⟨d, rfl⟩ := Nat.exists_eq_add_of_le hD
  rw [Nat.add_comm 6 d]
  refine (zcS (S9_0 xs L d I J X _ _ _ _)).trans ?_
  rw [if_neg (fun z => h (of_decide_eq_true z))]
  rfl
theorem i32_2 (x : Int32) : x = 2 ↔ x.toInt = 2 := by
  rw [i32_eq]
  simp only [Int32.reduceToInt]
/-- what the class answers where a decision may be made -/
theorem decide_c (xs : Nat → Int32) (L D : Nat) (hD : 8 ≤ D) (I : Nat → Nat → Int32) (J : Nat → Nat → Int64) (X : XH) (a b c : Int32) (r : Int32) (I1 : Nat → Nat → Int32) (hr : r = 0 ∨ r = 1) (P : 0 ≤ a.toInt ∧ a.toInt < (I 20 0).toInt) (W : 0 ≤ b.toInt ∧ b.toInt ≤ 2) (G : b.toInt = 2 → (0 ≤ c.toInt ∧ c.toInt < (I 1 1).toInt) ∧ zat I 7 40 c = 1000000000) (hs : ∀ D, 6 ≤ D → zev xs L D 9 [.ref 20, .int a, .int b, .int c, .int (I 0 11)] (zmk I J X) = some (.inr (some (.int r)), zmk I1 J X)) : zev xs L D 117 [.ref 0, .int a, .int b, .int c] (zmk I J X) = some (.inr (some (.int r)), zmk I1 J X) := by
  obtain ⟨d, rfl⟩ := Nat.exists_eq_add_of_le hD
  rw [show 8 + d = d + 2 + 6 by omega]
  refine (zcS (S117_0 xs L (d + 2) I J X _ _ _)).trans ?_
  rw [need_ok xs L _ (by omega) I J X a _ P, zcw_v, T117_0_6_694]
  by_cases H : b.toInt = 2
  · have G := G H
    rw [if_neg (fun z => (of_decide_eq_true z) ((i32_2 b).mpr H)), need_ok xs L _ (by omega) I J X c _ G.1, zcw_v, T117_0_15_685]
    simp only [decide_eq_true_eq, zbi_eq0]
    simp only [i32_lt, i32_2, Int32.reduceToInt]
    rw [if_neg (by omega), if_neg (by omega), if_pos (by rw [Decidable.not_not]; exact G.2), hs _ (by omega), zci_i, T117_3_8_663, if_pos hr]
    rfl
  · rw [if_pos (decide_eq_true (show ¬ b = 2 from fun z => H ((i32_2 b).mp z)))]
    simp only [decide_eq_true_eq, zbi_eq0]
    simp only [i32_lt, i32_2, Int32.reduceToInt]
    rw [if_neg (by omega), if_pos H, hs _ (by omega), zci_i, T117_3_8_675, if_pos hr]
    rfl
/-- where it may not -/
theorem decide_n (xs : Nat → Int32) (L D : Nat) (hD : 8 ≤ D) (I : Nat → Nat → Int32) (J : Nat → Nat → Int64) (X : XH) (a b c : Int32) (P : 0 ≤ a.toInt ∧ a.toInt < (I 20 0).toInt) (R : b.toInt = 2 → 0 ≤ c.toInt ∧ c.toInt < (I 1 1).toInt) (W : ¬ ((0 ≤ b.toInt ∧ b.toInt ≤ 2) ∧ (b.toInt = 2 → zat I 7 40 c = 1000000000))) : zev xs L D 117 [.ref 0, .int a, .int b, .int c] (zmk I J X) = some (.inr (some (.int 0)), zmk I J X) := by
  obtain ⟨d, rfl⟩ := Nat.exists_eq_add_of_le hD
  rw [show 8 + d = d + 2 + 6 by omega]
  refine (zcS (S117_0 xs L (d + 2) I J X _ _ _)).trans ?_
  rw [need_ok xs L _ (by omega) I J X a _ P, zcw_v, T117_0_6_694]
  by_cases H : b.toInt = 2
  · have R := R H
    rw [if_neg (fun z => (of_decide_eq_true z) ((i32_2 b).mpr H)), need_ok xs L _ (by omega) I J X c _ R, zcw_v, T117_0_15_685]
    simp only [decide_eq_true_eq, zbi_eq0]
    simp only [i32_lt, i32_2, Int32.reduceToInt]
    have G : ¬ zat I 7 40 c = 1000000000 := fun z => W ⟨by omega, fun _ => z⟩
    rw [if_neg (by omega), if_neg (by omega), if_neg (by rw [Decidable.not_not]; exact G)]
    rfl
  · rw [if_pos (decide_eq_true (show ¬ b = 2 from fun z => H ((i32_2 b).mp z)))]
    simp only [decide_eq_true_eq, zbi_eq0]
    simp only [i32_lt, i32_2, Int32.reduceToInt]
    have W2 : ¬ (0 ≤ b.toInt ∧ b.toInt ≤ 2) := fun z => W ⟨z, fun z2 => absurd z2 H⟩
    rw [if_pos (by omega)]
    rfl
theorem decide_x (xs : Nat → Int32) (L D : Nat) (hD : 8 ≤ D) (I : Nat → Nat → Int32) (J : Nat → Nat → Int64) (X : XH) (a b c : Int32) (P : ¬ ((0 ≤ a.toInt ∧ a.toInt < (I 20 0).toInt) ∧ (b.toInt = 2 → 0 ≤ c.toInt ∧ c.toInt < (I 1 1).toInt))) : zev xs L D 117 [.ref 0, .int a, .int b, .int c] (zmk I J X) = some (.inl 0, zmk I J (zXe X)) := by
  obtain ⟨d, rfl⟩ := Nat.exists_eq_add_of_le hD
  rw [show 8 + d = d + 2 + 6 by omega]
  refine (zcS (S117_0 xs L (d + 2) I J X _ _ _)).trans ?_
  by_cases Q : 0 ≤ a.toInt ∧ a.toInt < (I 20 0).toInt
  · have R : b.toInt = 2 ∧ ¬ (0 ≤ c.toInt ∧ c.toInt < (I 1 1).toInt) := by
      by_cases H : b.toInt = 2
      · exact ⟨H, fun z => P ⟨Q, fun _ => z⟩⟩
      · exact absurd ⟨Q, fun z => absurd z H⟩ P
    rw [need_ok xs L _ (by omega) I J X a _ Q, zcw_v, T117_0_6_694, if_neg (fun z => (of_decide_eq_true z) ((i32_2 b).mpr R.1)), need_no xs L _ (by omega) I J X c _ R.2, zcw_x, zthr_P rfl]
    rfl
  · rw [need_no xs L _ (by omega) I J X a _ Q, zcw_x, zthr_P rfl]
    rfl
/-- no n numbers below n, no two alike, leave one out -/
theorem zpig : ∀ n : Nat, ∀ f : Nat → Nat, (∀ t, t < n → f t < n) → (∀ t u, t < n → u < n → f t = f u → t = u) → ∀ x, x < n → ∃ t, t < n ∧ f t = x := by
  intro n
  induction n with
  | zero => intro f _ _ x hx; omega
  | succ n ih =>
    intro f hf hi x hx
    by_cases hx2 : ∃ t, t < n + 1 ∧ f t = x
    · exact hx2
    · exfalso
      -- swap x and n
      have hg : ∀ t, t < n → (if f t = n then x else f t) < n := by
        intro t ht
        have h1 := hf t (by omega)
        by_cases c1 : f t = n
        · rw [if_pos c1]
          by_cases c2 : x = n
          · exact absurd ⟨t, by omega, by omega⟩ hx2
          · omega
        · rw [if_neg c1]
          omega
      have hj : ∀ t u, t < n → u < n → (if f t = n then x else f t) = (if f u = n then x else f u) → t = u := by
        intro t u ht hu he
        by_cases c1 : f t = n
        · by_cases c2 : f u = n
          · exact hi t u (by omega) (by omega) (by omega)
          · rw [if_pos c1, if_neg c2] at he
            exact absurd ⟨u, by omega, he.symm⟩ hx2
        · by_cases c2 : f u = n
          · rw [if_neg c1, if_pos c2] at he
            exact absurd ⟨t, by omega, he⟩ hx2
          · rw [if_neg c1, if_neg c2] at he
            exact hi t u (by omega) (by omega) he
      have h2 := hf n (by omega)
      by_cases c : f n = n
      · have c3 : x ≠ n := fun z => hx2 ⟨n, by omega, by omega⟩
        obtain ⟨t, g1, g2⟩ := ih (fun t => if f t = n then x else f t) hg hj x (by omega)
        have g2 : (if f t = n then x else f t) = x := g2
        by_cases c4 : f t = n
        · have := hi t n (by omega) (by omega) (by omega)
          omega
        · rw [if_neg c4] at g2
          exact hx2 ⟨t, by omega, g2⟩
      · obtain ⟨t, g1, g2⟩ := ih (fun t => if f t = n then x else f t) hg hj (f n) (by omega)
        have g2 : (if f t = n then x else f t) = f n := g2
        by_cases c4 : f t = n
        · rw [if_pos c4] at g2
          exact hx2 ⟨n, by omega, g2.symm⟩
        · rw [if_neg c4] at g2
          have := hi t n (by omega) (by omega) g2
          omega
/-- one that isn't decided leaves room -/
theorem dis_lt {I : Nat → Nat → Int32} (hF : PDis I) {a : Nat} (ha : a < nv (I 61 20)) (Q : I 80 a = -1) : (I 61 21).toInt < (I 61 20).toInt := by
  obtain ⟨⟨h1, h2, h3⟩, ⟨k1, k2, k3⟩, _, h8, h9⟩ := hF
  have n20 := nv_int h2
  have n21 := nv_int k2
  by_cases c : (I 61 21).toInt < (I 61 20).toInt
  · exact c
  exfalso
  obtain ⟨t, g1, g2⟩ := zpig (nv (I 61 21)) (fun t => nv (I 25 t)) (fun t ht => by
    obtain ⟨e1, g1, g2, _, _⟩ := h9 t ht
    show nv (I 25 t) < _
    rw [g2, nv_nat (by omega)]
    omega) (fun t u ht hu he => by
    obtain ⟨e1, g1, g2, g3, g4⟩ := h9 t ht
    obtain ⟨e2, q1, q2, q3, q4⟩ := h9 u hu
    have he : nv (I 25 t) = nv (I 25 u) := he
    rw [g2, q2, nv_nat (by omega), nv_nat (by omega)] at he
    subst he
    rw [g4] at q4
    have q4 := (nat_eq (by omega) (by omega)).mp q4
    omega) a (by omega)
  obtain ⟨e1, q1, q2, q3, _⟩ := h9 t g1
  have g2 : nv (I 25 t) = a := g2
  rw [q2, nv_nat (by omega)] at g2
  subst g2
  exact q3 Q
theorem a_decide (xs : Nat → Int32) (L d : Nat) (I : Nat → Nat → Int32) (J : Nat → Nat → Int64) (X : XH) (a b c : Int32) (hN : PNow I) (hR : I 1 1 = I 61 4 ∧ (I 61 4).toInt ≤ 40) (hG : ∀ r, r < nv (I 61 4) → (I 7 r = 1000000000 ↔ ¬ I 73 r = 0)) (hF : PDis I) : ∃ I2 J2 X2, zAnb xs L (d + 10) 220 157 [.int a, .int b, .int c] I J X I2 J2 X2 ∧ PDis I2 ∧ zfr8 [20, 22, 23, 24, 25, 80, 81, 82, 83] [1, 21] I I2 ∧ zOut J J2 ∧ (X2 = X ∨ X2 = zXe X) := by
  have hF0 := hF
  obtain ⟨⟨h1, h2, h3⟩, ⟨k1, k2, k3⟩, ⟨h4, h5, h6, h7⟩, h8, h9⟩ := hF
  have h1t : (I 20 0).toInt = (I 61 20).toInt := by rw [h1]
  have k1t : (I 20 1).toInt = (I 61 21).toInt := by rw [k1]
  have hRt : (I 1 1).toInt = (I 61 4).toInt := by rw [hR.1]
  have n20 := nv_int h2
  have n21 := nv_int k2
  by_cases P : (0 ≤ a.toInt ∧ a.toInt < (I 20 0).toInt) ∧ (b.toInt = 2 → 0 ≤ c.toInt ∧ c.toInt < (I 1 1).toInt)
  · have na : nv a < 40 ∧ (nv a : Int) = a.toInt := by
      have := nv_int P.1.1
      omega
    have z22 : zat I 22 40 a = I 80 (nv a) := by rw [zat_of P.1.1 (by omega), h5]
    have za : zix 0 40 0 a := zix_of rfl P.1.1 (by omega)
    have hw : b.toInt = 2 → (zat I 7 40 c = 1000000000 ↔ ¬ I 73 c.toNatClampNeg = 0) := by
      intro H
      have := P.2 H
      have e := nv_int this.1
      rw [zat_of this.1 (by omega)]
      exact hG (nv c) (by
        have := nv_int (x := I 61 4) (by omega)
        omega)
    have zc : b.toInt = 2 → zix 1 40 1 c := fun H => zix_of rfl (P.2 H).1 (by have := (P.2 H).2; omega)
    by_cases W : (0 ≤ b.toInt ∧ b.toInt ≤ 2) ∧ (b.toInt = 2 → zat I 7 40 c = 1000000000)
    · by_cases Q : I 80 (nv a) = -1
      · have hlt := dis_lt hF0 (show nv a < nv (I 61 20) by omega) Q
        have hs : ∀ D, 6 ≤ D → zev xs L D 9 [.ref 20, .int a, .int b, .int c, .int (I 0 11)] (zmk I J X) = some (.inr (some (.int 1)), zmk (zup (zput (zput (zput (zput I 22 40 a (I 0 11)) 23 40 a b) 24 40 a c) 25 40 (I 20 1) a) 20 1 (I 20 1 + 1)) J X) := fun D hD => settle_y xs L D hD I J X a b c (I 0 11) (z22.trans Q)
        have e1 := nv_add1 k2 (by omega)
        refine ⟨zup (zup (zup (zup (zup (zup (zup (zput (zput (zput (zput I 22 40 a (I 0 11)) 23 40 a b) 24 40 a c) 25 40 (I 20 1) a) 20 1 (I 20 1 + 1)) 61 1 0) 80 a.toNatClampNeg (I 61 2)) 82 a.toNatClampNeg b) 83 a.toNatClampNeg c) 61 21 (I 61 21 + 1)) 81 a.toNatClampNeg (I 61 21 + 1), zup J 122 0 (Int64.ofNat 1), X, ⟨0, 1, zup (zput (zput (zput (zput I 22 40 a (I 0 11)) 23 40 a b) 24 40 a c) 25 40 (I 20 1) a) 20 1 (I 20 1 + 1), ?_, ?_, rfl, fun _ => zup_at⟩, ?_, ?_, Or.inr ⟨_, rfl⟩, Or.inl rfl⟩
        · exact w220_ok xs L (d + 4) I J X a b c _ J X 1 (decide_c xs L _ (by omega) I J X a b c 1 _ (Or.inr rfl) P.1 W.1 (fun H => ⟨P.2 H, W.2 H⟩) hs)
        · refine (zcS (S157_0 xs L (d + 4) _ _ X _ _ _)).trans ?_
          have e : (zup (zput (zput (zput (zput I 22 40 a (I 0 11)) 23 40 a b) 24 40 a c) 25 40 (I 20 1) a) 20 1 (I 20 1 + 1)) 61 = I 61 := rfl
          have e2 : (zup (zput (zput (zput (zput I 22 40 a (I 0 11)) 23 40 a b) 24 40 a c) 25 40 (I 20 1) a) 20 1 (I 20 1 + 1)) 80 = I 80 := rfl
          have e3 : (zup (zput (zput (zput (zput I 22 40 a (I 0 11)) 23 40 a b) 24 40 a c) 25 40 (I 20 1) a) 20 1 (I 20 1 + 1)) 73 = I 73 := rfl
          have Q2 : I 80 a.toNatClampNeg = -1 := Q
          rw [e, e2, e3, if_pos za, if_pos za, if_pos za, if_pos za, if_pos za]
          simp only [decide_eq_true_eq, zbi_eq0]
          simp only [i32_le, i32_lt, i32_2, Int32.reduceToInt]
          by_cases H : b.toInt = 2
          · have H2 := P.2 H
            have H3 := (hw H).mp (W.2 H)
            rw [if_neg (by omega), if_neg (by omega), if_neg (by omega), if_pos (by omega), if_neg (fun z => z Q2), if_neg (by omega), if_neg (by omega), if_neg (by omega), if_pos (zc H), if_pos H3]
            rfl
          · rw [if_neg (by omega), if_neg (by omega), if_pos H, if_neg (fun z => z Q2), if_neg (by omega), if_neg (by omega), if_pos H]
            rfl
        · have hz : ∀ (I3 : Nat → Nat → Int32) (q : Nat) (v : Int32), zput I3 q 40 a v = zov I3 q (zset (I3 q) (nv a) v) := fun I3 q v => zput_zset P.1.1 (by omega)
          have hz2 : ∀ (I3 : Nat → Nat → Int32) (q : Nat) (v : Int32), zput I3 q 40 (I 20 1) v = zov I3 q (zset (I3 q) (nv (I 61 21)) v) := by
            intro I3 q v
            rw [zput_zset (by omega) (by omega), k1]
          rw [hz, hz, hz, hz2]
          refine ⟨⟨h1, h2, h3⟩, ⟨?_, ?_, ?_⟩, ⟨h4, ?_, ?_, ?_⟩, ?_, ?_⟩
          · show I 20 1 + 1 = I 61 21 + 1
            rw [k1]
          · show 0 ≤ (I 61 21 + 1).toInt
            omega
          · show (I 61 21 + 1).toInt ≤ (I 61 20).toInt
            omega
          · show zset (I 22) (nv a) (I 0 11) = fun k' => if k' = a.toNatClampNeg then I 61 2 else I 80 k'
            rw [h5, hN.1]
            rfl
          · show zset (I 23) (nv a) b = fun k' => if k' = a.toNatClampNeg then b else I 82 k'
            rw [h6]
            rfl
          · show zset (I 24) (nv a) c = fun k' => if k' = a.toNatClampNeg then c else I 83 k'
            rw [h7]
            rfl
          · show ∀ e, e < nv (I 61 20) → (0 ≤ (I 79 e).toInt ∧ (I 79 e).toInt < (I 61 19).toInt) ∧ ((if e = nv a then I 61 2 else I 80 e) = -1 ∨ (0 ≤ (if e = nv a then I 61 2 else I 80 e).toInt ∧ (0 ≤ (if e = nv a then b else I 82 e).toInt ∧ (if e = nv a then b else I 82 e).toInt ≤ 2) ∧ ((if e = nv a then b else I 82 e) = 2 → 0 ≤ (if e = nv a then c else I 83 e).toInt ∧ (if e = nv a then c else I 83 e).toInt < (I 61 4).toInt) ∧ ∃ t, t < nv (I 61 21 + 1) ∧ (if e = nv a then I 61 21 + 1 else I 81 e) = Int32.ofNat (t + 1) ∧ zset (I 25) (nv (I 61 21)) a t = Int32.ofNat e))
            intro e he
            refine ⟨(h8 e he).1, ?_⟩
            by_cases ce : e = nv a
            · rw [if_pos ce, if_pos ce, if_pos ce, if_pos ce]
              refine Or.inr ⟨hN.2.1, W.1, fun H => ?_, nv (I 61 21), by omega, ?_, ?_⟩
              · have := P.2 ((i32_2 b).mp H)
                omega
              · rw [← nat_succ, nv_of k2]
              · rw [zset_at, ce, nv_of P.1.1]
            · rw [if_neg ce, if_neg ce, if_neg ce, if_neg ce]
              rcases (h8 e he).2 with q | ⟨q1, q2, q3, t, q4, q5, q6⟩
              · exact Or.inl q
              · refine Or.inr ⟨q1, q2, q3, t, by omega, q5, ?_⟩
                rw [zset_ne (by omega)]
                exact q6
          · show ∀ t, t < nv (I 61 21 + 1) → ∃ e, e < nv (I 61 20) ∧ zset (I 25) (nv (I 61 21)) a t = Int32.ofNat e ∧ ¬ (if e = nv a then I 61 2 else I 80 e) = -1 ∧ (if e = nv a then I 61 21 + 1 else I 81 e) = Int32.ofNat (t + 1)
            intro t ht
            by_cases ct : t = nv (I 61 21)
            · refine ⟨nv a, by omega, ?_, ?_, ?_⟩
              · rw [ct, zset_at, nv_of P.1.1]
              · rw [if_pos rfl]
                intro z
                have := hN.2.1
                rw [z, i32_m1] at this
                omega
              · rw [if_pos rfl, ct, ← nat_succ, nv_of k2]
            · obtain ⟨e, q1, q2, q3, q4⟩ := h9 t (by omega)
              have ce : e ≠ nv a := fun z => q3 (z ▸ Q)
              refine ⟨e, q1, ?_, ?_, ?_⟩
              · rw [zset_ne ct]
                exact q2
              · rw [if_neg ce]
                exact q3
              · rw [if_neg ce]
                exact q4
        · exact zfr8_up (zfr8_m (zfr8_up (zfr8_up (zfr8_up (zfr8_m (zfr8_up (zfr8_put (zfr8_put (zfr8_put (zfr8_put zfr8_rfl (by decide) (by decide)) (by decide) (by decide)) (by decide) (by decide)) (by decide) (by decide)) (by decide) (by decide)) (by decide)) (by decide) (by decide)) (by decide) (by decide)) (by decide) (by decide)) (by decide)) (by decide) (by decide)
      · have hs : ∀ D, 6 ≤ D → zev xs L D 9 [.ref 20, .int a, .int b, .int c, .int (I 0 11)] (zmk I J X) = some (.inr (some (.int 0)), zmk I J X) := fun D hD => settle_n xs L D hD I J X a b c (I 0 11) (fun z => Q (z22.symm.trans z))
        refine ⟨zup I 61 1 0, zup J 122 0 (Int64.ofNat 0), X, ⟨0, 0, I, ?_, ?_, rfl, fun _ => zup_at⟩, hF0, zfr8_m zfr8_rfl (by decide), Or.inr ⟨_, rfl⟩, Or.inl rfl⟩
        · exact w220_ok xs L (d + 4) I J X a b c _ J X 0 (decide_c xs L _ (by omega) I J X a b c 0 _ (Or.inl rfl) P.1 W.1 (fun H => ⟨P.2 H, W.2 H⟩) hs)
        · refine (zcS (S157_0 xs L (d + 4) _ _ X _ _ _)).trans ?_
          have Q2 : ¬ I 80 a.toNatClampNeg = -1 := Q
          rw [if_pos za]
          simp only [decide_eq_true_eq, zbi_eq0]
          simp only [i32_le, i32_lt, i32_2, Int32.reduceToInt]
          by_cases H : b.toInt = 2
          · have H2 := P.2 H
            rw [if_neg (by omega), if_neg (by omega), if_neg (by omega), if_pos (by omega), if_pos Q2]
            rfl
          · rw [if_neg (by omega), if_neg (by omega), if_pos H, if_pos Q2]
            rfl
    · refine ⟨zup I 61 1 0, zup J 122 0 (Int64.ofNat 0), X, ⟨0, 0, I, ?_, ?_, rfl, fun _ => zup_at⟩, hF0, zfr8_m zfr8_rfl (by decide), Or.inr ⟨_, rfl⟩, Or.inl rfl⟩
      · exact w220_ok xs L (d + 4) I J X a b c _ J X 0 (decide_n xs L _ (by omega) I J X a b c P.1 P.2 W)
      · refine (zcS (S157_0 xs L (d + 4) _ _ X _ _ _)).trans ?_
        rw [if_pos za]
        simp only [decide_eq_true_eq, zbi_eq0]
        simp only [i32_le, i32_lt, i32_2, Int32.reduceToInt]
        by_cases H : b.toInt = 2
        · have H2 := P.2 H
          have H3 : ¬ ¬ I 73 c.toNatClampNeg = 0 := fun z => W ⟨by omega, fun _ => (hw H).mpr z⟩
          rw [if_neg (by omega), if_neg (by omega), if_neg (by omega), if_pos (by omega)]
          by_cases Q2 : I 80 a.toNatClampNeg = -1
          · rw [if_neg (fun z => z Q2), if_neg (by omega), if_neg (by omega), if_neg (by omega), if_pos (zc H), if_neg H3]
            rfl
          · rw [if_pos Q2]
            rfl
        · have W2 : ¬ (0 ≤ b.toInt ∧ b.toInt ≤ 2) := fun z => W ⟨z, fun z2 => absurd z2 H⟩
          rw [if_neg (by omega), if_neg (by omega), if_pos H]
          by_cases Q2 : I 80 a.toNatClampNeg = -1
          · rw [if_neg (fun z => z Q2)]
            by_cases c1 : b.toInt < 0
            · rw [if_pos c1]
              rfl
            · rw [if_neg c1, if_pos (by omega)]
              rfl
          · rw [if_pos Q2]
            rfl
  · refine ⟨zup (zup I 61 1 0) 61 1 1, J, zXe X, ⟨1, 0, I, ?_, ?_, zup_at, fun z => absurd z (by decide)⟩, hF0, zfr8_m (zfr8_m zfr8_rfl (by decide)) (by decide), Or.inl rfl, Or.inr rfl⟩
    · exact w220_x0 xs L (d + 4) I J X a b c _ J (zXe X) (decide_x xs L _ (by omega) I J X a b c P)
    · refine (zcS (S157_0 xs L (d + 4) _ _ _ _ _ _)).trans ?_
      simp only [decide_eq_true_eq, zbi_eq0]
      simp only [i32_le, i32_lt, i32_2, Int32.reduceToInt]
      by_cases c1 : a.toInt < 0
      · rw [if_pos c1]
        rfl
      rw [if_neg c1]
      by_cases c2 : (I 61 20).toInt ≤ a.toInt
      · rw [if_pos c2]
        rfl
      rw [if_neg c2]
      by_cases H : b.toInt = 2
      · have R : ¬ (0 ≤ c.toInt ∧ c.toInt < (I 1 1).toInt) := fun z => P ⟨by omega, fun _ => z⟩
        rw [if_neg (by omega), if_neg (by omega)]
        rfl
      · exact absurd ⟨by omega, fun z => absurd z H⟩ P
