/-! THE PURE PART: terms told: the call of the law. -/
theorem zrow_eq {f : Nat → Int32} : ∀ {a b : List Int32} {i : Nat}, a.length = b.length → zrow f i a → zrow f i b → a = b
  | [], [], _, _, _, _ => rfl
  | [], _ :: _, _, h, _, _ => by cases h
  | _ :: _, [], _, h, _, _ => by cases h
  | x :: a, y :: b, i, h, h1, h2 => by
    have hl : a.length = b.length := by
      rw [List.length_cons, List.length_cons] at h
      omega
    rw [zrow_eq hl h1.2 h2.2, ← h1.1, ← h2.1]
theorem zXr_at {X : XH} {a k : Nat} {v : Option Nat} : (zXr X a k v).1 a k = v := by
  show zup X.1 a k v a k = v
  exact zup_at
theorem zXr_k {X : XH} {a k j : Nat} {v : Option Nat} (h : j ≠ k) : (zXr X a k v).1 a j = X.1 a j := by
  show zup X.1 a k v a j = _
  unfold zup
  rw [if_pos rfl, if_neg h]
theorem zXr_o {X : XH} {a b k : Nat} {v : Option Nat} (h : b ≠ a) : (zXr X a k v).1 b = X.1 b := if_neg h
theorem a_terms (xs : Nat → Int32) (L d : Nat) (I : Nat → Nat → Int32) (J : Nat → Nat → Int64) (X : XH) {C : Nat → List (Bool × List Int32)} (a b c : Int32) (hN : PNow I) (hL : PLand I) (hP : PTape I) (hx : PTx I) (hT : PT I X C) : ∃ I2 J2 X2 C2, zAns xs L (d + 58) 221 159 [.int a, .int b, .int c] I J X I2 J2 X2 ∧ PT I2 X2 C2 ∧ yAfter I X I2 X2 ∧ zOut J J2 := by
  have hLt : (I 1 0).toInt = (I 61 3).toInt := by rw [hL.1]
  have h57t : (I 35 1).toInt = (I 61 57).toInt := by rw [hP.1.1]
  have hL9 := hL.2.2
  have hP400 := hP.1.2.2
  by_cases P : 0 ≤ a.toInt ∧ a.toInt < (I 1 0).toInt
  · by_cases Q : 0 ≤ b.toInt ∧ b.toInt ≤ (I 35 1).toInt
    · obtain ⟨l, hl⟩ : ∃ l, l = nv a := ⟨_, rfl⟩
      have el : a = Int32.ofNat l := by rw [hl, nv_of P.1]
      have l9 : l < 9 := by
        have := nv_int P.1
        omega
      have ec : a.toNatClampNeg = l := by rw [hl]; rfl
      have z9 : zat I 19 9 a = I 92 l := by
        rw [el, zat_nat l9 (by omega), (hT.2.2 l l9).1]
      have h92 := hx l l9
      have n92 := nv_int h92.1
      have zi9 : zix 0 9 0 a := by
        rw [el]
        exact zix_nat rfl (by omega) (by omega)
      by_cases R : (0 ≤ c.toInt ∧ c.toInt ≤ 129599) ∧ (zat I 19 9 a).toInt < 4
      · obtain ⟨n, hn⟩ : ∃ n, n = nv b := ⟨_, rfl⟩
        have en : b = Int32.ofNat n := by rw [hn, nv_of Q.1]
        have n400 : n ≤ 400 := by
          have := nv_int Q.1
          omega
        have hbytes : ∀ i, i < n → 0 ≤ (I 36 i).toInt ∧ (I 36 i).toInt ≤ 255 := fun i hi => by
          rw [hP.2.1]
          refine hP.2.2 i ?_
          have := nv_int Q.1
          have := nv_int hP.1.2.1
          omega
        obtain ⟨m, hm⟩ : ∃ m, m = nv (I 92 l) := ⟨_, rfl⟩
        have em : I 92 l = Int32.ofNat m := by rw [hm, nv_of h92.1]
        have m4 : m < 4 := by
          have := R.2
          rw [z9] at this
          omega
        obtain ⟨r, H', c1, c2, c3, c4⟩ := read_two xs L (d + 46) (d + 56) (by omega) J X (H := I) (T := I 36) n400 rfl hbytes
        rw [show d + 46 + 3 + 6 = d + 55 by omega, ← en] at c1
        by_cases r0 : r = 0
        · -- read without a fault
          obtain ⟨_, _, hmid⟩ := c4 (fun _ => I 36) J X 0 (by decide) rfl
          have hmid := hmid.2
          obtain ⟨C0, C0l, h13, h37⟩ : ∃ C0 : List (Bool × List Int32), (yfl C0).length < 400 ∧ H' 35 13 = Int32.ofNat (yfl C0).length ∧ zrow (H' 37) 0 (yfl C0) := by
            rcases hmid with ⟨⟨q, _⟩, _⟩ | ⟨_, _, C0, _, _, _, g1, g2, g3, _⟩
            · exact absurd r0 q
            · exact ⟨C0, g1, g2, g3⟩
          have hcls := (terms_c xs L d (I := I) (H' := H') J X a b c r P Q R.1 R.2 c1 (Or.inl r0)).2 r0 (yfl C0).length l m el l9 (by omega) (by rw [c2 19 (by decide) (by decide) (by decide), (hT.2.2 l l9).1, em]) C0l h13 hT.1
          obtain ⟨t, ht⟩ : ∃ t, t = X.2.2.1 := ⟨_, rfl⟩
          have t123 : 123 ≤ t := by rw [ht]; exact hT.1
          rw [← ht] at hcls
          obtain ⟨I1, hI1⟩ : ∃ I1, I1 = zup (yTf (zup (zup H' 0 12 (-1)) 35 1 0) t (yfl C0).length c (H' 0 11)) 19 l (Int32.ofNat (m + 1)) := ⟨_, rfl⟩
          obtain ⟨X2, hX2⟩ : ∃ X2, X2 = zXr (zXt X (yfl C0).length) 18 (5 * l + m) (some t) := ⟨_, rfl⟩
          rw [← hI1, ← hX2] at hcls
          obtain ⟨J2, hJ2⟩ : ∃ J2, J2 = zup J 122 0 (0 : Int32).toInt64 := ⟨_, rfl⟩
          have o : ∀ q, q ≠ 0 → q ≠ 19 → q ≠ 35 → q ≠ 37 → q ≠ 38 → q ≠ t → q ≠ t + 1 → I1 q = I q := fun q q0 q1 q2 q3 q4 q5 q6 => by
            rw [hI1]
            refine (if_neg q1).trans ((yTf_o q5 q6).trans ?_)
            exact (if_neg q2).trans ((if_neg q0).trans (c2 q q2 q3 q4))
          have oH : ∀ q, q ≠ 19 → q ≠ t → q ≠ t + 1 → I1 q = zup (zup H' 0 12 (-1)) 35 1 0 q := fun q q1 q5 q6 => by
            rw [hI1]
            exact (if_neg q1).trans (yTf_o q5 q6)
          have o61 : I1 61 = I 61 := o 61 (by decide) (by decide) (by decide) (by decide) (by decide) (by omega) (by omega)
          have o92 : I1 92 = I 92 := o 92 (by decide) (by decide) (by decide) (by decide) (by decide) (by omega) (by omega)
          obtain ⟨M1, hM1⟩ : ∃ M1, M1 = zup (zup (zup I1 61 1 0) 61 57 0) 61 67 (-1) := ⟨_, rfl⟩
          have p : ∀ q, q ≠ 61 → M1 q = I1 q := fun q q1 => by
            rw [hM1]
            exact (if_neg q1).trans ((if_neg q1).trans (if_neg q1))
          have p61 : ∀ k, k ≠ 1 → k ≠ 57 → k ≠ 67 → M1 61 k = I 61 k := fun k k1 k2 k3 => by
            rw [hM1]
            exact (zup_k k3).trans ((zup_k k2).trans ((zup_k k1).trans (by rw [o61])))
          have p104 : M1 104 = I 36 := by
            rw [p 104 (by decide), o 104 (by decide) (by decide) (by decide) (by decide) (by decide) (by omega) (by omega), hP.2.1]
          obtain ⟨M', e1, e2, e3⟩ := c4 M1 J2 X2 (4 * l + m) (by omega) p104
          rcases e3 with ⟨⟨q, _⟩, _⟩ | ⟨_, e4, Cn, lt, nr, g1, g2, g3, g4, g5, g6⟩
          · exact absurd r0 q
          · have eC : yfl Cn = yfl C0 := by
              have hlen : (yfl Cn).length = (yfl C0).length := i32_nat_inj (by omega) (by omega) (g3.symm.trans h13)
              exact zrow_eq hlen g4 h37
            have q92 : M' 92 = I 92 := by rw [e2.1 92 (by decide), p 92 (by decide), o92]
            have q61 : ∀ k, k ∉ [58, 59, 60, 61, 62, 63, 64, 65, 66, 67, 68] → M' 61 k = M1 61 k := e2.2.1
            obtain ⟨I2, hI2⟩ : ∃ I2, I2 = zup (zup (zup M' 93 (4 * l + m) c) 94 (4 * l + m) (M' 61 2)) 92 l (Int32.ofNat (m + 1)) := ⟨_, rfl⟩
            have w : ∀ q, q ≠ 92 → q ≠ 93 → q ≠ 94 → I2 q = M' q := fun q q1 q2 q3 => by
              rw [hI2]
              exact (if_neg q1).trans ((if_neg q3).trans (if_neg q2))
            have w93 : I2 93 (4 * l + m) = c := by rw [hI2]; exact (zup_at : zup M' 93 (4 * l + m) c 93 (4 * l + m) = c)
            have w94 : I2 94 (4 * l + m) = M' 61 2 := by rw [hI2]; exact (zup_at : zup (zup M' 93 (4 * l + m) c) 94 (4 * l + m) (M' 61 2) 94 (4 * l + m) = M' 61 2)
            have w92 : I2 92 l = Int32.ofNat (m + 1) := by rw [hI2]; exact zup_at
            have w92n : ∀ k, k ≠ l → I2 92 k = I 92 k := fun k hk => by
              rw [hI2]
              exact (zup_k hk).trans (by
                show M' 92 k = _
                rw [q92])
            have w93n : ∀ k, k ≠ 4 * l + m → I2 93 k = I 93 k := fun k hk => by
              rw [hI2]
              refine (zup_k hk : zup M' 93 (4 * l + m) c 93 k = M' 93 k).trans ?_
              rw [e2.1 93 (by decide), p 93 (by decide), o 93 (by decide) (by decide) (by decide) (by decide) (by decide) (by omega) (by omega)]
            have w94n : ∀ k, k ≠ 4 * l + m → I2 94 k = I 94 k := fun k hk => by
              rw [hI2]
              refine (zup_k hk : zup (zup M' 93 (4 * l + m) c) 94 (4 * l + m) (M' 61 2) 94 k = zup M' 93 (4 * l + m) c 94 k).trans ?_
              show M' 94 k = _
              rw [e2.1 94 (by decide), p 94 (by decide), o 94 (by decide) (by decide) (by decide) (by decide) (by decide) (by omega) (by omega)]
            have s : ∀ q, q ∉ [0, 19, 35, 37, 38, 61, 92, 93, 94, 95, 96, 97, 98, 99, 100, 101] → q ≠ t → q ≠ t + 1 → I2 q = I q := fun q hq q5 q6 => by
              simp only [List.mem_cons, List.not_mem_nil, or_false] at hq
              rw [w q (by omega) (by omega) (by omega), e2.1 q (by simp only [List.mem_cons, List.not_mem_nil, or_false]; omega), p q (by omega), o q (by omega) (by omega) (by omega) (by omega) (by omega) q5 q6]
            have s1 : ∀ q, q ∈ [95, 96, 97, 98, 99, 100, 101] → M1 q = I q := fun q hq => by
              simp only [List.mem_cons, List.not_mem_nil, or_false] at hq
              rw [p q (by omega), o q (by omega) (by omega) (by omega) (by omega) (by omega) (by omega) (by omega)]
            have hF : yFx (4 * l + m) X.2.2.1 I I2 := by
              rw [← ht]
              refine ⟨fun q q1 q2 => s q (by simp only [List.mem_cons, List.not_mem_nil, or_false]; omega) (by omega) (by omega), fun q j hq hj => ?_, fun q j hq hj => ?_, fun j hj => ?_⟩
              · simp only [List.mem_cons, List.not_mem_nil, or_false] at hq
                by_cases y : q = 93
                · rw [y, w93n j hj]
                by_cases y2 : q = 94
                · rw [y2, w94n j hj]
                rw [w q (by omega) y y2, e2.2.2.1 q j (by simp only [List.mem_cons, List.not_mem_nil, or_false]; omega) hj, s1 q (by simp only [List.mem_cons, List.not_mem_nil, or_false]; omega)]
              · have hq' := hq
                simp only [List.mem_cons, List.not_mem_nil, or_false] at hq
                rw [w q (by omega) (by omega) (by omega), e2.2.2.2.1 q j hq' hj, s1 q (by simp only [List.mem_cons, List.not_mem_nil, or_false]; omega)]
              · rw [w 101 (by decide) (by decide) (by decide), e2.2.2.2.2 j hj, s1 101 (by decide)]
            have x18 : ∀ j, j ≠ 5 * l + m → X2.1 18 j = X.1 18 j := fun j hj => by
              rw [hX2]
              rw [zXr_k hj, show (zXt X (yfl C0).length).1 18 = X.1 18 from zXr_o (by omega)]
            have xr : ∀ q k, 123 ≤ q → q < X.2.2.1 → X2.1 q k = X.1 q k := fun q k q1 q2 => by
              rw [hX2]
              have n1 : q ≠ 18 := by omega
              have n2 : q ≠ X.2.2.1 := by omega
              rw [show (zXr (zXt X (yfl C0).length) 18 (5 * l + m) (some t)).1 q = X.1 q from (if_neg n1).trans (if_neg n2)]
            have xk : ∀ q, q < X.2.2.1 → X2.2.1 q = X.2.1 q := fun q q2 => by
              rw [hX2]
              exact (if_neg (show ¬ q = X.2.2.1 + 1 by omega)).trans (if_neg (show ¬ q = X.2.2.1 by omega))
            have xn : X2.2.2.1 = t + 2 := by rw [hX2, ht]; rfl
            have hXX : yFX (5 * l + m) X X2 := ⟨x18, xr, xk, by omega⟩
            have xt4 : X2.1 t 4 = some (t + 1) := by
              rw [hX2, ht]
              have n1 : X.2.2.1 ≠ 18 := by omega
              rw [show (zXr (zXt X (yfl C0).length) 18 (5 * l + m) (some X.2.2.1)).1 X.2.2.1 = (zXt X (yfl C0).length).1 X.2.2.1 from if_neg n1]
              exact zup_at
            have xkt : X2.2.1 t = (18, 0) := by
              rw [hX2, ht]
              exact (if_neg (show ¬ X.2.2.1 = X.2.2.1 + 1 by omega)).trans (if_pos rfl)
            have xku : X2.2.1 (t + 1) = (0, (yfl C0).length) := by
              rw [hX2, ht]
              exact if_pos rfl
            have x18t : X2.1 18 (5 * l + m) = some t := by
              rw [hX2]
              exact zXr_at
            have tt : ∀ k, I2 t k = yTf (zup (zup H' 0 12 (-1)) 35 1 0) t (yfl C0).length c (H' 0 11) t k := fun k => by
              rw [w t (by omega) (by omega) (by omega), e2.1 t (by simp only [List.mem_cons, List.not_mem_nil, or_false]; omega), p t (by omega), hI1, show zup (yTf (zup (zup H' 0 12 (-1)) 35 1 0) t (yfl C0).length c (H' 0 11)) 19 l (Int32.ofNat (m + 1)) t = yTf (zup (zup H' 0 12 (-1)) 35 1 0) t (yfl C0).length c (H' 0 11) t from if_neg (by omega)]
            have tu : ∀ k, k < (yfl C0).length → I2 (t + 1) k = H' 37 k := fun k hk => by
              rw [w (t + 1) (by omega) (by omega) (by omega), e2.1 (t + 1) (by simp only [List.mem_cons, List.not_mem_nil, or_false]; omega), p (t + 1) (by omega), hI1, show zup (yTf (zup (zup H' 0 12 (-1)) 35 1 0) t (yfl C0).length c (H' 0 11)) 19 l (Int32.ofNat (m + 1)) (t + 1) = yTf (zup (zup H' 0 12 (-1)) 35 1 0) t (yfl C0).length c (H' 0 11) (t + 1) from if_neg (by omega), yTf_u hk]
              rfl
            obtain ⟨y0, y1, y2, y3⟩ := yTf_t (I := zup (zup H' 0 12 (-1)) 35 1 0) (t := t) (m := (yfl C0).length) (a := c) (c := H' 0 11)
            have y2 : yTf (zup (zup H' 0 12 (-1)) 35 1 0) t (yfl C0).length c (H' 0 11) t 2 = H' 35 10 := y2.trans (zup_k (by decide))
            have y3 : yTf (zup (zup H' 0 12 (-1)) 35 1 0) t (yfl C0).length c (H' 0 11) t 3 = H' 35 11 := y3.trans (zup_k (by decide))
            have h011 : H' 0 11 = I 0 11 := by rw [c2 0 (by decide) (by decide) (by decide)]
            have now : H' 0 11 = M' 61 2 := by rw [h011, q61 2 (by decide), p61 2 (by decide) (by decide) (by decide), hN.1]
            obtain ⟨C2, hC2⟩ : ∃ C2 : Nat → List (Bool × List Int32), C2 = fun y => if y = 4 * l + m then Cn else C y := ⟨_, rfl⟩
            have C2n : ∀ y, y ≠ 4 * l + m → C2 y = C y := fun y hy => by rw [hC2]; exact if_neg hy
            have C2x : C2 (4 * l + m) = Cn := by rw [hC2]; exact if_pos rfl
            have w19 : I2 19 = I1 19 := by rw [w 19 (by decide) (by decide) (by decide), e2.1 19 (by decide), p 19 (by decide)]
            have w19l : I1 19 l = Int32.ofNat (m + 1) := by rw [hI1]; exact zup_at
            have w19n : ∀ k, k ≠ l → I1 19 k = I 19 k := fun k hk => by
              rw [hI1]
              refine (zup_k hk).trans ?_
              rw [yTf_o (by omega) (by omega)]
              show H' 19 k = _
              rw [c2 19 (by decide) (by decide) (by decide)]
            have w0 : ∀ k, I2 0 k = zup (zup H' 0 12 (-1)) 35 1 0 0 k := fun k => by
              rw [w 0 (by decide) (by decide) (by decide), e2.1 0 (by decide), p 0 (by decide), oH 0 (by decide) (by omega) (by omega)]
            have w35 : I2 35 1 = 0 := by
              rw [w 35 (by decide) (by decide) (by decide), e2.1 35 (by decide), p 35 (by decide), oH 35 (by decide) (by omega) (by omega)]
              exact zup_at
            have w6157 : I2 61 57 = 0 := by
              rw [w 61 (by decide) (by decide) (by decide), q61 57 (by decide), hM1]
              rfl
            have nlm : nv (Int32.ofNat (m + 1)) = m + 1 := i32_clamp (by omega)
            refine ⟨I2, J2, X2, C2, ⟨0, 0, I1, ?_, ?_, ?_, fun _ => ?_⟩, ⟨by omega, ?_, fun l' hl' => ⟨?_, fun i hi => ?_⟩⟩, ⟨⟨fun q hq q6 => ?_, fun k hk => ?_⟩, ?_, ?_, ⟨⟨?_, ?_, ?_⟩, ?_, fun k hk => ?_⟩, fun l' hl' => ?_, fun _ => ?_, ?_, ?_, ?_, fun l' _ hn => w92n l' (fun z => by
              rw [z, hl] at hn
              have := nv_int P.1
              have := nv_int hL.2.1
              omega)⟩, Or.inr ⟨_, hJ2⟩⟩
            · rw [hJ2]
              exact w221_ok xs L (d + 52) I J X a b c I1 J X2 0 hcls
            · have S := zcS (as := [.ref 61, .int a, .int b, .int c]) (S159_0 xs L (d + 52) I1 J2 X2 a b c)
              have r1 := R.1
              have r2 := R.2
              rw [z9] at r2
              have e41 : (4 : Int32) * a + I 92 l = Int32.ofNat (4 * l + m) := by
                rw [el, em]
                show Int32.ofNat 4 * Int32.ofNat l + Int32.ofNat m = _
                rw [nat_mul, nat_add]
              have n4 : ¬ decide (I1 92 a.toNatClampNeg = 4) = true := fun z => by
                have z := of_decide_eq_true z
                rw [o92, ec] at z
                rw [z] at r2
                exact absurd r2 (by decide)
              have zx : zix 0 37 0 (Int32.ofNat (4 * l + m)) := zix_nat rfl (by omega) (by omega)
              have m1 : decide (¬ zbi (¬ a < 0 ∧ ¬ I1 61 3 ≤ a) = 0) = true := decide_eq_true (fun z => (zbi_eq0.mp z) (by
                rw [o61]
                simp only [i32_lt, i32_le, Int32.reduceToInt]
                omega))
              have m2 : ¬ decide (b < 0) = true := fun z => by
                have z := i32_lt.mp (of_decide_eq_true z)
                have : (0 : Int32).toInt = 0 := by decide
                omega
              have m3 : decide (b ≤ I1 61 57) = true := decide_eq_true (i32_le.mpr (by
                rw [o61]
                omega))
              have m5 : ¬ decide (c < 0) = true := fun z => by
                have z := i32_lt.mp (of_decide_eq_true z)
                have : (0 : Int32).toInt = 0 := by decide
                omega
              have m6 : decide (c ≤ (129599 : Int32)) = true := decide_eq_true (i32_le.mpr (by
                have : (129599 : Int32).toInt = 129599 := by decide
                omega))
              rw [if_pos m1, if_neg m2, if_pos m3, if_pos zi9, if_neg n4, if_neg m5, if_pos m6, if_pos zi9, ← hM1, o92, ec, e41, en, e1, zci_i, T159_5_13_657 xs L (d + 52), if_pos (decide_eq_true r0), if_pos zx, if_pos zx, if_pos zi9, if_pos zi9, i32_clamp (by omega : 4 * l + m < 2147483648), ec, q92, em, nat_succ] at S
              rw [hI2, en]
              exact S
            · rw [w 61 (by decide) (by decide) (by decide), q61 1 (by decide), hM1]
              rfl
            · rw [hJ2]
              exact zup_at
            · rw [s 16 (by decide) (by omega) (by omega)]
              exact hT.2.1
            · rw [w19]
              by_cases cl : l' = l
              · rw [cl, w19l, w92]
              · rw [w19n l' cl, w92n l' cl]
                exact (hT.2.2 l' hl').1
            · by_cases cl : l' = l
              · rw [cl, w92, nlm] at hi
                rw [cl]
                by_cases ci : i = m
                · rw [ci]
                  refine ⟨t, x18t, t123, by omega, xkt, ⟨?_, ?_, ?_, ?_, ?_⟩, fun u hu => ?_, ⟨⟨t + 1, xt4, by omega, ?_, ?_, ?_⟩, ⟨?_, ?_, ?_⟩, ?_⟩⟩
                  · rw [tt, y0, w93]
                  · rw [tt, y0]
                    exact R.1.1
                  · rw [tt, y1, w94, now]
                  · rw [tt, y2, g5, w 96 (by decide) (by decide) (by decide), g1.2.2.2.2.1]
                  · rw [tt, y3, g6, w 97 (by decide) (by decide) (by decide), g1.2.2.2.2.2]
                  · rw [xt4] at hu
                    have := Option.some.inj hu
                    omega
                  · rw [C2x, eC]
                    exact xku
                  · rw [C2x]
                    exact g2
                  · rw [C2x, eC]
                    exact zrow_cg (fun j _ hj => (tu j (by omega)).symm) h37
                  · rw [C2x, w 95 (by decide) (by decide) (by decide)]
                    exact g1.1
                  · rw [C2x]
                    exact g1.2.1
                  · rw [C2x]
                    exact zMc_fr2 Cn 0 0 g1.2.2.1 (fun q j hq _ _ => by
                      simp only [List.mem_cons, List.not_mem_nil, or_false] at hq
                      rw [w q (by omega) (by omega) (by omega)]) (fun j _ _ => by rw [w 101 (by decide) (by decide) (by decide)])
                  · rw [C2x]
                    exact g1.2.2.2.1
                · exact yEn_keep hF hXX (C2n _ (by omega)) (by omega) (by omega) ((hT.2.2 l l9).2 i (by omega))
              · rw [w92n l' cl] at hi
                have hx' := hx l' hl'
                have := nv_int hx'.1
                exact yEn_keep hF hXX (C2n _ (by omega)) (by omega) (by omega) ((hT.2.2 l' hl').2 i hi)
            · rw [← ht] at hq
              simp only [List.mem_cons, List.not_mem_nil, or_false] at hq
              exact s q (by simp only [List.mem_cons, List.not_mem_nil, or_false]; omega) (by omega) (by omega)
            · have hk' := hk
              simp only [List.mem_cons, List.not_mem_nil, or_false] at hk
              rw [w 61 (by decide) (by decide) (by decide), q61 k (by simp only [List.mem_cons, List.not_mem_nil, or_false]; omega), p61 k (by omega) (by omega) (by omega)]
            · rw [w0]
              exact (zup_k (I := H') (by decide) : zup H' 0 12 (-1) 0 11 = H' 0 11).trans h011
            · rw [w0]
              refine (zup_k (by decide) : zup H' 0 12 (-1) 0 13 = H' 0 13).trans ?_
              rw [c2 0 (by decide) (by decide) (by decide)]
            · rw [w35, w6157]
            · rw [w6157]
              decide
            · rw [w6157]
              decide
            · rw [s 36 (by decide) (by omega) (by omega), s 104 (by decide) (by omega) (by omega)]
              exact hP.2.1
            · rw [w6157] at hk
              exact absurd hk (Nat.not_lt_zero k)
            · by_cases cl : l' = l
              · rw [cl, w92, i32_toInt (by omega)]
                omega
              · rw [w92n l' cl]
                exact hx l' hl'
            · rw [w0, w 61 (by decide) (by decide) (by decide), e4]
              exact (zup_at : zup H' 0 12 (-1) 0 12 = -1)
            · omega
            · rw [hX2]
              exact Nat.le_refl _
            · rw [hX2]
              show X.2.2.2.2 + 5 + (yfl C0).length ≤ _
              omega
        · -- a fault
          have r9 : ¬ r = 9 := by
            obtain ⟨_, _, hmid⟩ := c4 (fun _ => I 36) J X 0 (by decide) rfl
            rcases hmid.2 with ⟨⟨_, q⟩, _⟩ | ⟨q, _⟩
            · exact q
            · exact absurd q r0
          have hcls := (terms_c xs L d (I := I) (H' := H') J X a b c r P Q R.1 R.2 c1 (Or.inr ⟨r0, r9⟩)).1 r0
          obtain ⟨I1, hI1⟩ : ∃ I1, I1 = zup (zup H' 0 12 (H' 35 3)) 35 1 0 := ⟨_, rfl⟩
          rw [← hI1] at hcls
          obtain ⟨J2, hJ2⟩ : ∃ J2, J2 = zup J 122 0 r.toInt64 := ⟨_, rfl⟩
          have o : ∀ q, q ≠ 0 → q ≠ 35 → q ≠ 37 → q ≠ 38 → I1 q = I q := fun q q0 q2 q3 q4 => by
            rw [hI1]
            exact (if_neg q2).trans ((if_neg q0).trans (c2 q q2 q3 q4))
          have o61 : I1 61 = I 61 := o 61 (by decide) (by decide) (by decide) (by decide)
          have o92 : I1 92 = I 92 := o 92 (by decide) (by decide) (by decide) (by decide)
          obtain ⟨M1, hM1⟩ : ∃ M1, M1 = zup (zup (zup I1 61 1 0) 61 57 0) 61 67 (-1) := ⟨_, rfl⟩
          have p : ∀ q, q ≠ 61 → M1 q = I1 q := fun q q1 => by
            rw [hM1]
            exact (if_neg q1).trans ((if_neg q1).trans (if_neg q1))
          have p61 : ∀ k, k ≠ 1 → k ≠ 57 → k ≠ 67 → M1 61 k = I 61 k := fun k k1 k2 k3 => by
            rw [hM1]
            exact (zup_k k3).trans ((zup_k k2).trans ((zup_k k1).trans (by rw [o61])))
          have p104 : M1 104 = I 36 := by rw [p 104 (by decide), o 104 (by decide) (by decide) (by decide) (by decide), hP.2.1]
          obtain ⟨M', e1, e2, e3⟩ := c4 M1 J2 X (4 * l + m) (by omega) p104
          rcases e3 with ⟨_, pl, ⟨e4, e5⟩, e6⟩ | ⟨q, _⟩
          · have q61 : ∀ k, k ∉ [58, 59, 60, 61, 62, 63, 64, 65, 66, 67, 68] → M' 61 k = M1 61 k := e2.2.1
            have s : ∀ q, q ∉ [0, 35, 37, 38, 61, 95, 96, 97, 98, 99, 100, 101] → M' q = I q := fun q hq => by
              simp only [List.mem_cons, List.not_mem_nil, or_false] at hq
              rw [e2.1 q (by simp only [List.mem_cons, List.not_mem_nil, or_false]; omega), p q (by omega), o q (by omega) (by omega) (by omega) (by omega)]
            have s1 : ∀ q, q ∈ [93, 94, 95, 96, 97, 98, 99, 100, 101] → M1 q = I q := fun q hq => by
              simp only [List.mem_cons, List.not_mem_nil, or_false] at hq
              rw [p q (by omega), o q (by omega) (by omega) (by omega) (by omega)]
            have hF : yFx (4 * l + m) X.2.2.1 I M' := by
              refine ⟨fun q q1 q2 => s q (by simp only [List.mem_cons, List.not_mem_nil, or_false]; omega), fun q j hq hj => ?_, fun q j hq hj => ?_, fun j hj => ?_⟩
              · simp only [List.mem_cons, List.not_mem_nil, or_false] at hq
                by_cases y : q = 93 ∨ q = 94
                · rw [s q (by simp only [List.mem_cons, List.not_mem_nil, or_false]; omega)]
                rw [e2.2.2.1 q j (by simp only [List.mem_cons, List.not_mem_nil, or_false]; omega) hj, s1 q (by simp only [List.mem_cons, List.not_mem_nil, or_false]; omega)]
              · have hq' := hq
                simp only [List.mem_cons, List.not_mem_nil, or_false] at hq
                rw [e2.2.2.2.1 q j hq' hj, s1 q (by simp only [List.mem_cons, List.not_mem_nil, or_false]; omega)]
              · rw [e2.2.2.2.2 j hj, s1 101 (by decide)]
            have hXX : yFX 45 X X := ⟨fun _ _ => rfl, fun _ _ _ _ => rfl, fun _ _ => rfl, Nat.le_refl _⟩
            have w0 : ∀ k, M' 0 k = zup (zup H' 0 12 (H' 35 3)) 35 1 0 0 k := fun k => by rw [e2.1 0 (by decide), p 0 (by decide), hI1]
            have w35 : M' 35 1 = 0 := by
              rw [e2.1 35 (by decide), p 35 (by decide), hI1]
              exact zup_at
            have w6157 : M' 61 57 = 0 := by
              rw [q61 57 (by decide), hM1]
              rfl
            refine ⟨M', J2, X, C, ⟨0, r, I1, ?_, ?_, ?_, fun _ => ?_⟩, ⟨hT.1, ?_, fun l' hl' => ⟨?_, fun i hi => ?_⟩⟩, ⟨⟨fun q hq q6 => ?_, fun k hk => ?_⟩, ?_, ?_, ⟨⟨?_, ?_, ?_⟩, ?_, fun k hk => ?_⟩, fun l' hl' => ?_, fun _ => ?_, Nat.le_refl _, by omega, by omega, fun l' _ _ => by rw [s 92 (by decide)]⟩, Or.inr ⟨_, hJ2⟩⟩
            · rw [hJ2]
              exact w221_ok xs L (d + 52) I J X a b c I1 J X r hcls
            · have S := zcS (as := [.ref 61, .int a, .int b, .int c]) (S159_0 xs L (d + 52) I1 J2 X a b c)
              have r1 := R.1
              have r2 := R.2
              rw [z9] at r2
              have e41 : (4 : Int32) * a + I 92 l = Int32.ofNat (4 * l + m) := by
                rw [el, em]
                show Int32.ofNat 4 * Int32.ofNat l + Int32.ofNat m = _
                rw [nat_mul, nat_add]
              have n4 : ¬ decide (I1 92 a.toNatClampNeg = 4) = true := fun z => by
                have z := of_decide_eq_true z
                rw [o92, ec] at z
                rw [z] at r2
                exact absurd r2 (by decide)
              have m1 : decide (¬ zbi (¬ a < 0 ∧ ¬ I1 61 3 ≤ a) = 0) = true := decide_eq_true (fun z => (zbi_eq0.mp z) (by
                rw [o61]
                simp only [i32_lt, i32_le, Int32.reduceToInt]
                omega))
              have m2 : ¬ decide (b < 0) = true := fun z => by
                have z := i32_lt.mp (of_decide_eq_true z)
                have : (0 : Int32).toInt = 0 := by decide
                omega
              have m3 : decide (b ≤ I1 61 57) = true := decide_eq_true (i32_le.mpr (by
                rw [o61]
                omega))
              have m5 : ¬ decide (c < 0) = true := fun z => by
                have z := i32_lt.mp (of_decide_eq_true z)
                have : (0 : Int32).toInt = 0 := by decide
                omega
              have m6 : decide (c ≤ (129599 : Int32)) = true := decide_eq_true (i32_le.mpr (by
                have : (129599 : Int32).toInt = 129599 := by decide
                omega))
              rw [if_pos m1, if_neg m2, if_pos m3, if_pos zi9, if_neg n4, if_neg m5, if_pos m6, if_pos zi9, ← hM1, o92, ec, e41, en, e1, zci_i, T159_5_13_657 xs L (d + 52), if_neg (fun z => r0 (of_decide_eq_true z)), e5] at S
              rw [en]
              exact S
            · rw [q61 1 (by decide), hM1]
              rfl
            · rw [hJ2]
              exact zup_at
            · rw [s 16 (by decide)]
              exact hT.2.1
            · rw [s 19 (by decide), s 92 (by decide)]
              exact (hT.2.2 l' hl').1
            · rw [s 92 (by decide)] at hi
              have hx' := hx l' hl'
              have := nv_int hx'.1
              have hne : 4 * l' + i ≠ 4 * l + m := fun z => by
                have : l' = l := by omega
                rw [this] at hi
                omega
              exact yEn_keep hF hXX rfl hne (by omega) ((hT.2.2 l' hl').2 i hi)
            · simp only [List.mem_cons, List.not_mem_nil, or_false] at hq
              exact s q (by simp only [List.mem_cons, List.not_mem_nil, or_false]; omega)
            · simp only [List.mem_cons, List.not_mem_nil, or_false] at hk
              rw [q61 k (by simp only [List.mem_cons, List.not_mem_nil, or_false]; omega), p61 k (by omega) (by omega) (by omega)]
            · rw [w0]
              refine (zup_k (by decide) : zup H' 0 12 (H' 35 3) 0 11 = H' 0 11).trans ?_
              rw [c2 0 (by decide) (by decide) (by decide)]
            · rw [w0]
              refine (zup_k (by decide) : zup H' 0 12 (H' 35 3) 0 13 = H' 0 13).trans ?_
              rw [c2 0 (by decide) (by decide) (by decide)]
            · rw [w35, w6157]
            · rw [w6157]
              decide
            · rw [w6157]
              decide
            · rw [s 36 (by decide), s 104 (by decide)]
              exact hP.2.1
            · rw [w6157] at hk
              exact absurd hk (Nat.not_lt_zero k)
            · rw [s 92 (by decide)]
              exact hx l' hl'
            · rw [w0, e4, ← e6]
              exact (zup_at : zup H' 0 12 (H' 35 3) 0 12 = H' 35 3)
          · exact absurd q r0
      · -- refused
        have hcls := refuse_c xs L d (I := I) J X a b c P Q R
        obtain ⟨I1, hI1⟩ : ∃ I1, I1 = zup (zup I 0 12 (-1)) 35 1 0 := ⟨_, rfl⟩
        rw [← hI1] at hcls
        obtain ⟨I2, hI2⟩ : ∃ I2, I2 = zup (zup (zup I1 61 1 0) 61 57 0) 61 67 (-1) := ⟨_, rfl⟩
        have o : ∀ q, q ≠ 0 → q ≠ 35 → I1 q = I q := fun q q0 q2 => by
          rw [hI1]
          exact (if_neg q2).trans (if_neg q0)
        have o61 : I1 61 = I 61 := o 61 (by decide) (by decide)
        have p : ∀ q, q ≠ 61 → I2 q = I1 q := fun q q1 => by
          rw [hI2]
          exact (if_neg q1).trans ((if_neg q1).trans (if_neg q1))
        have p61 : ∀ k, k ≠ 1 → k ≠ 57 → k ≠ 67 → I2 61 k = I 61 k := fun k k1 k2 k3 => by
          rw [hI2]
          exact (zup_k k3).trans ((zup_k k2).trans ((zup_k k1).trans (by rw [o61])))
        have fr : zfr8 [0, 35] [1, 57, 67] I I2 := ⟨fun q hq q6 => by
          simp only [List.mem_cons, List.not_mem_nil, or_false] at hq
          rw [p q q6, o q (by omega) (by omega)], fun k hk => by
          simp only [List.mem_cons, List.not_mem_nil, or_false] at hk
          exact p61 k (by omega) (by omega) (by omega)⟩
        have w0 : ∀ k, I2 0 k = zup (zup I 0 12 (-1)) 35 1 0 0 k := fun k => by rw [p 0 (by decide), hI1]
        have w6157 : I2 61 57 = 0 := by
          rw [hI2]
          rfl
        have w35 : I2 35 1 = 0 := by
          rw [p 35 (by decide), hI1]
          exact zup_at
        refine ⟨I2, zup J 122 0 (9 : Int32).toInt64, X, C, ⟨0, 9, I1, w221_ok xs L (d + 52) I J X a b c I1 J X 9 hcls, ?_, ?_, fun _ => zup_at⟩, PT_e fr (by decide) (by decide) hT, ⟨⟨fun q hq q6 => ?_, fun k hk => ?_⟩, ?_, ?_, ⟨⟨?_, ?_, ?_⟩, ?_, fun k hk => ?_⟩, PTx_fr fr (by decide) hx, fun _ => ?_, Nat.le_refl _, by omega, by omega, fun l' _ _ => by rw [fr.1 92 (by decide) (by decide)]⟩, Or.inr ⟨_, rfl⟩⟩
        · have S := zcS (as := [.ref 61, .int a, .int b, .int c]) (S159_0 xs L (d + 52) I1 (zup J 122 0 (9 : Int32).toInt64) X a b c)
          have f92 : I1 92 a.toNatClampNeg = I 92 l := by rw [ec, o 92 (by decide) (by decide)]
          have m1 : decide (¬ zbi (¬ a < 0 ∧ ¬ I1 61 3 ≤ a) = 0) = true := decide_eq_true (fun z => (zbi_eq0.mp z) (by
            rw [o61]
            simp only [i32_lt, i32_le, Int32.reduceToInt]
            omega))
          have m2 : ¬ decide (b < 0) = true := fun z => by
            have z := i32_lt.mp (of_decide_eq_true z)
            have : (0 : Int32).toInt = 0 := by decide
            omega
          have m3 : decide (b ≤ I1 61 57) = true := decide_eq_true (i32_le.mpr (by
            rw [o61]
            omega))
          rw [if_pos m1, if_neg m2, if_pos m3, if_pos zi9, ← hI2] at S
          by_cases n4 : I 92 l = 4
          · rw [if_pos (decide_eq_true (f92.trans n4))] at S
            exact S
          · rw [if_neg (fun z => n4 (f92.symm.trans (of_decide_eq_true z)))] at S
            by_cases m5 : c < 0
            · rw [if_pos (decide_eq_true m5)] at S
              exact S
            · have m6 : ¬ decide (c ≤ (129599 : Int32)) = true := fun z => R (by
                have z := i32_le.mp (of_decide_eq_true z)
                have : (129599 : Int32).toInt = 129599 := by decide
                have : (0 : Int32).toInt = 0 := by decide
                have : ¬ c.toInt < (0 : Int32).toInt := fun y => m5 (i32_lt.mpr y)
                rw [z9]
                refine ⟨⟨by omega, by omega⟩, ?_⟩
                have : ¬ (I 92 l).toInt = 4 := fun y => n4 (i32_eq.mpr (by
                  rw [y]
                  decide))
                omega)
              rw [if_neg (fun z => m5 (of_decide_eq_true z)), if_neg m6] at S
              exact S
        · rw [hI2]
          rfl
        · simp only [List.mem_cons, List.not_mem_nil, or_false] at hq
          exact fr.1 q (by simp only [List.mem_cons, List.not_mem_nil, or_false]; omega) q6
        · simp only [List.mem_cons, List.not_mem_nil, or_false] at hk
          exact fr.2 k (by simp only [List.mem_cons, List.not_mem_nil, or_false]; omega)
        · rw [w0]
          exact (zup_k (by decide) : zup I 0 12 (-1) 0 11 = I 0 11)
        · rw [w0]
          exact (zup_k (by decide) : zup I 0 12 (-1) 0 13 = I 0 13)
        · rw [w35, w6157]
        · rw [w6157]
          decide
        · rw [w6157]
          decide
        · rw [fr.1 36 (by decide) (by decide), fr.1 104 (by decide) (by decide)]
          exact hP.2.1
        · rw [w6157] at hk
          exact absurd hk (Nat.not_lt_zero k)
        · rw [w0, hI2]
          exact (zup_at : zup I 0 12 (-1) 0 12 = -1)
    · -- too long a text
      have hcls : zev xs L (d + 57) 118 [.ref 0, .int a, .int b, .int c] (zmk I J X) = some (.inl 1, zmk I J (zXe X)) := by
        have nl := needLand_ok xs L (d + 51 + 5) (by omega) I J X a P
        have nb := need_len xs L (d + 51 + 5) (by omega) I J X b
        rw [if_neg Q] at nb
        refine (zcS (S118_0 xs L (d + 51) I J X a b c)).trans ?_
        rw [nl, zcw_v, T118_0_3_697 xs L (d + 51), nb, zcw_x, zthr_P rfl]
        rfl
      have fr : zfr8 [] [1] I (zup (zup I 61 1 0) 61 1 2) := zfr8_m (zfr8_m zfr8_rfl (by decide)) (by decide)
      refine ⟨zup (zup I 61 1 0) 61 1 2, J, zXe X, C, ⟨2, 0, I, w221_x1 xs L (d + 52) I J X a b c I J (zXe X) hcls, ?_, zup_at, fun z => absurd z (by decide)⟩, PT_x (PT_e fr (by decide) (by decide) hT), after_e fr hP hx, Or.inl rfl⟩
      have S := zcS (as := [.ref 61, .int a, .int b, .int c]) (S159_0 xs L (d + 52) I J (zXe X) a b c)
      have m1 : decide (¬ zbi (¬ a < 0 ∧ ¬ I 61 3 ≤ a) = 0) = true := decide_eq_true (fun z => (zbi_eq0.mp z) (by
        simp only [i32_lt, i32_le, Int32.reduceToInt]
        omega))
      rw [if_pos m1] at S
      by_cases m2 : b < 0
      · rw [if_pos (decide_eq_true m2)] at S
        exact S
      · have m3 : ¬ decide (b ≤ I 61 57) = true := fun z => Q (by
          have z := i32_le.mp (of_decide_eq_true z)
          have : ¬ b.toInt < (0 : Int32).toInt := fun y => m2 (i32_lt.mpr y)
          have : (0 : Int32).toInt = 0 := by decide
          omega)
        rw [if_neg (fun z => m2 (of_decide_eq_true z)), if_neg m3] at S
        exact S
  · -- no such land
    have hcls : zev xs L (d + 57) 118 [.ref 0, .int a, .int b, .int c] (zmk I J X) = some (.inl 0, zmk I J (zXe X)) := by
      have nl := needLand_no xs L (d + 51 + 5) (by omega) I J X a P
      refine (zcS (S118_0 xs L (d + 51) I J X a b c)).trans ?_
      rw [nl, zcw_x, zthr_P rfl]
      rfl
    have fr : zfr8 [] [1] I (zup (zup I 61 1 0) 61 1 1) := zfr8_m (zfr8_m zfr8_rfl (by decide)) (by decide)
    refine ⟨zup (zup I 61 1 0) 61 1 1, J, zXe X, C, ⟨1, 0, I, w221_x0 xs L (d + 52) I J X a b c I J (zXe X) hcls, ?_, zup_at, fun z => absurd z (by decide)⟩, PT_x (PT_e fr (by decide) (by decide) hT), after_e fr hP hx, Or.inl rfl⟩
    have S := zcS (as := [.ref 61, .int a, .int b, .int c]) (S159_0 xs L (d + 52) I J (zXe X) a b c)
    have m1 : ¬ decide (¬ zbi (¬ a < 0 ∧ ¬ I 61 3 ≤ a) = 0) = true := fun z => (of_decide_eq_true z) (zbi_eq0.mpr (fun y => by
      simp only [i32_lt, i32_le, Int32.reduceToInt] at y
      omega))
    rw [if_neg m1] at S
    exact S
