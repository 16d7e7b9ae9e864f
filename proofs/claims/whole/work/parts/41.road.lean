/-! THE PURE PART: a road more. -/
theorem zOKT_iff {ed ed' : Nat → Nat → Int → Prop} {F : Int} {T : Nat → Nat → Int} (h : ∀ a b w, ed a b w ↔ ed' a b w) (k : zOKT ed F T) : zOKT ed' F T := by
  have e : ed = ed' := by
    funext a b w
    exact propext (h a b w)
  rw [← e]
  exact k
theorem zOKT_congr {ed : Nat → Nat → Int → Prop} {F : Int} {T U : Nat → Nat → Int} (h : ∀ a b, a < 24 → b < 24 → T a b = U a b) (k : zOKT ed F T) : zOKT ed F U := by
  intro a b ha hb
  have := k a b ha hb
  rw [h a b ha hb] at this
  exact this
/-- the roads, on both sides alike; the class's costs of least ways -/
def PRoad (I : Nat → Nat → Int32) : Prop := (I 1 1 = I 61 4 ∧ 0 ≤ (I 61 4).toInt ∧ (I 61 4).toInt ≤ 40) ∧ (I 2 = I 63 ∧ I 3 = I 64 ∧ I 4 = I 65 ∧ I 5 = I 66 ∧ I 6 = I 67) ∧ (∀ r, r < nv (I 61 4) → ((0 ≤ (I 63 r).toInt ∧ (I 63 r).toInt ≤ 23) ∧ (0 ≤ (I 64 r).toInt ∧ (I 64 r).toInt ≤ 23) ∧ 1 ≤ (I 66 r).toInt ∧ (I 66 r).toInt ≤ 999) ∧ nv (I 63 r) ≠ nv (I 64 r) ∧ (0 ≤ (I 65 r).toInt ∧ (I 65 r).toInt < (I 61 3).toInt) ∧ (0 ≤ (I 67 r).toInt ∧ (I 67 r).toInt ≤ 3) ∧ (I 73 r = 0 ∨ I 73 r = 1) ∧ I 7 r = if I 73 r = 0 then I 66 r * 64 + 1 else 1000000000) ∧ zOKT (zed I (nv (I 61 4))) 1000000000 (tb (I 8))
theorem PRoad_rds {I : Nat → Nat → Int32} (h : PRoad I) : zRds I (nv (I 61 4)) ∧ ∀ r, r < nv (I 61 4) → nv (I 63 r) ≠ nv (I 64 r) := by
  obtain ⟨⟨h1, h2, h3⟩, _, h5, _⟩ := h
  have := nv_int h2
  exact ⟨⟨by omega, fun r hr => (h5 r hr).1⟩, fun r hr => (h5 r hr).2.1⟩
theorem zkm_int2 {x : Int32} (h : 1 ≤ x.toInt ∧ x.toInt ≤ 999) : (x * 64 + 1).toInt = 64 * x.toInt + 1 := by
  rw [show x * 64 = 64 * x from Int32.mul_comm x 64]
  exact zkm_int h
theorem PRoad_gan {I : Nat → Nat → Int32} (h : PRoad I) : ∀ r, r < nv (I 61 4) → (I 7 r = 1000000000 ↔ ¬ I 73 r = 0) := by
  intro r hr
  have k := h.2.2.1 r hr
  have e := k.2.2.2.2.2
  by_cases c : I 73 r = 0
  · rw [if_pos c] at e
    refine ⟨fun z => ?_, fun z => absurd c z⟩
    have q := zkm_int2 k.1.2.2
    rw [← e, z] at q
    have : (1000000000 : Int32).toInt = 1000000000 := by decide
    have := k.1.2.2
    omega
  · rw [if_neg c] at e
    exact ⟨fun _ => c, fun _ => e⟩
theorem a_road (xs : Nat → Int32) (L d : Nat) (I : Nat → Nat → Int32) (J : Nat → Nat → Int64) (X : XH) (a1 a2 a3 a4 a5 a6 : Int32) (h6 : a6 = 0 ∨ a6 = 1) (hL : PLand I) (hF : PRoad I) : ∃ I2 J2 X2, zAns xs L (d + 11) 214 143 [.int a1, .int a2, .int a3, .int a4, .int a5, .int a6] I J X I2 J2 X2 ∧ PRoad I2 ∧ zfr8 [1, 2, 3, 4, 5, 6, 7, 8, 63, 64, 65, 66, 67, 73] [1, 4] I I2 ∧ I2 1 0 = I 1 0 ∧ (I 61 4).toInt ≤ (I2 61 4).toInt ∧ zOut J J2 ∧ (X2 = X ∨ X2 = zXe X) := by
  have hF0 := hF
  obtain ⟨⟨h1, h2, h3⟩, ⟨k1, k2, k3, k4, k5⟩, hr, hO⟩ := hF
  have h1t : (I 1 1).toInt = (I 61 4).toInt := by rw [h1]
  have hLt : (I 1 0).toInt = (I 61 3).toInt := by rw [hL.1]
  have n4 := nv_int h2
  have hvp : vp_nar .boolean a6 = a6 := by
    rcases h6 with e | e
    · rw [e, vpb0]
    · rw [e, vpb1]
  by_cases P : 0 ≤ a3.toInt ∧ a3.toInt < (I 1 0).toInt
  · by_cases W : ((0 ≤ a1.toInt ∧ a1.toInt ≤ 23) ∧ (0 ≤ a2.toInt ∧ a2.toInt ≤ 23) ∧ ¬ a1 = a2 ∧ (1 ≤ a4.toInt ∧ a4.toInt ≤ 999) ∧ (0 ≤ a5.toInt ∧ a5.toInt ≤ 3)) ∧ (I 61 4).toInt < 40
    · obtain ⟨⟨W1, W2, W3, W4, W5⟩, W6⟩ := W
      have e1 := nv_add1 h2 (by omega)
      have m1 := nv_int W1.1
      have m2 := nv_int W2.1
      have hne : nv a1 ≠ nv a2 := fun z => W3 (by rw [← nv_of W1.1, ← nv_of W2.1, z])
      have hw := zkm_int2 W4
      have z4 : zix 0 40 0 (I 61 4) := zix_of rfl h2 (by omega)
      have z4b : zix 1 40 1 (I 61 4) := zix_of rfl h2 (by omega)
      have hz2 : ∀ (I3 : Nat → Nat → Int32) (q : Nat) (v : Int32), zput I3 q 40 (I 1 1) v = zov I3 q (zset (I3 q) (nv (I 61 4)) v) := by
        intro I3 q v
        rw [zput_zset (by omega) (by omega), h1]
      have hT : ∀ c, c < 576 → 0 ≤ (I 8 c).toInt ∧ (I 8 c).toInt ≤ 1000000000 := by
        intro c hc
        have k := hO (c / 24) (c % 24) (by omega) (by omega)
        have e : 24 * (c / 24) + c % 24 = c := by omega
        unfold tb at k
        rw [e] at k
        exact ⟨k.1, k.2.1⟩
      -- the class's rows with the road, and the costs
      obtain ⟨f8, hf8⟩ : ∃ f8, f8 = if a6 = 0 then zpre (zshN (I 8) (nv a1) (nv a2) (a4 * 64 + 1)) (I 8) 576 else I 8 := ⟨_, rfl⟩
      obtain ⟨I0, hI0⟩ : ∃ I0, I0 = zput (zput (zput (zput (zput (zput I 2 40 (I 1 1) a1) 3 40 (I 1 1) a2) 4 40 (I 1 1) a3) 5 40 (I 1 1) a4) 6 40 (I 1 1) a5) 7 40 (I 1 1) (if a6 = 0 then a4 * 64 + 1 else 1000000000) := ⟨_, rfl⟩
      have hI0b := hI0
      rw [hz2, hz2, hz2, hz2, hz2, hz2] at hI0b
      have i8 : I0 8 = I 8 := by rw [hI0b]; rfl
      have i1 : I0 1 = I 1 := by rw [hI0b]; rfl
      have i61 : I0 61 = I 61 := by rw [hI0b]; rfl
      have hadd : ∀ D, 7 ≤ D → zev xs L D 30 [.ref 1, .int a1, .int a2, .int a3, .int a4, .int a5, .int a6] (zmk I J X) = some (.inr (some (.int (I 1 1))), zmk (zup (zov I0 8 f8) 1 1 (I 1 1 + 1)) J X) := by
        intro D hD
        obtain ⟨d, rfl⟩ := Nat.exists_eq_add_of_le hD
        rw [show 7 + d = d + 1 + 6 by omega]
        refine (zcS (S30_0 xs L (d + 1) I J X _ _ _ _ _ _)).trans ?_
        have c12 : ¬ decide (a1 = a2) = true := fun z => W3 (of_decide_eq_true z)
        have q1 : ¬ decide (zbi (¬ a1 < (0 : Int32) ∧ ¬ (23 : Int32) < a1) = 0) = true := by
          simp only [decide_eq_true_eq, zbi_eq0]
          simp only [i32_lt, Int32.reduceToInt]
          omega
        have q2 : ¬ decide (zbi (¬ a2 < (0 : Int32) ∧ ¬ (23 : Int32) < a2) = 0) = true := by
          simp only [decide_eq_true_eq, zbi_eq0]
          simp only [i32_lt, Int32.reduceToInt]
          omega
        have q4 : ¬ decide (zbi (¬ a4 < (1 : Int32) ∧ ¬ (999 : Int32) < a4) = 0) = true := by
          simp only [decide_eq_true_eq, zbi_eq0]
          simp only [i32_lt, Int32.reduceToInt]
          omega
        have q5 : ¬ decide (zbi (¬ a5 < (0 : Int32) ∧ ¬ (3 : Int32) < a5) = 0) = true := by
          simp only [decide_eq_true_eq, zbi_eq0]
          simp only [i32_lt, Int32.reduceToInt]
          omega
        have q40 : decide (I 1 1 < (40 : Int32)) = true := by
          simp only [decide_eq_true_eq]
          simp only [i32_lt, Int32.reduceToInt]
          omega
        rw [if_neg q1, if_neg q2, if_neg c12, if_neg q4, if_neg q5, if_pos q40]
        rcases h6 with e6 | e6
        · subst e6
          rw [if_pos (show decide ((0 : Int32) = 0) = true by decide), if_neg (show ¬ decide (¬ (0 : Int32) = 0) = true by decide)]
          rw [if_pos rfl] at hf8 hI0
          rw [← hI0]
          have hs := shorten_eq xs L d I0 J X (nv a1) (nv a2) (a4 * 64 + 1) (by omega) (by omega) (by omega) (by rw [i8]; exact hT)
          rw [nv_of W1.1, nv_of W2.1, i8, ← hf8] at hs
          rw [hs, zcw_v, T30_6_12_614]
          have e : zov I0 8 f8 1 1 = I 1 1 := by
            show I0 1 1 = _
            rw [i1]
          rw [e]
          rfl
        · subst e6
          rw [if_neg (show ¬ decide ((1 : Int32) = 0) = true by decide), if_pos (show decide (¬ (1 : Int32) = 0) = true by decide)]
          rw [if_neg (show ¬ (1 : Int32) = 0 by decide)] at hf8 hI0
          rw [← hI0, hf8, ← i8, zov_self]
          rfl
      refine ⟨zup (zup (zup (zup (zup (zup (zup (zup (zup (zov I0 8 f8) 1 1 (I 1 1 + 1)) 61 1 0) 63 (I 61 4).toNatClampNeg a1) 64 (I 61 4).toNatClampNeg a2) 65 (I 61 4).toNatClampNeg a3) 66 (I 61 4).toNatClampNeg a4) 67 (I 61 4).toNatClampNeg a5) 73 (I 61 4).toNatClampNeg a6) 61 4 (I 61 4 + 1), zup J 122 0 (I 1 1).toInt64, X, ⟨0, I 1 1, zup (zov I0 8 f8) 1 1 (I 1 1 + 1), ?_, ?_, rfl, fun _ => zup_at⟩, ?_, ?_, ?_, ?_, Or.inr ⟨_, rfl⟩, Or.inl rfl⟩
      · refine w214_ok xs L (d + 5) I J X a1 a2 a3 a4 a5 a6 _ J X (I 1 1) ?_
        refine (zcS (S109_0 xs L (d + 4) I J X _ _ _ _ _ _)).trans ?_
        rw [needLand_ok xs L _ (by omega) I J X a3 P, zcw_v, T109_0_3_697, hadd _ (by omega), zci_i, T109_0_12_688]
        rfl
      · refine (zcS (S143_0 xs L (d + 5) _ _ X _ _ _ _ _ _)).trans ?_
        have e : (zup (zov I0 8 f8) 1 1 (I 1 1 + 1)) 61 = I 61 := i61
        have c12 : ¬ decide (a1 = a2) = true := fun z => W3 (of_decide_eq_true z)
        rw [e, if_neg c12, if_pos z4, if_pos z4, if_pos z4, if_pos z4, if_pos z4, if_pos z4b, hvp, i32_add_sub, h1]
        have c40 : ¬ I 61 4 = 40 := fun z => by
          rw [z] at W6
          exact absurd W6 (by decide)
        simp only [decide_eq_true_eq, zbi_eq0]
        simp only [i32_le, i32_lt, Int32.reduceToInt]
        rw [if_pos (by omega), if_neg (by omega), if_neg (by omega), if_neg (by omega), if_neg (by omega), if_neg (by omega), if_neg (by omega), if_neg (by omega), if_neg (by omega), if_neg c40]
        rfl
      · have j63 : I0 63 = I 63 := by rw [hI0b]; rfl
        have j64 : I0 64 = I 64 := by rw [hI0b]; rfl
        have j65 : I0 65 = I 65 := by rw [hI0b]; rfl
        have j66 : I0 66 = I 66 := by rw [hI0b]; rfl
        have j67 : I0 67 = I 67 := by rw [hI0b]; rfl
        have j73 : I0 73 = I 73 := by rw [hI0b]; rfl
        have j7 : I0 7 = zset (I 7) (nv (I 61 4)) (if a6 = 0 then a4 * 64 + 1 else 1000000000) := by rw [hI0b]; rfl
        have e4 : nv (I 61 4 + 1) = nv (I 61 4) + 1 := e1.1
        have hRd := (PRoad_rds hF0).1
        refine ⟨⟨?_, ?_, ?_⟩, ⟨?_, ?_, ?_, ?_, ?_⟩, ?_, ?_⟩
        · show I 1 1 + 1 = I 61 4 + 1
          rw [h1]
        · show 0 ≤ (I 61 4 + 1).toInt
          omega
        · show (I 61 4 + 1).toInt ≤ 40
          omega
        · show I0 2 = fun k' => if k' = (I 61 4).toNatClampNeg then a1 else I0 63 k'
          rw [hI0b]
          show zset (I 2) (nv (I 61 4)) a1 = fun k' => if k' = (I 61 4).toNatClampNeg then a1 else I 63 k'
          rw [k1]
          rfl
        · show I0 3 = fun k' => if k' = (I 61 4).toNatClampNeg then a2 else I0 64 k'
          rw [hI0b]
          show zset (I 3) (nv (I 61 4)) a2 = fun k' => if k' = (I 61 4).toNatClampNeg then a2 else I 64 k'
          rw [k2]
          rfl
        · show I0 4 = fun k' => if k' = (I 61 4).toNatClampNeg then a3 else I0 65 k'
          rw [hI0b]
          show zset (I 4) (nv (I 61 4)) a3 = fun k' => if k' = (I 61 4).toNatClampNeg then a3 else I 65 k'
          rw [k3]
          rfl
        · show I0 5 = fun k' => if k' = (I 61 4).toNatClampNeg then a4 else I0 66 k'
          rw [hI0b]
          show zset (I 5) (nv (I 61 4)) a4 = fun k' => if k' = (I 61 4).toNatClampNeg then a4 else I 66 k'
          rw [k4]
          rfl
        · show I0 6 = fun k' => if k' = (I 61 4).toNatClampNeg then a5 else I0 67 k'
          rw [hI0b]
          show zset (I 6) (nv (I 61 4)) a5 = fun k' => if k' = (I 61 4).toNatClampNeg then a5 else I 67 k'
          rw [k5]
          rfl
        · show ∀ r, r < nv (I 61 4 + 1) → ((0 ≤ (if r = nv (I 61 4) then a1 else I0 63 r).toInt ∧ (if r = nv (I 61 4) then a1 else I0 63 r).toInt ≤ 23) ∧ (0 ≤ (if r = nv (I 61 4) then a2 else I0 64 r).toInt ∧ (if r = nv (I 61 4) then a2 else I0 64 r).toInt ≤ 23) ∧ 1 ≤ (if r = nv (I 61 4) then a4 else I0 66 r).toInt ∧ (if r = nv (I 61 4) then a4 else I0 66 r).toInt ≤ 999) ∧ nv (if r = nv (I 61 4) then a1 else I0 63 r) ≠ nv (if r = nv (I 61 4) then a2 else I0 64 r) ∧ (0 ≤ (if r = nv (I 61 4) then a3 else I0 65 r).toInt ∧ (if r = nv (I 61 4) then a3 else I0 65 r).toInt < (I0 61 3).toInt) ∧ (0 ≤ (if r = nv (I 61 4) then a5 else I0 67 r).toInt ∧ (if r = nv (I 61 4) then a5 else I0 67 r).toInt ≤ 3) ∧ ((if r = nv (I 61 4) then a6 else I0 73 r) = 0 ∨ (if r = nv (I 61 4) then a6 else I0 73 r) = 1) ∧ I0 7 r = if (if r = nv (I 61 4) then a6 else I0 73 r) = 0 then (if r = nv (I 61 4) then a4 else I0 66 r) * 64 + 1 else 1000000000
          intro r hr2
          rw [i61, j63, j64, j65, j66, j67, j73, j7]
          by_cases c : r = nv (I 61 4)
          · rw [if_pos c, if_pos c, if_pos c, if_pos c, if_pos c, if_pos c, c, zset_at]
            exact ⟨⟨W1, W2, W4⟩, hne, by omega, W5, h6, rfl⟩
          · rw [if_neg c, if_neg c, if_neg c, if_neg c, if_neg c, if_neg c, zset_ne c]
            exact hr r (by omega)
        · have hedge : ∀ a b w, (if a6 = 0 then zadd (zed I (nv (I 61 4))) (nv a1) (nv a2) (64 * a4.toInt + 1) else zed I (nv (I 61 4))) a b w ↔ ∃ r, r < nv (I 61 4) + 1 ∧ (if r = nv (I 61 4) then a6 else I 73 r) = 0 ∧ nv (if r = nv (I 61 4) then a1 else I 63 r) = a ∧ nv (if r = nv (I 61 4) then a2 else I 64 r) = b ∧ w = 64 * (if r = nv (I 61 4) then a4 else I 66 r).toInt + 1 := by
            intro a b w
            by_cases c6 : a6 = 0
            · rw [if_pos c6]
              constructor
              · rintro (⟨r, r1, r2, r3, r4, r5⟩ | ⟨r1, r2, r3⟩)
                · refine ⟨r, by omega, ?_⟩
                  rw [if_neg (by omega), if_neg (by omega), if_neg (by omega), if_neg (by omega)]
                  exact ⟨r2, r3, r4, r5⟩
                · refine ⟨nv (I 61 4), by omega, ?_⟩
                  rw [if_pos rfl, if_pos rfl, if_pos rfl, if_pos rfl]
                  exact ⟨c6, r1.symm, r2.symm, r3⟩
              · rintro ⟨r, r1, r2, r3, r4, r5⟩
                by_cases c : r = nv (I 61 4)
                · rw [if_pos c] at r3 r4 r5
                  exact Or.inr ⟨r3.symm, r4.symm, r5⟩
                · rw [if_neg c] at r2 r3 r4 r5
                  exact Or.inl ⟨r, by omega, r2, r3, r4, r5⟩
            · rw [if_neg c6]
              constructor
              · rintro ⟨r, r1, r2, r3, r4, r5⟩
                refine ⟨r, by omega, ?_⟩
                rw [if_neg (by omega), if_neg (by omega), if_neg (by omega), if_neg (by omega)]
                exact ⟨r2, r3, r4, r5⟩
              · rintro ⟨r, r1, r2, r3, r4, r5⟩
                by_cases c : r = nv (I 61 4)
                · rw [if_pos c] at r2
                  exact absurd r2 c6
                · rw [if_neg c] at r2 r3 r4 r5
                  exact ⟨r, by omega, r2, r3, r4, r5⟩
          have hbase : zOKT (if a6 = 0 then zadd (zed I (nv (I 61 4))) (nv a1) (nv a2) (64 * a4.toInt + 1) else zed I (nv (I 61 4))) 1000000000 (tb f8) := by
            by_cases c6 : a6 = 0
            · rw [if_pos c6]
              rw [if_pos c6] at hf8
              refine zOKT_congr (fun a b ha hb => ?_) (zadd_OKT (zed_Ed hRd) hO (p := nv a1) (q := nv a2) (w0 := 64 * a4.toInt + 1) (by omega) (by omega) (by omega) (by omega))
              have q := zshN_int (f := I 8) (p := nv a1) (q := nv a2) (w := a4 * 64 + 1) (by omega) (by omega) (by omega) hT ha hb
              rw [hf8]
              show min _ _ = (zpre (zshN (I 8) (nv a1) (nv a2) (a4 * 64 + 1)) (I 8) 576 (24 * a + b)).toInt
              rw [zpre_lt (by omega), q, hw]
              rfl
            · rw [if_neg c6]
              rw [if_neg c6] at hf8
              rw [hf8]
              exact hO
          have hfin := zOKT_iff hedge hbase
          show zOKT (fun a b w => ∃ r, r < nv (I 61 4 + 1) ∧ (if r = nv (I 61 4) then a6 else I0 73 r) = 0 ∧ nv (if r = nv (I 61 4) then a1 else I0 63 r) = a ∧ nv (if r = nv (I 61 4) then a2 else I0 64 r) = b ∧ w = 64 * (if r = nv (I 61 4) then a4 else I0 66 r).toInt + 1) 1000000000 (tb f8)
          rw [e4, j63, j64, j66, j73]
          exact hfin
      · have hi : zfr8 [1, 2, 3, 4, 5, 6, 7, 8, 63, 64, 65, 66, 67, 73] [1, 4] I I0 := by
          rw [hI0]
          exact zfr8_put (zfr8_put (zfr8_put (zfr8_put (zfr8_put (zfr8_put zfr8_rfl (by decide) (by decide)) (by decide) (by decide)) (by decide) (by decide)) (by decide) (by decide)) (by decide) (by decide)) (by decide) (by decide)
        exact zfr8_m (zfr8_up (zfr8_up (zfr8_up (zfr8_up (zfr8_up (zfr8_up (zfr8_m (zfr8_up (zfr8_ov hi (by decide) (by decide)) (by decide) (by decide)) (by decide)) (by decide) (by decide)) (by decide) (by decide)) (by decide) (by decide)) (by decide) (by decide)) (by decide) (by decide)) (by decide) (by decide)) (by decide)
      · show I0 1 0 = I 1 0
        rw [i1]
      · show (I 61 4).toInt ≤ (I 61 4 + 1).toInt
        omega
    · refine ⟨zup I 61 1 0, zup J 122 0 (-1 : Int32).toInt64, X, ⟨0, -1, I, ?_, ?_, rfl, fun _ => zup_at⟩, hF0, zfr8_m zfr8_rfl (by decide), rfl, Int.le_refl _, Or.inr ⟨_, rfl⟩, Or.inl rfl⟩
      · refine w214_ok xs L (d + 5) I J X a1 a2 a3 a4 a5 a6 _ J X (-1) ?_
        refine (zcS (S109_0 xs L (d + 4) I J X _ _ _ _ _ _)).trans ?_
        have hno : ∀ D, 6 ≤ D → zev xs L D 30 [.ref 1, .int a1, .int a2, .int a3, .int a4, .int a5, .int a6] (zmk I J X) = some (.inr (some (.int (-1))), zmk I J X) := by
          intro D hD
          obtain ⟨d, rfl⟩ := Nat.exists_eq_add_of_le hD
          rw [Nat.add_comm 6 d]
          refine (zcS (S30_0 xs L d I J X _ _ _ _ _ _)).trans ?_
          by_cases c1 : ¬ (0 ≤ a1.toInt ∧ a1.toInt ≤ 23)
          · rw [if_pos (show decide (zbi (¬ a1 < (0 : Int32) ∧ ¬ (23 : Int32) < a1) = 0) = true by
              simp only [decide_eq_true_eq, zbi_eq0]
              simp only [i32_lt, Int32.reduceToInt]
              omega)]
            rfl
          rw [if_neg (show ¬ decide (zbi (¬ a1 < (0 : Int32) ∧ ¬ (23 : Int32) < a1) = 0) = true by
            simp only [decide_eq_true_eq, zbi_eq0]
            simp only [i32_lt, Int32.reduceToInt]
            omega)]
          by_cases c2 : ¬ (0 ≤ a2.toInt ∧ a2.toInt ≤ 23)
          · rw [if_pos (show decide (zbi (¬ a2 < (0 : Int32) ∧ ¬ (23 : Int32) < a2) = 0) = true by
              simp only [decide_eq_true_eq, zbi_eq0]
              simp only [i32_lt, Int32.reduceToInt]
              omega)]
            rfl
          rw [if_neg (show ¬ decide (zbi (¬ a2 < (0 : Int32) ∧ ¬ (23 : Int32) < a2) = 0) = true by
            simp only [decide_eq_true_eq, zbi_eq0]
            simp only [i32_lt, Int32.reduceToInt]
            omega)]
          by_cases c3 : a1 = a2
          · rw [if_pos (decide_eq_true c3)]
            rfl
          rw [if_neg (fun z => c3 (of_decide_eq_true z))]
          by_cases c4 : ¬ (1 ≤ a4.toInt ∧ a4.toInt ≤ 999)
          · rw [if_pos (show decide (zbi (¬ a4 < (1 : Int32) ∧ ¬ (999 : Int32) < a4) = 0) = true by
              simp only [decide_eq_true_eq, zbi_eq0]
              simp only [i32_lt, Int32.reduceToInt]
              omega)]
            rfl
          rw [if_neg (show ¬ decide (zbi (¬ a4 < (1 : Int32) ∧ ¬ (999 : Int32) < a4) = 0) = true by
            simp only [decide_eq_true_eq, zbi_eq0]
            simp only [i32_lt, Int32.reduceToInt]
            omega)]
          by_cases c5 : ¬ (0 ≤ a5.toInt ∧ a5.toInt ≤ 3)
          · rw [if_pos (show decide (zbi (¬ a5 < (0 : Int32) ∧ ¬ (3 : Int32) < a5) = 0) = true by
              simp only [decide_eq_true_eq, zbi_eq0]
              simp only [i32_lt, Int32.reduceToInt]
              omega)]
            rfl
          rw [if_neg (show ¬ decide (zbi (¬ a5 < (0 : Int32) ∧ ¬ (3 : Int32) < a5) = 0) = true by
            simp only [decide_eq_true_eq, zbi_eq0]
            simp only [i32_lt, Int32.reduceToInt]
            omega)]
          have c6 : ¬ (I 61 4).toInt < 40 := fun z => W ⟨⟨by omega, by omega, c3, by omega, by omega⟩, z⟩
          rw [if_neg (show ¬ decide (I 1 1 < (40 : Int32)) = true by
            simp only [decide_eq_true_eq]
            simp only [i32_lt, Int32.reduceToInt]
            omega)]
          rfl
        rw [needLand_ok xs L _ (by omega) I J X a3 P, zcw_v, T109_0_3_697, hno _ (by omega), zci_i, T109_0_12_688]
        rfl
      · refine (zcS (S143_0 xs L (d + 5) _ _ X _ _ _ _ _ _)).trans ?_
        have e40 : I 61 4 = 40 ↔ (I 61 4).toInt = 40 := by
          rw [i32_eq]
          simp only [Int32.reduceToInt]
        have hend : ∀ (o : Option Out), (if decide (I 61 4 = (40 : Int32)) = true then some (.inr (.inr (some (.int (-1 : Int32))), zmk (zup I 61 1 0) (zup J 122 0 (-1 : Int32).toInt64) X)) else some (.inr (.inr (some (.int (-1 : Int32))), zmk (zup I 61 1 0) (zup J 122 0 (-1 : Int32).toInt64) X)) : Option Out) = some (.inr (.inr (some (.int (-1 : Int32))), zmk (zup I 61 1 0) (zup J 122 0 (-1 : Int32).toInt64) X)) := fun _ => ite_self _
        rw [hend none]
        rw [if_pos (show decide (¬ zbi (¬ a3 < (0 : Int32) ∧ ¬ I 61 3 ≤ a3) = 0) = true by
          simp only [decide_eq_true_eq, zbi_eq0]
          simp only [i32_le, i32_lt, Int32.reduceToInt]
          omega)]
        by_cases c1 : a1.toInt < 0
        · rw [if_pos (decide_eq_true (i32_lt.mpr (by rw [i32_0]; exact c1)))]
          rfl
        rw [if_neg (fun z => c1 (by have := i32_lt.mp (of_decide_eq_true z); rw [i32_0] at this; exact this))]
        by_cases c2 : 24 ≤ a1.toInt
        · rw [if_pos (show decide ((24 : Int32) ≤ a1) = true by simp only [decide_eq_true_eq]; simp only [i32_le, Int32.reduceToInt]; omega)]
          rfl
        rw [if_neg (show ¬ decide ((24 : Int32) ≤ a1) = true by simp only [decide_eq_true_eq]; simp only [i32_le, Int32.reduceToInt]; omega)]
        by_cases c3 : a2.toInt < 0
        · rw [if_pos (decide_eq_true (i32_lt.mpr (by rw [i32_0]; exact c3)))]
          rfl
        rw [if_neg (fun z => c3 (by have := i32_lt.mp (of_decide_eq_true z); rw [i32_0] at this; exact this))]
        by_cases c4 : 24 ≤ a2.toInt
        · rw [if_pos (show decide ((24 : Int32) ≤ a2) = true by simp only [decide_eq_true_eq]; simp only [i32_le, Int32.reduceToInt]; omega)]
          rfl
        rw [if_neg (show ¬ decide ((24 : Int32) ≤ a2) = true by simp only [decide_eq_true_eq]; simp only [i32_le, Int32.reduceToInt]; omega)]
        by_cases c5 : a1 = a2
        · rw [if_pos (decide_eq_true c5)]
          rfl
        rw [if_neg (fun z => c5 (of_decide_eq_true z))]
        by_cases c6 : a4.toInt < 1
        · rw [if_pos (show decide (a4 < (1 : Int32)) = true by simp only [decide_eq_true_eq]; simp only [i32_lt, Int32.reduceToInt]; omega)]
          rfl
        rw [if_neg (show ¬ decide (a4 < (1 : Int32)) = true by simp only [decide_eq_true_eq]; simp only [i32_lt, Int32.reduceToInt]; omega)]
        by_cases c7 : 999 < a4.toInt
        · rw [if_pos (show decide ((999 : Int32) < a4) = true by simp only [decide_eq_true_eq]; simp only [i32_lt, Int32.reduceToInt]; omega)]
          rfl
        rw [if_neg (show ¬ decide ((999 : Int32) < a4) = true by simp only [decide_eq_true_eq]; simp only [i32_lt, Int32.reduceToInt]; omega)]
        by_cases c8 : a5.toInt < 0
        · rw [if_pos (decide_eq_true (i32_lt.mpr (by rw [i32_0]; exact c8)))]
          rfl
        rw [if_neg (fun z => c8 (by have := i32_lt.mp (of_decide_eq_true z); rw [i32_0] at this; exact this))]
        by_cases c9 : 3 < a5.toInt
        · rw [if_pos (show decide ((3 : Int32) < a5) = true by simp only [decide_eq_true_eq]; simp only [i32_lt, Int32.reduceToInt]; omega)]
          rfl
        rw [if_neg (show ¬ decide ((3 : Int32) < a5) = true by simp only [decide_eq_true_eq]; simp only [i32_lt, Int32.reduceToInt]; omega)]
        have c10 : ¬ (I 61 4).toInt < 40 := fun z => W ⟨⟨by omega, by omega, c5, by omega, by omega⟩, z⟩
        rw [if_pos (decide_eq_true (e40.mpr (by omega)))]
        rfl
  · refine ⟨zup (zup I 61 1 0) 61 1 1, J, zXe X, ⟨1, 0, I, ?_, ?_, zup_at, fun z => absurd z (by decide)⟩, hF0, zfr8_m (zfr8_m zfr8_rfl (by decide)) (by decide), rfl, Int.le_refl _, Or.inl rfl, Or.inr rfl⟩
    · refine w214_x0 xs L (d + 5) I J X a1 a2 a3 a4 a5 a6 _ J (zXe X) ?_
      refine (zcS (S109_0 xs L (d + 4) I J X _ _ _ _ _ _)).trans ?_
      rw [needLand_no xs L _ (by omega) I J X a3 P, zcw_x, zthr_P rfl]
      rfl
    · refine (zcS (S143_0 xs L (d + 5) _ _ _ _ _ _ _ _ _)).trans ?_
      rw [if_neg (show ¬ decide (¬ zbi (¬ a3 < (0 : Int32) ∧ ¬ I 61 3 ≤ a3) = 0) = true by
        simp only [decide_eq_true_eq, zbi_eq0]
        simp only [i32_le, i32_lt, Int32.reduceToInt]
        omega)]
      rfl
