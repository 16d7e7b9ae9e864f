/-! THE PURE PART: the first road of a least way is the same on both sides; the class's walk, step by step. -/
theorem nat_of_int {x : Int32} {a : Nat} (h : 0 ≤ x.toInt) : x = Int32.ofNat a → a < 2147483648 → nv x = a := fun e ha => by rw [e, nv_nat ha]
theorem far_same {I M : Nat → Nat → Int32} (hR : PRoad I) (hU : zOKT (zed I (nv (I 61 4))) 268435456 (tb (M 110))) {a b : Nat} (ha : a < 24) (hb : b < 24) : ((I 8 (24 * a + b)).toInt < 1000000000 ↔ (M 110 (24 * a + b)).toInt < 268435456) ∧ ((M 110 (24 * a + b)).toInt < 268435456 → (I 8 (24 * a + b)).toInt = (M 110 (24 * a + b)).toInt) := by
  have hE := zed_Ed (PRoad_rds hR).1
  have hO := hR.2.2.2
  refine ⟨⟨fun h => (zOKT_uniq hE hO hU (by decide) ha hb h).1, fun h => (zOKT_uniq hE hU hO (by decide) ha hb h).1⟩, fun h => (zOKT_uniq hE hU hO (by decide) ha hb h).2⟩
theorem first_same {I M : Nat → Nat → Int32} (hR : PRoad I) (hU : zOKT (zed I (nv (I 61 4))) 268435456 (tb (M 110))) (h73 : M 73 = I 73) (h63 : M 63 = I 63) (h64 : M 64 = I 64) (h66 : M 66 = I 66) {a b : Nat} (ha : a < 24) (hb : b < 24) (hne : a ≠ b) (hf : (M 110 (24 * a + b)).toInt < 268435456) : zfst (zfrC I a b) (nv (I 61 4)) 0 = zfst (znrM M a b) (nv (I 61 4)) 0 ∧ ∃ r, r < nv (I 61 4) ∧ zfst (znrM M a b) (nv (I 61 4)) 0 = Int32.ofNat r ∧ nv (I 64 r) < 24 ∧ (M 110 (24 * nv (I 64 r) + b)).toInt < (M 110 (24 * a + b)).toInt := by
  have hE := zed_Ed (PRoad_rds hR).1
  have hO := hR.2.2.2
  obtain ⟨⟨g1, g2, g3⟩, ⟨g4, g5, _, _, _⟩, hr, _⟩ := id hR
  have n4 := nv_int g2
  have hfs := fun {a b : Nat} (ha : a < 24) (hb : b < 24) => far_same (M := M) hR hU ha hb
  have hpred : ∀ r, r < nv (I 61 4) → (zfrC I a b r = znrM M a b r) := by
    intro r hrn
    obtain ⟨⟨q1, q2, q3⟩, _, _, _, _, q7⟩ := hr r hrn
    have m2 := nv_int q2.1
    have hto : nv (I 64 r) < 24 := by omega
    unfold zfrC znrM
    rw [g4, g5, h73, h63, h64, h66]
    have hk := zkm_int q3
    have hk2 := zkm_int2 q3
    have f1 := hfs ha hb
    have f2 := hfs hto hb
    have t1 := (hO (nv (I 64 r)) b hto hb)
    have t2 := (hU (nv (I 64 r)) b hto hb)
    have t3 := (hU a b ha hb)
    unfold tb at t1 t2 t3
    have e8 := f1.2 hf
    by_cases c : I 73 r = 0
    · rw [if_pos c] at q7
      have s1 : (I 7 r + I 8 (24 * nv (I 64 r) + b)).toInt = (64 * (I 66 r).toInt + 1) + (I 8 (24 * nv (I 64 r) + b)).toInt := by
        rw [q7, i32_add (by omega) (by omega), hk2]
      have s2 : (64 * I 66 r + 1 + M 110 (24 * nv (I 64 r) + b)).toInt = (64 * (I 66 r).toInt + 1) + (M 110 (24 * nv (I 64 r) + b)).toInt := by
        rw [i32_add (by omega) (by omega), hk]
      have key : (I 7 r + I 8 (24 * nv (I 64 r) + b) = I 8 (24 * a + b)) ↔ (M 110 (24 * a + b) = 64 * I 66 r + 1 + M 110 (24 * nv (I 64 r) + b)) := by
        rw [i32_eq, i32_eq, s1, s2, e8]
        by_cases cf : (M 110 (24 * nv (I 64 r) + b)).toInt < 268435456
        · have := f2.2 cf
          omega
        · have : ¬ (I 8 (24 * nv (I 64 r) + b)).toInt < 1000000000 := fun z => cf (f2.1.mp z)
          omega
      apply Bool.eq_iff_iff.mpr
      rw [decide_eq_true_eq, decide_eq_true_eq]
      exact ⟨fun z => ⟨c, z.1, key.mp z.2⟩, fun z => ⟨z.2.1, key.mpr z.2.2⟩⟩
    · rw [if_neg c] at q7
      apply Bool.eq_iff_iff.mpr
      rw [decide_eq_true_eq, decide_eq_true_eq]
      refine ⟨fun z => ?_, fun z => absurd z.1 c⟩
      exfalso
      have hF : (1000000000 : Int32).toInt = 1000000000 := by decide
      have s1 : (I 7 r + I 8 (24 * nv (I 64 r) + b)).toInt = 1000000000 + (I 8 (24 * nv (I 64 r) + b)).toInt := by
        rw [q7, i32_add (by rw [hF]; omega) (by rw [hF]; omega), hF]
      have := i32_eq.mp z.2
      rw [s1] at this
      have := f1.1.mpr hf
      omega
  have hcong := zfst_congr (nv (I 61 4)) 0 (fun r _ h => hpred r (by omega))
  refine ⟨hcong, ?_⟩
  obtain ⟨m, w, ⟨r, r1, r2, r3, r4, r5⟩, h1, h2, h3⟩ := zOKT_first hE hU ha hb hf hne
  subst r3 r4 r5
  obtain ⟨⟨q1, q2, q3⟩, _⟩ := hr r r1
  have hk := zkm_int q3
  have t2 := (hU (nv (I 64 r)) b (by have := nv_int q2.1; omega) hb)
  unfold tb at h1 h2 h3 t2
  have s2 : (64 * I 66 r + 1 + M 110 (24 * nv (I 64 r) + b)).toInt = (64 * (I 66 r).toInt + 1) + (M 110 (24 * nv (I 64 r) + b)).toInt := by
    rw [i32_add (by omega) (by omega), hk]
  obtain ⟨u, u1, u2, u3, u4⟩ := zfst_some (p := znrM M (nv (I 63 r)) b) (nv (I 61 4)) 0 ⟨r, by omega, by omega, by
    unfold znrM
    refine decide_eq_true ⟨by rw [h73]; exact r2, by rw [h63, nv_of q1.1], ?_⟩
    rw [h66, h64, i32_eq, s2]
    exact h1⟩
  refine ⟨u, by omega, u4, ?_⟩
  obtain ⟨⟨v1, v2, v3⟩, _⟩ := hr u (by omega)
  have hku := zkm_int v3
  have hto : nv (I 64 u) < 24 := by
    have := nv_int v2.1
    omega
  refine ⟨hto, ?_⟩
  have u3 := of_decide_eq_true u3
  have tu := (hU (nv (I 64 u)) b hto hb)
  unfold tb at tu
  have := i32_eq.mp u3.2.2
  rw [h66, h64, i32_add (by omega) (by omega), hku] at this
  omega
/-- the next place in the order of a signal of a box that counts -/
def znxp (I : Nat → Nat → Int32) (b : Int32) (p : Nat) : Bool := decide (I 27 (nv (I 32 p)) = b ∧ ¬ I 33 (nv (I 32 p)) = -1)
theorem next_loop (xs : Nat → Int32) (L d : Nat) (I : Nat → Nat → Int32) (J : Nat → Nat → Int64) (X : XH) (b q : Int32) (n : Nat) (hn : I 26 4 = Int32.ofNat n) (hn2 : n ≤ 300) (ho : ∀ p, p < n → 0 ≤ (I 32 p).toInt ∧ (I 32 p).toInt < n) : ∀ (j i : Nat), i + j = n → zgo xs L (d + 5) 76 2 [(0, .ref 26), (1, .int b), (2, .int q), (3, .int (Int32.ofNat i))] (zmk I J X) = some (.inr (some (.int (zfst (znxp I b) j i))), zmk I J X)
  | 0, i, hi => by
    have hi : i = n := by omega
    subst hi
    rw [zgo_q, S76_2, hn, if_pos (decide_eq_true ((nat_le (by omega) (by omega)).mpr (Nat.le_refl _)))]
    rfl
  | j + 1, i, hi => by
    have ih := next_loop xs L d I J X b q n hn hn2 ho j (i + 1) (by omega)
    have h1 := ho i (by omega)
    have n1 := nv_int h1.1
    have e32 : zat I 32 300 (Int32.ofNat i) = Int32.ofNat (nv (I 32 i)) := by rw [zat_nat (by omega) (by omega), nv_of h1.1]
    rw [zgo_q, S76_2, hn, if_neg (fun z => by
      have := (nat_le (by omega) (by omega)).mp (of_decide_eq_true z)
      omega), e32, zat_nat (a := 27) (by omega) (by omega), zat_nat (a := 33) (by omega) (by omega), nat_succ]
    have hno : znxp I b i = false → zfst (znxp I b) (j + 1) i = zfst (znxp I b) j (i + 1) := by
      intro h
      show (if znxp I b i = true then _ else _) = _
      rw [h]
      rfl
    by_cases c1 : I 27 (nv (I 32 i)) = b
    · rw [if_neg (fun z => (of_decide_eq_true z) c1)]
      by_cases c2 : I 33 (nv (I 32 i)) = -1
      · rw [if_pos (decide_eq_true c2), zth_go, hno (decide_eq_false (fun z => z.2 c2))]
        exact ih
      · rw [if_neg (fun z => c2 (of_decide_eq_true z))]
        have e : zfst (znxp I b) (j + 1) i = Int32.ofNat i := if_pos (show znxp I b i = true from decide_eq_true ⟨c1, c2⟩)
        rw [e]
        rfl
    · rw [if_pos (decide_eq_true (show ¬ I 27 (nv (I 32 i)) = b from c1)), zth_go, hno (decide_eq_false (fun z => c1 z.1))]
      exact ih
theorem next_eq (xs : Nat → Int32) (L D : Nat) (hD : 6 ≤ D) (I : Nat → Nat → Int32) (J : Nat → Nat → Int64) (X : XH) (b : Int32) (p n : Nat) (hp : p ≤ n) (hn : I 26 4 = Int32.ofNat n) (hn2 : n ≤ 300) (ho : ∀ p, p < n → 0 ≤ (I 32 p).toInt ∧ (I 32 p).toInt < n) : zev xs L D 76 [.ref 26, .int b, .int (Int32.ofNat p)] (zmk I J X) = some (.inr (some (.int (zfst (znxp I b) (n - p) p))), zmk I J X) := by
  obtain ⟨d, rfl⟩ := Nat.exists_eq_add_of_le hD
  rw [Nat.add_comm 6 d]
  refine (zcS (S76_0 xs L d I J X _ _)).trans ?_
  rw [zth_go]
  exact next_loop xs L d I J X b _ n hn hn2 ho (n - p) p (by omega)
/-- a walk's beginning -/
def zst0 (I : Nat → Nat → Int32) (b k : Int32) : Nat → Nat → Int32 := zov (zup (zup (zup (zup I 49 8 b) 49 9 k) 49 11 (I 49 12)) 49 18 0) 50 (fun c => if c < 27 then 0 else I 50 c)
theorem start_eq (xs : Nat → Int32) (L D : Nat) (hD : 7 ≤ D) (I : Nat → Nat → Int32) (J : Nat → Nat → Int64) (X : XH) (b k : Int32) (n : Nat) (hn : I 26 4 = Int32.ofNat n) (hn2 : n ≤ 300) (ho : ∀ p, p < n → 0 ≤ (I 32 p).toInt ∧ (I 32 p).toInt < n) : zev xs L D 82 [.ref 49, .int b, .int k] (zmk I J X) = some (.inr none, zmk (zup (zst0 I b k) 49 10 (zfst (znxp I b) n 0)) J X) := by
  obtain ⟨d, rfl⟩ := Nat.exists_eq_add_of_le hD
  rw [show 7 + d = d + 1 + 6 by omega]
  refine (zcS (S82_0 xs L (d + 1) I J X _ _)).trans ?_
  have hf := fill_eq xs L (d + 5) 50 27 0 (zmk (zup (zup (zup (zup I 49 8 b) 49 9 k) 49 11 (I 49 12)) 49 18 0) J X) (by omega) rfl
  have hz : zfil (zmk (zup (zup (zup (zup I 49 8 b) 49 9 k) 49 11 (I 49 12)) 49 18 0) J X) 50 0 0 27 = zmk (zst0 I b k) J X := by
    unfold zfil zst0 zmk zov
    refine Prod.ext (funext fun a => ?_) rfl
    show (if a = 50 then _ else _) = (if a = 50 then _ else _)
    by_cases c : a = 50
    · rw [if_pos c, if_pos c]
      funext x
      by_cases c2 : x < 27
      · rw [if_pos ⟨Nat.zero_le x, c2⟩, if_pos c2]
      · rw [if_neg (fun z => c2 z.2), if_neg c2]
        rfl
    · rw [if_neg c, if_neg c]
  rw [hz] at hf
  rw [hf, zqv_v, T82_0_17_683 xs L (d + 1)]
  have e8 : zst0 I b k 49 8 = b := rfl
  have q := next_eq xs L (d + 1 + 5) (by omega) (zst0 I b k) J X b 0 n (Nat.zero_le n) hn hn2 ho
  rw [e8]
  have q2 : zev xs L (d + 1 + 5) 76 [.ref 26, .int b, .int 0] (zmk (zst0 I b k) J X) = some (.inr (some (.int (zfst (znxp I b) n 0))), zmk (zst0 I b k) J X) := q
  rw [q2, zci_i, T82_0_24_676 xs L (d + 1)]
  rfl
