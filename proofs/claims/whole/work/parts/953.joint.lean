/-! THE PURE PART: tokens behind a part. -/
theorem j_bad (xs : Nat → Int32) (L d0 : Nat) (J : Nat → Nat → Int64) (X : XH) {V : Nat → Nat → Int32} {n b c : Nat} {hd lt nr : Int32} {u w : List Int32} {d : Nat} {mn : Int32} {ns : Nat} {cm : Nat → Bool} {Q : Int32 → (Nat → Nat → Int32) → Prop} (hn : n ≤ 400) (hd6 : d ≤ 6) (hx : ¬ (ylx (V 36) n b).1 = 256) (h1 : ¬ ((ylx (V 36) n b).1 = 59 ∧ d = 0)) (h2 : ¬ ((ylx (V 36) n b).1 = 41 ∧ 0 < d)) (h3 : zrank (ylx (V 36) n b).1 = 0 ∨ (ylx (V 36) n b).1 = 306 ∨ (zrank (ylx (V 36) n b).1 = 4 ∧ cm d = true)) (hQ : yBad V 1 (ylx (V 36) n b).2.2.1 Q) : yRun xs L d0 J X V n b c hd lt nr 4 u w d mn ns cm Q := by
  refine run_step xs L d0 J X hn hx (fun H1 hb hbn h => ?_)
  have hq := hQ H1 h.1.1 h.1.2.1 h.2.2.2.1
  obtain ⟨⟨f0, f1, f7, f8, f9, f10, f11, f13, f15, f16, f17, f18, f19⟩, h2', h4, h3', h5, h6⟩ := h
  have e3 : ymeth 4 = 61 := by decide
  rw [e3]
  refine ⟨1, H1, ?_, Or.inl ⟨by decide, hq⟩⟩
  refine (zcS (S61_0 xs L (d0 + 2) H1 J X)).trans ?_
  have hbit : cm d = true → ¬ ((H1 35 19 >>> (Int32.ofNat d &&& 31)) &&& 1) = 0 := fun z => by
    have := f19 d (by omega)
    rw [z] at this
    exact of_decide_eq_true this
  rw [h5, f16]
  by_cases t1 : (ylx (V 36) n b).1 = 59
  · have hd0 : ¬ Int32.ofNat d = 0 := fun z => h1 ⟨t1, i32_nat_inj (b := 0) (by omega) (by decide) z⟩
    rw [if_neg (fun z => (of_decide_eq_true z) t1), if_pos (decide_eq_true hd0), t1, if_pos (show decide (¬ (59 : Int32) = 41) = true by decide), if_pos (show decide (¬ zrank 59 = 4) = true by decide), if_pos (show decide (zrank 59 = 0) = true by decide)]
    rfl
  rw [if_pos (decide_eq_true t1)]
  by_cases t2 : (ylx (V 36) n b).1 = 41
  · have hd0 : Int32.ofNat d ≤ 0 := by
      have : d = 0 := by
        rcases Nat.eq_zero_or_pos d with e | e
        · exact e
        · exact absurd ⟨t2, e⟩ h2
      rw [this]
      decide
    rw [if_neg (fun z => (of_decide_eq_true z) t2), if_pos (decide_eq_true hd0), t2, if_pos (show decide (¬ zrank 41 = 4) = true by decide), if_pos (show decide (zrank 41 = 0) = true by decide)]
    rfl
  rw [if_pos (decide_eq_true t2)]
  by_cases t3 : zrank (ylx (V 36) n b).1 = 4
  · have t4 : ¬ zrank (ylx (V 36) n b).1 = 0 := fun z => by
      rw [z] at t3
      exact absurd t3 (by decide)
    have t5 : ¬ (ylx (V 36) n b).1 = 306 := fun z => by
      rw [z] at t3
      exact absurd t3 (by decide)
    have t6 : cm d = true := by
      rcases h3 with h3 | h3 | h3
      · exact absurd h3 t4
      · exact absurd h3 t5
      · exact h3.2
    rw [if_neg (fun z => (of_decide_eq_true z) t3), if_neg (fun z => hbit t6 (of_decide_eq_true z)), if_neg (fun z => t4 (of_decide_eq_true z)), if_neg (fun z => t5 (of_decide_eq_true z))]
    rfl
  · rw [if_pos (decide_eq_true t3)]
    by_cases t4 : zrank (ylx (V 36) n b).1 = 0
    · rw [if_pos (decide_eq_true t4)]
      rfl
    · have t5 : (ylx (V 36) n b).1 = 306 := by
        rcases h3 with h3 | h3 | h3
        · exact absurd h3 t4
        · exact h3
        · exact absurd h3.1 t3
      rw [if_neg (fun z => t4 (of_decide_eq_true z)), if_pos (decide_eq_true t5)]
      rfl
theorem j_semi (xs : Nat → Int32) (L d0 : Nat) (J : Nat → Nat → Int64) (X : XH) {V : Nat → Nat → Int32} {n b c : Nat} {hd lt nr : Int32} {u w : List Int32} {mn : Int32} {ns : Nat} {cm : Nat → Bool} {Q : Int32 → (Nat → Nat → Int32) → Prop} (hn : n ≤ 400) (hx : (ylx (V 36) n b).1 = 59) (hQ : yRun xs L d0 J X V n (ylx (V 36) n b).2.2.2 c hd lt nr 0 ((yun 1 w u).1 ++ [-hd]) (yun 1 w u).2 0 mn ns cm Q) : yRun xs L d0 J X V n b c hd lt nr 4 u w 0 mn ns cm Q := by
  refine run_step xs L d0 J X hn (by rw [hx]; decide) (fun H1 hb hbn h => ?_)
  have rg := ylx_rg (V 36) n b hbn
  have hlt := rg.2.2.2.2 (by rw [hx]; decide)
  obtain ⟨hC, h2, h4, h3, h5, h6⟩ := h
  obtain ⟨H2, s1, hC2, s3⟩ := unw_c xs L (d0 + 2 + 5) (by omega) J X 1 hC (by omega)
  have e3 : ymeth 4 = 61 := by decide
  have hl := yun_len 1 w u
  obtain ⟨f0, f1, f7, f8, f9, f10, f11, f13, f15, f16, f17, f18, f19⟩ := hC2
  have S := zcS (as := [.ref 35]) (S61_0 xs L (d0 + 2) H1 J X)
  have z16 : H1 35 16 = 0 := (s3 16 (by decide) (by decide)).symm.trans f16
  rw [h5, hx, z16, if_neg (show ¬ decide (¬ (59 : Int32) = 59) = true by decide), if_neg (show ¬ decide (¬ (0 : Int32) = 0) = true by decide), s1, zcw_v, T61_0_10_690 xs L (d0 + 2), f13.1, f9, zput_nat (by omega) (by omega), nat_succ] at S
  rw [e3]
  refine ⟨0, _, S, Or.inr ⟨rfl, c, hd, lt, nr, 0, (yun 1 w u).1 ++ [-hd], (yun 1 w u).2, 0, mn, ns, cm, ?_, hQ⟩⟩
  have k : ∀ j, j ≠ 13 → j ≠ 7 → zup (zup (zup H2 37 (yun 1 w u).1.length (-hd)) 35 13 (Int32.ofNat ((yun 1 w u).1.length + 1))) 35 7 0 35 j = H2 35 j := fun j j1 j2 => (zup_k j2).trans (zup_k j1)
  have fr := yFr_up (k := 7) (v := 0) (yFr_up (k := 13) (v := Int32.ofNat ((yun 1 w u).1.length + 1)) (yFr_up (k := (yun 1 w u).1.length) (v := -hd) f0 (o := 37) (by omega)) (o := 35) (by omega)) (o := 35) (by omega)
  refine ⟨⟨fr, (k 1 (by decide) (by decide)).trans f1, rfl, (k 8 (by decide) (by decide)).trans f8, (k 9 (by decide) (by decide)).trans f9, (k 10 (by decide) (by decide)).trans f10, (k 11 (by decide) (by decide)).trans f11, ⟨?_, row_push (-hd) f13.2⟩, ⟨(k 15 (by decide) (by decide)).trans f15.1, f15.2⟩, (k 16 (by decide) (by decide)).trans f16, (k 17 (by decide) (by decide)).trans f17, (k 18 (by decide) (by decide)).trans f18, fun i hi => ?_⟩, (k 2 (by decide) (by decide)).trans ((s3 2 (by decide) (by decide)).trans h2), (k 4 (by decide) (by decide)).trans ((s3 4 (by decide) (by decide)).trans h4), ?_, rg.2.1⟩
  · rw [List.length_append]
    rfl
  · have e19 := k 19 (by decide) (by decide)
    rw [e19]
    exact f19 i hi
  · have e2 : ((yun 1 w u).1 ++ [-hd]).length = (yun 1 w u).1.length + 1 := List.length_append
    have := rg.1
    omega
theorem j_close (xs : Nat → Int32) (L d0 : Nat) (J : Nat → Nat → Int64) (X : XH) {V : Nat → Nat → Int32} {n b c : Nat} {hd lt nr : Int32} {u w : List Int32} {d : Nat} {mn : Int32} {ns : Nat} {cm : Nat → Bool} {Q : Int32 → (Nat → Nat → Int32) → Prop} (hn : n ≤ 400) (hd6 : d < 6) (o : Int32) (w2 u2 : List Int32) (hu : yun 1 w u = (u2, o :: w2)) (hx : (ylx (V 36) n b).1 = 41) (hQ : yRun xs L d0 J X V n (ylx (V 36) n b).2.2.2 c hd lt nr 4 u2 w2 d mn ns cm Q) : yRun xs L d0 J X V n b c hd lt nr 4 u w (d + 1) mn ns cm Q := by
  refine run_step xs L d0 J X hn (by rw [hx]; decide) (fun H1 hb hbn h => ?_)
  have rg := ylx_rg (V 36) n b hbn
  have hlt := rg.2.2.2.2 (by rw [hx]; decide)
  obtain ⟨hC, h2, h4, h3, h5, h6⟩ := h
  obtain ⟨H2, s1, hC2, s3⟩ := unw_c xs L (d0 + 2 + 5) (by omega) J X 1 hC (by omega)
  have e3 : ymeth 4 = 61 := by decide
  have hl := yun_len 1 w u
  rw [hu] at hC2 hl
  obtain ⟨f0, f1, f7, f8, f9, f10, f11, f13, f15, f16, f17, f18, f19⟩ := hC2
  have S := zcS (as := [.ref 35]) (S61_0 xs L (d0 + 2) H1 J X)
  have z16 : H1 35 16 = Int32.ofNat (d + 1) := (s3 16 (by decide) (by decide)).symm.trans f16
  have e1 : ∀ k : Nat, Int32.ofNat (k + 1) - 1 = Int32.ofNat k := fun k => by
    rw [← nat_succ, Int32.add_sub_cancel]
  have f15a : H2 35 15 = Int32.ofNat (w2.length + 1) := f15.1
  rw [h5, hx, z16, if_pos (show decide (¬ (41 : Int32) = 59) = true by decide), if_neg (show ¬ decide (¬ (41 : Int32) = 41) = true by decide), if_neg (fun z => by
    have z := i32_le.mp (of_decide_eq_true z)
    rw [i32_toInt (by omega)] at z
    have : (0 : Int32).toInt = 0 := by decide
    omega), s1, zcw_v, T61_1_10_686 xs L (d0 + 2), f15a, f16, e1, e1] at S
  rw [e3]
  refine ⟨0, _, S, Or.inr ⟨rfl, c, hd, lt, nr, 4, u2, w2, d, mn, ns, cm, ?_, hQ⟩⟩
  have k : ∀ j, j ≠ 15 → j ≠ 16 → zup (zup H2 35 15 (Int32.ofNat w2.length)) 35 16 (Int32.ofNat d) 35 j = H2 35 j := fun j j1 j2 => (zup_k j2).trans (zup_k j1)
  have fr := yFr_up (k := 16) (v := Int32.ofNat d) (yFr_up (k := 15) (v := Int32.ofNat w2.length) f0 (o := 35) (by omega)) (o := 35) (by omega)
  have er := f15.2
  have er : zrow (H2 38) 0 (o :: w2).reverse := er
  rw [List.reverse_cons, zrow_app] at er
  have hl : u2.length + (w2.length + 1) = u.length + w.length := hl
  refine ⟨⟨fr, (k 1 (by decide) (by decide)).trans f1, (k 7 (by decide) (by decide)).trans f7, (k 8 (by decide) (by decide)).trans f8, (k 9 (by decide) (by decide)).trans f9, (k 10 (by decide) (by decide)).trans f10, (k 11 (by decide) (by decide)).trans f11, ⟨(k 13 (by decide) (by decide)).trans f13.1, f13.2⟩, ⟨rfl, er.1⟩, rfl, (k 17 (by decide) (by decide)).trans f17, (k 18 (by decide) (by decide)).trans f18, fun i hi => ?_⟩, (k 2 (by decide) (by decide)).trans ((s3 2 (by decide) (by decide)).trans h2), (k 4 (by decide) (by decide)).trans ((s3 4 (by decide) (by decide)).trans h4), ?_, rg.2.1⟩
  · have e19 := k 19 (by decide) (by decide)
    rw [e19]
    exact f19 i hi
  · have := rg.1
    omega
