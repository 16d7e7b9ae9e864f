/-! THE PURE PART: 'not', numbers and values where a part is to come. -/
theorem p_not (xs : Nat → Int32) (L d0 : Nat) (J : Nat → Nat → Int64) (X : XH) {V : Nat → Nat → Int32} {n b c : Nat} {hd lt nr : Int32} {u w : List Int32} {d : Nat} {mn : Int32} {ns : Nat} {cm : Nat → Bool} {Q : Int32 → (Nat → Nat → Int32) → Prop} (hn : n ≤ 400) (hd6 : d < 6) (hx : (ylx (V 36) n b).1 = 306) (hmn : ¬ mn = 0) (hns : ns ≤ 6) (hQ : (ns = 6 → yBad V 2 (ylx (V 36) n b).2.2.1 Q) ∧ (ns < 6 → yRun xs L d0 J X V n (ylx (V 36) n b).2.2.2 c hd lt nr 3 u (306 :: w) d mn (ns + 1) cm Q)) : yRun xs L d0 J X V n b c hd lt nr 3 u w d mn ns cm Q := by
  refine run_step xs L d0 J X hn (by rw [hx]; decide) (fun H1 hb hbn h => ?_)
  have rg := ylx_rg (V 36) n b hbn
  have hlt := rg.2.2.2.2 (by rw [hx]; decide)
  obtain ⟨⟨f0, f1, f7, f8, f9, f10, f11, f13, f15, f16, f17, f18, f19⟩, h2, h4, h3, h5, h6⟩ := h
  have e3 : ymeth 3 = 58 := by decide
  have et : (H1 35 16).toInt = d := by rw [f16, i32_toInt (by omega)]
  have h5 := h5.trans hx
  have q := part_w xs L (d0 + 3 + 5) (by omega) H1 J X (by rw [h5]; decide) (by omega)
  rw [if_pos (show H1 35 5 = 306 ∧ ¬ H1 35 17 = 0 from ⟨h5, by rw [f17]; exact hmn⟩), f15.1, f18, h5, zput_nat (by omega) (by omega), nat_succ, nat_succ] at q
  have k : ∀ j, j ≠ 15 → j ≠ 18 → zup (zup (zup H1 38 w.length 306) 35 15 (Int32.ofNat (w.length + 1))) 35 18 (Int32.ofNat (ns + 1)) 35 j = H1 35 j := fun j j1 j2 => (zup_k j2).trans (zup_k j1)
  have fr := yFr_up (k := 18) (v := Int32.ofNat (ns + 1)) (yFr_up (k := 15) (v := Int32.ofNat (w.length + 1)) (yFr_up (k := w.length) (v := 306) f0 (o := 38) (by omega)) (o := 35) (by omega)) (o := 35) (by omega)
  rw [e3]
  by_cases cn : ns = 6
  · rw [if_neg (fun z => by
      have z := i32_le.mp z
      rw [i32_toInt (by omega)] at z
      have : (6 : Int32).toInt = 6 := by decide
      omega)] at q
    exact ⟨2, _, q, Or.inl ⟨by decide, hQ.1 cn _ fr ((k 1 (by decide) (by decide)).trans f1) ((k 3 (by decide) (by decide)).trans h3)⟩⟩
  · rw [if_pos (show Int32.ofNat (ns + 1) ≤ (6 : Int32) from i32_le.mpr (by
      rw [i32_toInt (by omega)]
      have : (6 : Int32).toInt = 6 := by decide
      omega))] at q
    refine ⟨0, _, q, Or.inr ⟨rfl, c, hd, lt, nr, 3, u, 306 :: w, d, mn, ns + 1, cm, ?_, hQ.2 (by omega)⟩⟩
    refine ⟨⟨fr, (k 1 (by decide) (by decide)).trans f1, (k 7 (by decide) (by decide)).trans f7, (k 8 (by decide) (by decide)).trans f8, (k 9 (by decide) (by decide)).trans f9, (k 10 (by decide) (by decide)).trans f10, (k 11 (by decide) (by decide)).trans f11, ⟨(k 13 (by decide) (by decide)).trans f13.1, f13.2⟩, ⟨?_, ?_⟩, (k 16 (by decide) (by decide)).trans f16, (k 17 (by decide) (by decide)).trans f17, rfl, fun i hi => ?_⟩, (k 2 (by decide) (by decide)).trans h2, (k 4 (by decide) (by decide)).trans h4, ?_, rg.2.1⟩
    · rw [List.length_cons]
      rfl
    · rw [List.reverse_cons]
      have := row_push (306 : Int32) f15.2
      rw [List.length_reverse] at this
      exact this
    · have e19 := k 19 (by decide) (by decide)
      rw [e19]
      exact f19 i hi
    · rw [List.length_cons]
      have := rg.1
      omega
theorem p_val (xs : Nat → Int32) (L d0 : Nat) (J : Nat → Nat → Int64) (X : XH) {V : Nat → Nat → Int32} {n b c : Nat} {hd lt nr : Int32} {u w : List Int32} {d : Nat} {mn : Int32} {ns : Nat} {cm : Nat → Bool} {Q : Int32 → (Nat → Nat → Int32) → Prop} (hn : n ≤ 400) (hd6 : d < 6) (v : Int32) (hx : ((ylx (V 36) n b).1 = 258 ∧ v = (ylx (V 36) n b).2.1) ∨ (307 ≤ (ylx (V 36) n b).1.toInt ∧ v = -(ylx (V 36) n b).1)) (hQ : yRun xs L d0 J X V n (ylx (V 36) n b).2.2.2 c hd lt nr 4 (u ++ [v]) w d mn ns cm Q) : yRun xs L d0 J X V n b c hd lt nr 3 u w d mn ns cm Q := by
  have hx6 : ¬ (ylx (V 36) n b).1 = 256 := fun z => by
    rcases hx with y | y
    · rw [z] at y
      exact absurd y.1 (by decide)
    · rw [z] at y
      exact absurd y.1 (by decide)
  refine run_step xs L d0 J X hn hx6 (fun H1 hb hbn h => ?_)
  have rg := ylx_rg (V 36) n b hbn
  have hlt := rg.2.2.2.2 hx6
  obtain ⟨⟨f0, f1, f7, f8, f9, f10, f11, f13, f15, f16, f17, f18, f19⟩, h2, h4, h3, h5, h6⟩ := h
  have e3 : ymeth 3 = 58 := by decide
  have et : (H1 35 16).toInt = d := by rw [f16, i32_toInt (by omega)]
  have q : zev xs L (d0 + 3 + 5) 58 [.ref 35] (zmk H1 J X) = some (.inr (some (.int 0)), zmk (yput9 H1 v) J X) := by
    rcases hx with ⟨y1, y2⟩ | ⟨y1, y2⟩
    · have q := part_n xs L (d0 + 3 + 5) (by omega) H1 J X (h5.trans y1) (by omega)
      rw [h6 y1, ← y2] at q
      exact q
    · have q := part_w xs L (d0 + 3 + 5) (by omega) H1 J X (by rw [h5]; omega) (by omega)
      rw [if_neg (show ¬ (H1 35 5 = 306 ∧ ¬ H1 35 17 = 0) from fun z => by
        have z := z.1
        rw [h5] at z
        rw [z] at y1
        exact absurd y1 (by decide)), if_pos (by rw [h5]; exact y1), h5, ← y2] at q
      exact q
  unfold yput9 at q
  rw [f13.1, zput_nat (by omega) (by omega), nat_succ] at q
  have k : ∀ j, j ≠ 13 → j ≠ 7 → zup (zup (zup H1 37 u.length v) 35 13 (Int32.ofNat (u.length + 1))) 35 7 4 35 j = H1 35 j := fun j j1 j2 => (zup_k j2).trans (zup_k j1)
  have fr := yFr_up (k := 7) (v := 4) (yFr_up (k := 13) (v := Int32.ofNat (u.length + 1)) (yFr_up (k := u.length) (v := v) f0 (o := 37) (by omega)) (o := 35) (by omega)) (o := 35) (by omega)
  rw [e3]
  refine ⟨0, _, q, Or.inr ⟨rfl, c, hd, lt, nr, 4, u ++ [v], w, d, mn, ns, cm, ?_, hQ⟩⟩
  refine ⟨⟨fr, (k 1 (by decide) (by decide)).trans f1, rfl, (k 8 (by decide) (by decide)).trans f8, (k 9 (by decide) (by decide)).trans f9, (k 10 (by decide) (by decide)).trans f10, (k 11 (by decide) (by decide)).trans f11, ⟨?_, row_push v f13.2⟩, ⟨(k 15 (by decide) (by decide)).trans f15.1, f15.2⟩, (k 16 (by decide) (by decide)).trans f16, (k 17 (by decide) (by decide)).trans f17, (k 18 (by decide) (by decide)).trans f18, fun i hi => ?_⟩, (k 2 (by decide) (by decide)).trans h2, (k 4 (by decide) (by decide)).trans h4, ?_, rg.2.1⟩
  · rw [List.length_append]
    rfl
  · have e19 := k 19 (by decide) (by decide)
    rw [e19]
    exact f19 i hi
  · rw [List.length_append]
    have := rg.1
    show u.length + 1 + w.length + c ≤ _
    omega
