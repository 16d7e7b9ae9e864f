/-! THE PURE PART: a clause's word, its number, its end. -/
theorem h_bad (xs : Nat → Int32) (L d0 : Nat) (J : Nat → Nat → Int64) (X : XH) {V : Nat → Nat → Int32} {n b c : Nat} {hd lt nr : Int32} {u w : List Int32} {d : Nat} {mn : Int32} {ns : Nat} {cm : Nat → Bool} {Q : Int32 → (Nat → Nat → Int32) → Prop} (hn : n ≤ 400) (hc : c ≤ 16) (k : Int32) (hx : ¬ (ylx (V 36) n b).1 = 256) (hk : (k = 1 ∧ ¬ (300 ≤ (ylx (V 36) n b).1.toInt ∧ (ylx (V 36) n b).1.toInt ≤ 303)) ∨ (k = 2 ∧ (300 ≤ (ylx (V 36) n b).1.toInt ∧ (ylx (V 36) n b).1.toInt ≤ 303) ∧ c = 16)) (hQ : yBad V k (ylx (V 36) n b).2.2.1 Q) : yRun0 xs L d0 J X V n b c hd lt nr 0 u w d mn ns cm Q := by
  refine run_step0 xs L d0 J X hn hx (fun H1 _ _ h => ?_)
  have hq := hQ H1 h.1.1 h.1.2.1 h.2.2.2.1
  obtain ⟨⟨f0, f1, f7, f8, f9, f10, f11, f13, f16, f17, f18, f19⟩, h2, h4, h3, h5, h6⟩ := h
  have e3 : ymeth 0 = 54 := by decide
  rw [e3]
  have S := zcS (as := [.ref 35]) (S54_0 xs L (d0 + 2) H1 J X)
  have t16 : (16 : Int32).toInt = 16 := by decide
  rw [h5, f8] at S
  simp only [decide_eq_true_eq, zbi_eq0, i32_lt, Int32.reduceToInt] at S
  rcases hk with ⟨e, a1⟩ | ⟨e, a1, a2⟩
  · rw [if_neg (by omega)] at S
    exact ⟨1, H1, S, Or.inl ⟨by decide, by rw [e] at hq; exact hq⟩⟩
  · rw [if_pos (by omega), if_neg (by rw [i32_toInt (by omega)]; omega)] at S
    exact ⟨2, H1, S, Or.inl ⟨by decide, by rw [e] at hq; exact hq⟩⟩
theorem h_exp (xs : Nat → Int32) (L d0 : Nat) (J : Nat → Nat → Int64) (X : XH) {V : Nat → Nat → Int32} {n b c : Nat} {hd lt nr : Int32} {u w : List Int32} {d : Nat} {mn : Int32} {ns : Nat} {cm : Nat → Bool} {Q : Int32 → (Nat → Nat → Int32) → Prop} (hn : n ≤ 400) (hc : c < 16) (t : Int32) (hx : (ylx (V 36) n b).1 = t) (ht : t = 300 ∨ t = 301) (hQ : yRun xs L d0 J X V n (ylx (V 36) n b).2.2.2 (c + 1) t lt nr 3 u [] 0 1 0 (fun i => if i = 0 then false else cm i) Q) : yRun0 xs L d0 J X V n b c hd lt nr 0 u w d mn ns cm Q := by
  have hx6 : ¬ (ylx (V 36) n b).1 = 256 := fun z => by
    rw [hx] at z
    rcases ht with y | y <;> rw [y] at z <;> exact absurd z (by decide)
  refine run_step0 xs L d0 J X hn hx6 (fun H1 hb hbn h => ?_)
  have rg := ylx_rg (V 36) n b hbn
  have hlt := rg.2.2.2.2 hx6
  obtain ⟨⟨f0, f1, f7, f8, f9, f10, f11, f13, f16, f17, f18, f19⟩, h2, h4, h3, h5, h6⟩ := h
  have e3 : ymeth 0 = 54 := by decide
  rw [e3]
  have S := zcS (as := [.ref 35]) (S54_0 xs L (d0 + 2) H1 J X)
  have h5 := h5.trans hx
  have hlt16 : decide (Int32.ofNat c < (16 : Int32)) = true := decide_eq_true (i32_lt.mpr (by
    rw [i32_toInt (by omega)]
    have : (16 : Int32).toInt = 16 := by decide
    omega))
  have S' : zev xs L (d0 + 3 + 5) 54 [.ref 35] (zmk H1 J X) = some (.inr (some (.int 0)), zmk (zup (zup (zup (zup (zup (zup (zup (zup (zup H1 35 8 (Int32.ofNat (c + 1))) 35 9 t) 35 7 1) 35 15 0) 35 16 0) 35 7 3) 35 17 1) 35 18 0) 35 19 (H1 35 19 &&& (((1 : Int32) <<< ((0 : Int32) &&& 31)) ^^^ (-1)))) J X) := by
    refine S.trans ?_
    rw [h5, f8, nat_succ]
    rcases ht with y | y
    · rw [y, if_pos (show decide (¬ (zbi (¬ (300 : Int32) < 300 ∧ ¬ (303 : Int32) < 300)) = 0) = true by decide), if_pos hlt16, if_pos (show decide ((300 : Int32) = 300) = true by decide)]
      rfl
    · rw [y, if_pos (show decide (¬ (zbi (¬ (301 : Int32) < 300 ∧ ¬ (303 : Int32) < 301)) = 0) = true by decide), if_pos hlt16, if_neg (show ¬ decide ((301 : Int32) = 300) = true by decide), if_neg (show ¬ decide (¬ (301 : Int32) = 301) = true by decide)]
      rfl
  have k : ∀ j, j ≠ 8 → j ≠ 9 → j ≠ 7 → j ≠ 15 → j ≠ 16 → j ≠ 17 → j ≠ 18 → j ≠ 19 → zup (zup (zup (zup (zup (zup (zup (zup (zup H1 35 8 (Int32.ofNat (c + 1))) 35 9 t) 35 7 1) 35 15 0) 35 16 0) 35 7 3) 35 17 1) 35 18 0) 35 19 (H1 35 19 &&& (((1 : Int32) <<< ((0 : Int32) &&& 31)) ^^^ (-1))) 35 j = H1 35 j := fun j j1 j2 j3 j4 j5 j6 j7 j8 => (zup_k j8).trans ((zup_k j7).trans ((zup_k j6).trans ((zup_k j3).trans ((zup_k j5).trans ((zup_k j4).trans ((zup_k j3).trans ((zup_k j2).trans (zup_k j1))))))))
  refine ⟨0, _, S', Or.inr ⟨rfl, fun i hi => hQ _ i ?_ hi⟩⟩
  have kk : ∀ j, j ∈ [1, 2, 4, 10, 11, 13] → zup (zup (zup (zup (zup (zup (zup (zup (zup H1 35 8 (Int32.ofNat (c + 1))) 35 9 t) 35 7 1) 35 15 0) 35 16 0) 35 7 3) 35 17 1) 35 18 0) 35 19 (H1 35 19 &&& (((1 : Int32) <<< ((0 : Int32) &&& 31)) ^^^ (-1))) 35 j = H1 35 j := fun j hj => by
    simp only [List.mem_cons, List.not_mem_nil, or_false] at hj
    exact k j (by omega) (by omega) (by omega) (by omega) (by omega) (by omega) (by omega) (by omega)
  refine ⟨⟨yFr_up (yFr_up (yFr_up (yFr_up (yFr_up (yFr_up (yFr_up (yFr_up (yFr_up f0 (by omega)) (by omega)) (by omega)) (by omega)) (by omega)) (by omega)) (by omega)) (by omega)) (by omega), (kk 1 (by decide)).trans f1, rfl, rfl, rfl, (kk 10 (by decide)).trans f10, (kk 11 (by decide)).trans f11, ⟨(kk 13 (by decide)).trans f13.1, f13.2⟩, ⟨rfl, trivial⟩, rfl, rfl, rfl, fun i hi => ?_⟩, (kk 2 (by decide)).trans h2, (kk 4 (by decide)).trans h4, ?_, rg.2.1⟩
  · exact (ybt_clr (H1 35 19) 0 i (by omega) (by omega)).trans (by
      show (if i = 0 then false else ybt (H1 35 19) i) = if i = 0 then false else cm i
      rw [f19 i hi])
  · have := rg.1
    show u.length + 0 + (c + 1) ≤ _
    omega
theorem h_num (xs : Nat → Int32) (L d0 : Nat) (J : Nat → Nat → Int64) (X : XH) {V : Nat → Nat → Int32} {n b c : Nat} {hd lt nr : Int32} {u w : List Int32} {d : Nat} {mn : Int32} {ns : Nat} {cm : Nat → Bool} {Q : Int32 → (Nat → Nat → Int32) → Prop} (hn : n ≤ 400) (hc : c < 16) (t : Int32) (hx : (ylx (V 36) n b).1 = t) (ht : t = 302 ∨ t = 303) (hQ : yRun0 xs L d0 J X V n (ylx (V 36) n b).2.2.2 (c + 1) t lt nr 1 u w d mn ns cm Q) : yRun0 xs L d0 J X V n b c hd lt nr 0 u w d mn ns cm Q := by
  have hx6 : ¬ (ylx (V 36) n b).1 = 256 := fun z => by
    rw [hx] at z
    rcases ht with y | y <;> rw [y] at z <;> exact absurd z (by decide)
  refine run_step0 xs L d0 J X hn hx6 (fun H1 hb hbn h => ?_)
  have rg := ylx_rg (V 36) n b hbn
  have hlt := rg.2.2.2.2 hx6
  obtain ⟨⟨f0, f1, f7, f8, f9, f10, f11, f13, f16, f17, f18, f19⟩, h2, h4, h3, h5, h6⟩ := h
  have e3 : ymeth 0 = 54 := by decide
  rw [e3]
  have S := zcS (as := [.ref 35]) (S54_0 xs L (d0 + 2) H1 J X)
  have h5 := h5.trans hx
  have hlt16 : decide (Int32.ofNat c < (16 : Int32)) = true := decide_eq_true (i32_lt.mpr (by
    rw [i32_toInt (by omega)]
    have : (16 : Int32).toInt = 16 := by decide
    omega))
  have S' : zev xs L (d0 + 3 + 5) 54 [.ref 35] (zmk H1 J X) = some (.inr (some (.int 0)), zmk (zup (zup (zup H1 35 8 (Int32.ofNat (c + 1))) 35 9 t) 35 7 1) J X) := by
    refine S.trans ?_
    rw [h5, f8, nat_succ]
    rcases ht with y | y
    · rw [y, if_pos (show decide (¬ (zbi (¬ (302 : Int32) < 300 ∧ ¬ (303 : Int32) < 302)) = 0) = true by decide), if_pos hlt16, if_neg (show ¬ decide ((302 : Int32) = 300) = true by decide), if_pos (show decide (¬ (302 : Int32) = 301) = true by decide)]
      rfl
    · rw [y, if_pos (show decide (¬ (zbi (¬ (303 : Int32) < 300 ∧ ¬ (303 : Int32) < 303)) = 0) = true by decide), if_pos hlt16, if_neg (show ¬ decide ((303 : Int32) = 300) = true by decide), if_pos (show decide (¬ (303 : Int32) = 301) = true by decide)]
      rfl
  have k : ∀ j, j ≠ 8 → j ≠ 9 → j ≠ 7 → zup (zup (zup H1 35 8 (Int32.ofNat (c + 1))) 35 9 t) 35 7 1 35 j = H1 35 j := fun j j1 j2 j3 => (zup_k j3).trans ((zup_k j2).trans (zup_k j1))
  refine ⟨0, _, S', Or.inr ⟨rfl, fun i hi => hQ _ i ?_ hi⟩⟩
  refine ⟨⟨yFr_up (yFr_up (yFr_up f0 (by omega)) (by omega)) (by omega), (k 1 (by decide) (by decide) (by decide)).trans f1, rfl, rfl, rfl, (k 10 (by decide) (by decide) (by decide)).trans f10, (k 11 (by decide) (by decide) (by decide)).trans f11, ⟨(k 13 (by decide) (by decide) (by decide)).trans f13.1, f13.2⟩, (k 16 (by decide) (by decide) (by decide)).trans f16, (k 17 (by decide) (by decide) (by decide)).trans f17, (k 18 (by decide) (by decide) (by decide)).trans f18, fun i hi => ?_⟩, (k 2 (by decide) (by decide) (by decide)).trans h2, (k 4 (by decide) (by decide) (by decide)).trans h4, ?_, rg.2.1⟩
  · have e19 := k 19 (by decide) (by decide) (by decide)
    rw [e19]
    exact f19 i hi
  · have := rg.1
    omega
