/-! THE PURE PART: a clause's number, its end. -/
theorem t_bad (xs : Nat → Int32) (L d0 : Nat) (J : Nat → Nat → Int64) (X : XH) {V : Nat → Nat → Int32} {n b c : Nat} {hd lt nr : Int32} {u w : List Int32} {d : Nat} {mn : Int32} {ns : Nat} {cm : Nat → Bool} {Q : Int32 → (Nat → Nat → Int32) → Prop} (hn : n ≤ 400) (hx : ¬ (ylx (V 36) n b).1 = 256) (h8 : ¬ (ylx (V 36) n b).1 = 258) (hQ : yBad V (if (ylx (V 36) n b).1 = 259 then 2 else 1) (ylx (V 36) n b).2.2.1 Q) : yRun0 xs L d0 J X V n b c hd lt nr 1 u w d mn ns cm Q := by
  refine run_step0 xs L d0 J X hn hx (fun H1 _ _ h => ?_)
  have hq := hQ H1 h.1.1 h.1.2.1 h.2.2.2.1
  obtain ⟨_, h2, h4, h3, h5, h6⟩ := h
  have e3 : ymeth 1 = 56 := by decide
  rw [e3]
  have S := zcS (as := [.ref 35]) (S56_0 xs L (d0 + 2) H1 J X)
  rw [h5, if_neg (fun z => h8 (of_decide_eq_true z))] at S
  by_cases c9 : (ylx (V 36) n b).1 = 259
  · rw [if_neg (fun z => (of_decide_eq_true z) c9)] at S
    rw [if_pos c9] at hq
    exact ⟨2, H1, S, Or.inl ⟨by decide, hq⟩⟩
  · rw [if_pos (decide_eq_true c9)] at S
    rw [if_neg c9] at hq
    exact ⟨1, H1, S, Or.inl ⟨by decide, hq⟩⟩
theorem t_num (xs : Nat → Int32) (L d0 : Nat) (J : Nat → Nat → Int64) (X : XH) {V : Nat → Nat → Int32} {n b c : Nat} {hd lt nr : Int32} {u w : List Int32} {d : Nat} {mn : Int32} {ns : Nat} {cm : Nat → Bool} {Q : Int32 → (Nat → Nat → Int32) → Prop} (hn : n ≤ 400) (h8 : (ylx (V 36) n b).1 = 258) (hQ : yRun0 xs L d0 J X V n (ylx (V 36) n b).2.2.2 c hd (if hd = 302 then (ylx (V 36) n b).2.1 else lt) (if hd = 302 then nr else (ylx (V 36) n b).2.1) 2 u w d mn ns cm Q) : yRun0 xs L d0 J X V n b c hd lt nr 1 u w d mn ns cm Q := by
  have hx : ¬ (ylx (V 36) n b).1 = 256 := fun z => by
    rw [h8] at z
    exact absurd z (by decide)
  refine run_step0 xs L d0 J X hn hx (fun H1 hb hbn h => ?_)
  have rg := ylx_rg (V 36) n b hbn
  have hlt := rg.2.2.2.2 hx
  obtain ⟨⟨f0, f1, f7, f8, f9, f10, f11, f13, f16, f17, f18, f19⟩, h2, h4, h3, h5, h6⟩ := h
  have e3 : ymeth 1 = 56 := by decide
  rw [e3]
  have S := zcS (as := [.ref 35]) (S56_0 xs L (d0 + 2) H1 J X)
  have hv := h6 h8
  rw [h5, h8, if_pos (show decide ((258 : Int32) = 258) = true by decide), f9, hv] at S
  obtain ⟨v, hvv⟩ : ∃ v, v = (ylx (V 36) n b).2.1 := ⟨_, rfl⟩
  rw [← hvv] at S hQ
  by_cases c9 : hd = 302
  · rw [if_neg (fun z => (of_decide_eq_true z) c9)] at S
    rw [if_pos c9, if_pos c9] at hQ
    have k : ∀ j, j ≠ 10 → j ≠ 7 → zup (zup H1 35 10 v) 35 7 2 35 j = H1 35 j := fun j j1 j2 => (zup_k j2).trans (zup_k j1)
    refine ⟨0, _, S, Or.inr ⟨rfl, fun i hi => hQ _ i ?_ hi⟩⟩
    refine ⟨⟨yFr_up (yFr_up f0 (by omega)) (by omega), (k 1 (by decide) (by decide)).trans f1, rfl, (k 8 (by decide) (by decide)).trans f8, (k 9 (by decide) (by decide)).trans f9, rfl, (k 11 (by decide) (by decide)).trans f11, ⟨(k 13 (by decide) (by decide)).trans f13.1, f13.2⟩, (k 16 (by decide) (by decide)).trans f16, (k 17 (by decide) (by decide)).trans f17, (k 18 (by decide) (by decide)).trans f18, fun i hi => ?_⟩, (k 2 (by decide) (by decide)).trans h2, (k 4 (by decide) (by decide)).trans h4, ?_, rg.2.1⟩
    · have e19 := k 19 (by decide) (by decide)
      rw [e19]
      exact f19 i hi
    · have := rg.1
      omega
  · rw [if_pos (decide_eq_true c9)] at S
    rw [if_neg c9, if_neg c9] at hQ
    have k : ∀ j, j ≠ 11 → j ≠ 7 → zup (zup H1 35 11 v) 35 7 2 35 j = H1 35 j := fun j j1 j2 => (zup_k j2).trans (zup_k j1)
    refine ⟨0, _, S, Or.inr ⟨rfl, fun i hi => hQ _ i ?_ hi⟩⟩
    refine ⟨⟨yFr_up (yFr_up f0 (by omega)) (by omega), (k 1 (by decide) (by decide)).trans f1, rfl, (k 8 (by decide) (by decide)).trans f8, (k 9 (by decide) (by decide)).trans f9, (k 10 (by decide) (by decide)).trans f10, rfl, ⟨(k 13 (by decide) (by decide)).trans f13.1, f13.2⟩, (k 16 (by decide) (by decide)).trans f16, (k 17 (by decide) (by decide)).trans f17, (k 18 (by decide) (by decide)).trans f18, fun i hi => ?_⟩, (k 2 (by decide) (by decide)).trans h2, (k 4 (by decide) (by decide)).trans h4, ?_, rg.2.1⟩
    · have e19 := k 19 (by decide) (by decide)
      rw [e19]
      exact f19 i hi
    · have := rg.1
      omega
theorem s_bad (xs : Nat → Int32) (L d0 : Nat) (J : Nat → Nat → Int64) (X : XH) {V : Nat → Nat → Int32} {n b c : Nat} {hd lt nr : Int32} {u w : List Int32} {d : Nat} {mn : Int32} {ns : Nat} {cm : Nat → Bool} {Q : Int32 → (Nat → Nat → Int32) → Prop} (hn : n ≤ 400) (hx : ¬ (ylx (V 36) n b).1 = 256) (h8 : ¬ (ylx (V 36) n b).1 = 59) (hQ : yBad V 1 (ylx (V 36) n b).2.2.1 Q) : yRun0 xs L d0 J X V n b c hd lt nr 2 u w d mn ns cm Q := by
  refine run_step0 xs L d0 J X hn hx (fun H1 _ _ h => ?_)
  obtain ⟨⟨f0, f1, _⟩, h2, h4, h3, h5, h6⟩ := h
  have e3 : ymeth 2 = 57 := by decide
  rw [e3]
  have S := zcS (as := [.ref 35]) (S57_0 xs L (d0 + 2) H1 J X)
  rw [h5, if_pos (decide_eq_true h8)] at S
  exact ⟨1, _, S, Or.inl ⟨by decide, hQ _ (yFr_up f0 (by omega)) ((zup_k (by decide)).trans f1) ((zup_k (by decide)).trans h3)⟩⟩
theorem s_semi (xs : Nat → Int32) (L d0 : Nat) (J : Nat → Nat → Int64) (X : XH) {V : Nat → Nat → Int32} {n b c : Nat} {hd lt nr : Int32} {u w : List Int32} {d : Nat} {mn : Int32} {ns : Nat} {cm : Nat → Bool} {Q : Int32 → (Nat → Nat → Int32) → Prop} (hn : n ≤ 400) (h8 : (ylx (V 36) n b).1 = 59) (hQ : yRun0 xs L d0 J X V n (ylx (V 36) n b).2.2.2 c hd lt nr 0 u w d mn ns cm Q) : yRun0 xs L d0 J X V n b c hd lt nr 2 u w d mn ns cm Q := by
  have hx : ¬ (ylx (V 36) n b).1 = 256 := fun z => by
    rw [h8] at z
    exact absurd z (by decide)
  refine run_step0 xs L d0 J X hn hx (fun H1 hb hbn h => ?_)
  have rg := ylx_rg (V 36) n b hbn
  have hlt := rg.2.2.2.2 hx
  obtain ⟨⟨f0, f1, f7, f8, f9, f10, f11, f13, f16, f17, f18, f19⟩, h2, h4, h3, h5, h6⟩ := h
  have e3 : ymeth 2 = 57 := by decide
  rw [e3]
  have S := zcS (as := [.ref 35]) (S57_0 xs L (d0 + 2) H1 J X)
  rw [h5, if_neg (fun z => (of_decide_eq_true z) h8)] at S
  have k : ∀ j, j ≠ 7 → zup H1 35 7 0 35 j = H1 35 j := fun j j2 => zup_k j2
  refine ⟨0, _, S, Or.inr ⟨rfl, fun i hi => hQ _ i ?_ hi⟩⟩
  refine ⟨⟨yFr_up f0 (by omega), (k 1 (by decide)).trans f1, rfl, (k 8 (by decide)).trans f8, (k 9 (by decide)).trans f9, (k 10 (by decide)).trans f10, (k 11 (by decide)).trans f11, ⟨(k 13 (by decide)).trans f13.1, f13.2⟩, (k 16 (by decide)).trans f16, (k 17 (by decide)).trans f17, (k 18 (by decide)).trans f18, fun i hi => ?_⟩, (k 2 (by decide)).trans h2, (k 4 (by decide)).trans h4, ?_, rg.2.1⟩
  · have e19 := k 19 (by decide)
    rw [e19]
    exact f19 i hi
  · have := rg.1
    omega
