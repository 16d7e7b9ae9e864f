/-! THE PURE PART: operators behind a part. -/
def yjm (r : Int32) : Int32 := if (4 : Int32) ≤ r then 0 else 1
def yjn (r : Int32) (ns : Nat) : Nat := if (4 : Int32) ≤ r then ns else 0
def yjc (r : Int32) (d : Nat) (cm : Nat → Bool) : Nat → Bool := if (4 : Int32) ≤ r then (if r = 4 then fun i => if i = d then true else cm i else cm) else fun i => if i = d then false else cm i
theorem join_c (xs : Nat → Int32) (L D : Nat) (hD : 6 ≤ D) (J : Nat → Nat → Int64) (X : XH) {V H : Nat → Nat → Int32} {c : Nat} {hd lt nr wt : Int32} {u w : List Int32} {d : Nat} {mn : Int32} {ns : Nat} {cm : Nat → Bool} (r : Int32) (hd6 : d < 8) (h : yCB V H c hd lt nr wt u w d mn ns cm) : ∃ H2, zev xs L D 63 [.ref 35, .int r] (zmk H J X) = some (.inr none, zmk H2 J X) ∧ yCB V H2 c hd lt nr 3 u w d (yjm r) (yjn r ns) (yjc r d cm) ∧ ∀ k, k ∈ [2, 3, 4, 5, 6] → H2 35 k = H 35 k := by
  obtain ⟨d0, rfl⟩ := Nat.exists_eq_add_of_le hD
  rw [Nat.add_comm 6 d0]
  have S := zcS (as := [.ref 35, .int r]) (S63_0 xs L d0 H J X r)
  obtain ⟨f0, f1, f7, f8, f9, f10, f11, f13, f15, f16, f17, f18, f19⟩ := h
  rw [f16] at S
  unfold yjm yjn yjc
  by_cases c4 : (4 : Int32) ≤ r
  · rw [if_pos (decide_eq_true c4)] at S
    rw [if_pos c4, if_pos c4, if_pos c4]
    have go : ∀ (v : Int32) (cm2 : Nat → Bool), (∀ i, i < 8 → ybt v i = cm2 i) → yCB V (zup (zup (zup H 35 7 3) 35 17 0) 35 19 v) c hd lt nr 3 u w d 0 ns cm2 ∧ ∀ k, k ∈ [2, 3, 4, 5, 6] → zup (zup (zup H 35 7 3) 35 17 0) 35 19 v 35 k = H 35 k := fun v cm2 hv => by
      have k : ∀ j, j ≠ 7 → j ≠ 17 → j ≠ 19 → zup (zup (zup H 35 7 3) 35 17 0) 35 19 v 35 j = H 35 j := fun j j1 j2 j3 => (zup_k j3).trans ((zup_k j2).trans (zup_k j1))
      refine ⟨⟨yFr_up (yFr_up (yFr_up f0 (by omega)) (by omega)) (by omega), (k 1 (by decide) (by decide) (by decide)).trans f1, rfl, (k 8 (by decide) (by decide) (by decide)).trans f8, (k 9 (by decide) (by decide) (by decide)).trans f9, (k 10 (by decide) (by decide) (by decide)).trans f10, (k 11 (by decide) (by decide) (by decide)).trans f11, ⟨(k 13 (by decide) (by decide) (by decide)).trans f13.1, f13.2⟩, ⟨(k 15 (by decide) (by decide) (by decide)).trans f15.1, f15.2⟩, (k 16 (by decide) (by decide) (by decide)).trans f16, rfl, (k 18 (by decide) (by decide) (by decide)).trans f18, hv⟩, fun j hj => ?_⟩
      simp only [List.mem_cons, List.not_mem_nil, or_false] at hj
      exact k j (by omega) (by omega) (by omega)
    by_cases c5 : r = 4
    · rw [if_neg (fun z => (of_decide_eq_true z) c5)] at S
      rw [if_pos c5]
      obtain ⟨g1, g2⟩ := go (H 35 19 ||| ((1 : Int32) <<< (Int32.ofNat d &&& 31))) (fun i => if i = d then true else cm i) (fun i hi => by
        rw [ybt_set _ d i (by omega) (by omega), f19 i hi])
      exact ⟨_, S, g1, g2⟩
    · rw [if_pos (decide_eq_true c5)] at S
      rw [if_neg c5]
      obtain ⟨g1, g2⟩ := go (H 35 19 ||| 0) cm (fun i hi => by
        rw [Int32.or_zero]
        exact f19 i hi)
      exact ⟨_, S, g1, g2⟩
  · rw [if_neg (fun z => c4 (of_decide_eq_true z))] at S
    rw [if_neg c4, if_neg c4, if_neg c4]
    have k : ∀ (v : Int32) (j : Nat), j ≠ 7 → j ≠ 17 → j ≠ 18 → j ≠ 19 → zup (zup (zup (zup H 35 7 3) 35 17 1) 35 18 0) 35 19 v 35 j = H 35 j := fun v j j1 j2 j3 j4 => (zup_k j4).trans ((zup_k j3).trans ((zup_k j2).trans (zup_k j1)))
    refine ⟨_, S, ⟨yFr_up (yFr_up (yFr_up (yFr_up f0 (by omega)) (by omega)) (by omega)) (by omega), (k _ 1 (by decide) (by decide) (by decide) (by decide)).trans f1, rfl, (k _ 8 (by decide) (by decide) (by decide) (by decide)).trans f8, (k _ 9 (by decide) (by decide) (by decide) (by decide)).trans f9, (k _ 10 (by decide) (by decide) (by decide) (by decide)).trans f10, (k _ 11 (by decide) (by decide) (by decide) (by decide)).trans f11, ⟨(k _ 13 (by decide) (by decide) (by decide) (by decide)).trans f13.1, f13.2⟩, ⟨(k _ 15 (by decide) (by decide) (by decide) (by decide)).trans f15.1, f15.2⟩, (k _ 16 (by decide) (by decide) (by decide) (by decide)).trans f16, rfl, rfl, fun i hi => ?_⟩, fun j hj => ?_⟩
    · exact (ybt_clr (H 35 19) d i (by omega) (by omega)).trans (by
        show (if i = d then false else ybt (H 35 19) i) = if i = d then false else cm i
        rw [f19 i hi])
    · simp only [List.mem_cons, List.not_mem_nil, or_false] at hj
      exact k _ j (by omega) (by omega) (by omega) (by omega)
theorem j_op (xs : Nat → Int32) (L d0 : Nat) (J : Nat → Nat → Int64) (X : XH) {V : Nat → Nat → Int32} {n b c : Nat} {hd lt nr : Int32} {u w : List Int32} {d : Nat} {mn : Int32} {ns : Nat} {cm : Nat → Bool} {Q : Int32 → (Nat → Nat → Int32) → Prop} (hn : n ≤ 400) (hd6 : d ≤ 6) (h0 : ¬ zrank (ylx (V 36) n b).1 = 0) (h6 : ¬ (ylx (V 36) n b).1 = 306) (h4c : zrank (ylx (V 36) n b).1 = 4 → cm d = false) (hQ : yRun xs L d0 J X V n (ylx (V 36) n b).2.2.2 c hd lt nr 3 (yun (zrank (ylx (V 36) n b).1) w u).1 ((ylx (V 36) n b).1 :: (yun (zrank (ylx (V 36) n b).1) w u).2) d (yjm (zrank (ylx (V 36) n b).1)) (yjn (zrank (ylx (V 36) n b).1) ns) (yjc (zrank (ylx (V 36) n b).1) d cm) Q) : yRun xs L d0 J X V n b c hd lt nr 4 u w d mn ns cm Q := by
  have hx : ¬ (ylx (V 36) n b).1 = 256 := fun z => h0 (by rw [z]; decide)
  refine run_step xs L d0 J X hn hx (fun H1 hb hbn h => ?_)
  have rg := ylx_rg (V 36) n b hbn
  have hlt := rg.2.2.2.2 hx
  obtain ⟨t, ht⟩ : ∃ t, t = (ylx (V 36) n b).1 := ⟨_, rfl⟩
  rw [← ht] at h0 h6 h4c hQ
  obtain ⟨hC, h2, h4, h3, h5, h6'⟩ := h
  rw [← ht] at h5
  have hl := yun_len (zrank t) w u
  obtain ⟨H2, s1, hC2, s3⟩ := unw_c xs L (d0 + 2 + 5) (by omega) J X (zrank t) hC (by omega)
  have e3 : ymeth 4 = 61 := by decide
  have c59 : ¬ t = 59 := fun z => h0 (by rw [z]; decide)
  have c41 : ¬ t = 41 := fun z => h0 (by rw [z]; decide)
  have hold : yCB V (zup (zput H2 38 400 (H2 35 15) (H2 35 5)) 35 15 (H2 35 15 + 1)) c hd lt nr 4 (yun (zrank t) w u).1 (t :: (yun (zrank t) w u).2) d mn ns cm ∧ ∀ k, k ∈ [2, 3, 4, 5, 6] → zup (zput H2 38 400 (H2 35 15) (H2 35 5)) 35 15 (H2 35 15 + 1) 35 k = H1 35 k := by
    obtain ⟨f0, f1, f7, f8, f9, f10, f11, f13, f15, f16, f17, f18, f19⟩ := hC2
    have g5 : H2 35 5 = t := (s3 5 (by decide) (by decide)).trans h5
    rw [f15.1, g5, zput_nat (by omega) (by omega), nat_succ]
    have k : ∀ j, j ≠ 15 → zup (zup H2 38 (yun (zrank t) w u).2.length t) 35 15 (Int32.ofNat ((yun (zrank t) w u).2.length + 1)) 35 j = H2 35 j := fun j j1 => zup_k j1
    refine ⟨⟨yFr_up (o := 35) (yFr_up (o := 38) f0 (by omega)) (by omega), (k 1 (by decide)).trans f1, (k 7 (by decide)).trans f7, (k 8 (by decide)).trans f8, (k 9 (by decide)).trans f9, (k 10 (by decide)).trans f10, (k 11 (by decide)).trans f11, ⟨(k 13 (by decide)).trans f13.1, f13.2⟩, ⟨?_, ?_⟩, (k 16 (by decide)).trans f16, (k 17 (by decide)).trans f17, (k 18 (by decide)).trans f18, fun i hi => ?_⟩, fun j hj => ?_⟩
    · rw [List.length_cons]
      rfl
    · rw [List.reverse_cons]
      have := row_push t f15.2
      rw [List.length_reverse] at this
      exact this
    · have e19 := k 19 (by decide)
      rw [e19]
      exact f19 i hi
    · simp only [List.mem_cons, List.not_mem_nil, or_false] at hj
      exact (k j (by omega)).trans (s3 j (by omega) (by omega))
  obtain ⟨H3, j1, j2, j3⟩ := join_c xs L (d0 + 2 + 5) (by omega) J X (zrank t) (by omega) hold.1
  have fin : ∀ k, k ∈ [2, 3, 4, 5, 6] → H3 35 k = H1 35 k := fun k hk => (j3 k hk).trans (hold.2 k hk)
  have hbit : zrank t = 4 → ((H1 35 19 >>> (H1 35 16 &&& 31)) &&& 1) = 0 := fun z => by
    have q := hC.2.2.2.2.2.2.2.2.2.2.2.2 d (by omega)
    rw [h4c z] at q
    rw [hC.2.2.2.2.2.2.2.2.2.1]
    exact Decidable.not_not.mp (of_decide_eq_false q)
  have S := zcS (as := [.ref 35]) (S61_0 xs L (d0 + 2) H1 J X)
  have S' : zev xs L (d0 + 3 + 5) 61 [.ref 35] (zmk H1 J X) = some (.inr (some (.int 0)), zmk H3 J X) := by
    refine S.trans ?_
    rw [h5, if_pos (decide_eq_true c59), if_pos (decide_eq_true c41)]
    by_cases t4 : zrank t = 4
    · rw [if_neg (fun z => (of_decide_eq_true z) t4), if_pos (decide_eq_true (hbit t4)), if_neg (fun z => h0 (of_decide_eq_true z)), if_neg (fun z => h6 (of_decide_eq_true z)), s1, zcw_v, T61_6_3_663 xs L (d0 + 2), j1, zcw_v, T61_6_8_658 xs L (d0 + 2)]
      rfl
    · rw [if_pos (decide_eq_true t4), if_neg (fun z => h0 (of_decide_eq_true z)), if_neg (fun z => h6 (of_decide_eq_true z)), s1, zcw_v, T61_6_3_671 xs L (d0 + 2), j1, zcw_v, T61_6_8_666 xs L (d0 + 2)]
      rfl
  rw [e3]
  refine ⟨0, H3, S', Or.inr ⟨rfl, c, hd, lt, nr, 3, _, _, d, _, _, _, ?_, hQ⟩⟩
  refine ⟨j2, (fin 2 (by decide)).trans h2, (fin 4 (by decide)).trans h4, ?_, rg.2.1⟩
  rw [List.length_cons]
  have := rg.1
  omega
