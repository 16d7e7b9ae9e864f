/-! THE PURE PART: tokens where a part is to come. -/
def yBad (V : Nat → Nat → Int32) (k : Int32) (p : Nat) (Q : Int32 → (Nat → Nat → Int32) → Prop) : Prop := ∀ H : Nat → Nat → Int32, (∀ a, a ≠ 35 → a ≠ 37 → a ≠ 38 → H a = V a) → H 35 1 = V 35 1 → H 35 3 = Int32.ofNat p → Q k H
theorem row_push {f : Nat → Int32} {u : List Int32} (v : Int32) (h : zrow f 0 u) : zrow (zset f u.length v) 0 (u ++ [v]) := by
  rw [zrow_app]
  refine ⟨zrow_cg (fun j h1 h2 => (zset_ne (by omega)).symm) h, ?_⟩
  rw [Nat.zero_add]
  exact ⟨zset_at, trivial⟩
theorem yFr_up {V H : Nat → Nat → Int32} {o k : Nat} {v : Int32} (h : ∀ a, a ≠ 35 → a ≠ 37 → a ≠ 38 → H a = V a) (ho : o = 35 ∨ o = 37 ∨ o = 38) : ∀ a, a ≠ 35 → a ≠ 37 → a ≠ 38 → zup H o k v a = V a := fun a a1 a2 a3 => (if_neg (by omega)).trans (h a a1 a2 a3)
theorem p_end (xs : Nat → Int32) (L d0 : Nat) (J : Nat → Nat → Int64) (X : XH) {V : Nat → Nat → Int32} {n b c : Nat} {hd lt nr wt : Int32} {u w : List Int32} {d : Nat} {mn : Int32} {ns : Nat} {cm : Nat → Bool} {Q : Int32 → (Nat → Nat → Int32) → Prop} (hn : n ≤ 400) (hw : ¬ wt = 0) (hx : (ylx (V 36) n b).1 = 256) (hQ : yBad V 1 (ylx (V 36) n b).2.2.1 Q) : yRun xs L d0 J X V n b c hd lt nr wt u w d mn ns cm Q := by
  refine run_end xs L d0 J X hn hx (fun H1 h => ?_)
  rw [if_neg hw]
  exact hQ H1 h.1.1 h.1.2.1 h.2.2.2.1
theorem p_bad (xs : Nat → Int32) (L d0 : Nat) (J : Nat → Nat → Int64) (X : XH) {V : Nat → Nat → Int32} {n b c : Nat} {hd lt nr : Int32} {u w : List Int32} {d : Nat} {mn : Int32} {ns : Nat} {cm : Nat → Bool} {Q : Int32 → (Nat → Nat → Int32) → Prop} (hn : n ≤ 400) (hd6 : d ≤ 6) (k : Int32) (hx : ¬ (ylx (V 36) n b).1 = 256) (hk : (k = 1 ∧ (ylx (V 36) n b).1.toInt < 299 ∧ ¬ (ylx (V 36) n b).1 = 258 ∧ ¬ (ylx (V 36) n b).1 = 259 ∧ ¬ (ylx (V 36) n b).1 = 40) ∨ (k = 2 ∧ ((ylx (V 36) n b).1 = 40 ∨ (ylx (V 36) n b).1 = 258 ∨ 299 ≤ (ylx (V 36) n b).1.toInt) ∧ d = 6) ∨ (k = 2 ∧ (ylx (V 36) n b).1 = 259) ∨ (k = 3 ∧ d < 6 ∧ 299 ≤ (ylx (V 36) n b).1.toInt ∧ (ylx (V 36) n b).1.toInt < 307 ∧ ¬ ((ylx (V 36) n b).1 = 306 ∧ ¬ mn = 0))) (hQ : yBad V k (ylx (V 36) n b).2.2.1 Q) : yRun xs L d0 J X V n b c hd lt nr 3 u w d mn ns cm Q := by
  refine run_step xs L d0 J X hn hx (fun H1 _ _ h => ?_)
  have hq := hQ H1 h.1.1 h.1.2.1 h.2.2.2.1
  obtain ⟨⟨f0, f1, f7, f8, f9, f10, f11, f13, f15, f16, f17, f18, f19⟩, h2, h4, h3, h5, h6⟩ := h
  have e3 : ymeth 3 = 58 := by decide
  have et : (H1 35 16).toInt = d := by rw [f16, i32_toInt (by omega)]
  rw [e3]
  rw [← h5] at hk
  rcases hk with ⟨e, a1, a2, a3, a4⟩ | ⟨e, a1, a2⟩ | ⟨e, a1⟩ | ⟨e, a1, a2, a3, a4⟩
  · exact ⟨1, H1, part_1 xs L (d0 + 3 + 5) (by omega) H1 J X a1 a2 a3 a4, Or.inl ⟨by decide, by rw [e] at hq; exact hq⟩⟩
  · exact ⟨2, H1, part_2 xs L (d0 + 3 + 5) (by omega) H1 J X a1 (by omega), Or.inl ⟨by decide, by rw [e] at hq; exact hq⟩⟩
  · exact ⟨2, H1, part_9 xs L (d0 + 3 + 5) (by omega) H1 J X a1, Or.inl ⟨by decide, by rw [e] at hq; exact hq⟩⟩
  · have q := part_w xs L (d0 + 3 + 5) (by omega) H1 J X a2 (by omega)
    rw [f17, if_neg a4, if_neg (by omega)] at q
    exact ⟨3, H1, q, Or.inl ⟨by decide, by rw [e] at hq; exact hq⟩⟩
theorem p_open (xs : Nat → Int32) (L d0 : Nat) (J : Nat → Nat → Int64) (X : XH) {V : Nat → Nat → Int32} {n b c : Nat} {hd lt nr : Int32} {u w : List Int32} {d : Nat} {mn : Int32} {ns : Nat} {cm : Nat → Bool} {Q : Int32 → (Nat → Nat → Int32) → Prop} (hn : n ≤ 400) (hd6 : d < 6) (hx : (ylx (V 36) n b).1 = 40) (hQ : yRun xs L d0 J X V n (ylx (V 36) n b).2.2.2 c hd lt nr 3 u (40 :: w) (d + 1) 1 0 (fun i => if i = d + 1 then false else cm i) Q) : yRun xs L d0 J X V n b c hd lt nr 3 u w d mn ns cm Q := by
  refine run_step xs L d0 J X hn (by rw [hx]; decide) (fun H1 hb hbn h => ?_)
  have rg := ylx_rg (V 36) n b hbn
  have hlt := rg.2.2.2.2 (by rw [hx]; decide)
  obtain ⟨⟨f0, f1, f7, f8, f9, f10, f11, f13, f15, f16, f17, f18, f19⟩, h2, h4, h3, h5, h6⟩ := h
  have e3 : ymeth 3 = 58 := by decide
  have et : (H1 35 16).toInt = d := by rw [f16, i32_toInt (by omega)]
  rw [e3]
  refine ⟨0, yopn H1, part_o xs L (d0 + 3 + 5) (by omega) H1 J X (h5.trans hx) (by omega), Or.inr ⟨rfl, c, hd, lt, nr, 3, u, 40 :: w, d + 1, 1, 0, _, ?_, hQ⟩⟩
  unfold yopn
  rw [f15.1, f16, zput_nat (by omega) (by omega), nat_succ, nat_succ]
  have k : ∀ j, j ≠ 15 → j ≠ 16 → j ≠ 7 → j ≠ 17 → j ≠ 18 → j ≠ 19 → zup (zup (zup (zup (zup (zup (zup H1 38 w.length 40) 35 15 (Int32.ofNat (w.length + 1))) 35 16 (Int32.ofNat (d + 1))) 35 7 3) 35 17 1) 35 18 0) 35 19 (H1 35 19 &&& (((1 : Int32) <<< (Int32.ofNat (d + 1) &&& 31)) ^^^ (-1))) 35 j = H1 35 j := fun j j1 j2 j3 j4 j5 j6 => (zup_k j6).trans ((zup_k j5).trans ((zup_k j4).trans ((zup_k j3).trans ((zup_k j2).trans (zup_k j1)))))
  refine ⟨⟨yFr_up (yFr_up (yFr_up (yFr_up (yFr_up (yFr_up (yFr_up f0 (by omega)) (by omega)) (by omega)) (by omega)) (by omega)) (by omega)) (by omega), (k 1 (by decide) (by decide) (by decide) (by decide) (by decide) (by decide)).trans f1, ?_, (k 8 (by decide) (by decide) (by decide) (by decide) (by decide) (by decide)).trans f8, (k 9 (by decide) (by decide) (by decide) (by decide) (by decide) (by decide)).trans f9, (k 10 (by decide) (by decide) (by decide) (by decide) (by decide) (by decide)).trans f10, (k 11 (by decide) (by decide) (by decide) (by decide) (by decide) (by decide)).trans f11, ⟨(k 13 (by decide) (by decide) (by decide) (by decide) (by decide) (by decide)).trans f13.1, f13.2⟩, ⟨?_, ?_⟩, ?_, ?_, ?_, fun i hi => ?_⟩, (k 2 (by decide) (by decide) (by decide) (by decide) (by decide) (by decide)).trans h2, (k 4 (by decide) (by decide) (by decide) (by decide) (by decide) (by decide)).trans h4, ?_, rg.2.1⟩
  · rfl
  · rw [List.length_cons]
    rfl
  · rw [List.reverse_cons]
    have := row_push (40 : Int32) f15.2
    rw [List.length_reverse] at this
    exact this
  · rfl
  · rfl
  · rfl
  · exact (ybt_clr (H1 35 19) (d + 1) i (by omega) (by omega)).trans (by
      show (if i = d + 1 then false else ybt (H1 35 19) i) = if i = d + 1 then false else cm i
      rw [f19 i hi])
  · rw [List.length_cons]
    have := rg.1
    omega
