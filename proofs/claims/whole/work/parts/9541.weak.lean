/-! THE PURE PART: the reader between clauses: nothing need be known of what waits. -/
def yCB0 (V H : Nat → Nat → Int32) (c : Nat) (hd lt nr wt : Int32) (u _ : List Int32) (d : Nat) (mn : Int32) (ns : Nat) (cm : Nat → Bool) : Prop := (∀ a, a ≠ 35 → a ≠ 37 → a ≠ 38 → H a = V a) ∧ H 35 1 = V 35 1 ∧ H 35 7 = wt ∧ H 35 8 = Int32.ofNat c ∧ H 35 9 = hd ∧ H 35 10 = lt ∧ H 35 11 = nr ∧ (H 35 13 = Int32.ofNat u.length ∧ zrow (H 37) 0 u) ∧ H 35 16 = Int32.ofNat d ∧ H 35 17 = mn ∧ H 35 18 = Int32.ofNat ns ∧ ∀ i, i < 8 → ybt (H 35 19) i = cm i
def yCS0 (V H : Nat → Nat → Int32) (n b c : Nat) (hd lt nr wt : Int32) (u w : List Int32) (d : Nat) (mn : Int32) (ns : Nat) (cm : Nat → Bool) : Prop := yCB0 V H c hd lt nr wt u w d mn ns cm ∧ H 35 2 = Int32.ofNat n ∧ H 35 4 = Int32.ofNat b ∧ u.length + c ≤ b ∧ b ≤ n
theorem yCB_fr0 {V H H1 : Nat → Nat → Int32} {c : Nat} {hd lt nr wt : Int32} {u w : List Int32} {d : Nat} {mn : Int32} {ns : Nat} {cm : Nat → Bool} (h : yCB0 V H c hd lt nr wt u w d mn ns cm) (f : yf35 [3, 4, 5, 6] H H1) : yCB0 V H1 c hd lt nr wt u w d mn ns cm := by
  obtain ⟨h0, h1, h7, h8, h9, h10, h11, h13, h16, h17, h18, h19⟩ := h
  unfold yCB0
  rw [f.1 37 (by decide), f.2 1 (by decide), f.2 7 (by decide), f.2 8 (by decide), f.2 9 (by decide), f.2 10 (by decide), f.2 11 (by decide), f.2 13 (by decide), f.2 16 (by decide), f.2 17 (by decide), f.2 18 (by decide), f.2 19 (by decide)]
  exact ⟨fun a a1 a2 a3 => (f.1 a a1).trans (h0 a a1 a2 a3), h1, h7, h8, h9, h10, h11, h13, h16, h17, h18, h19⟩
def yCT0 (V H : Nat → Nat → Int32) (n : Nat) (x : Int32 × Int32 × Nat × Nat) (c : Nat) (hd lt nr wt : Int32) (u w : List Int32) (d : Nat) (mn : Int32) (ns : Nat) (cm : Nat → Bool) : Prop := yCB0 V H c hd lt nr wt u w d mn ns cm ∧ H 35 2 = Int32.ofNat n ∧ H 35 4 = Int32.ofNat x.2.2.2 ∧ H 35 3 = Int32.ofNat x.2.2.1 ∧ H 35 5 = x.1 ∧ (x.1 = 258 → H 35 6 = x.2.1)
def yRun0 (xs : Nat → Int32) (L d0 : Nat) (J : Nat → Nat → Int64) (X : XH) (V : Nat → Nat → Int32) (n b c : Nat) (hd lt nr wt : Int32) (u w : List Int32) (d : Nat) (mn : Int32) (ns : Nat) (cm : Nat → Bool) (Q : Int32 → (Nat → Nat → Int32) → Prop) : Prop := ∀ (H : Nat → Nat → Int32) (i : Nat), yCS0 V H n b c hd lt nr wt u w d mn ns cm → i ≤ b → ∃ v H', zgo xs L (d0 + 3 + 5) 44 2 [(0, .ref 35), (1, .int (Int32.ofNat n)), (2, .int 0), (3, .int (Int32.ofNat i))] (zmk H J X) = some (.inr (some (.int v)), zmk H' J X) ∧ Q v H'
theorem run_adv0 (xs : Nat → Int32) (L d0 : Nat) (J : Nat → Nat → Int64) (X : XH) {V H : Nat → Nat → Int32} {n b c : Nat} {hd lt nr wt : Int32} {u w : List Int32} {d : Nat} {mn : Int32} {ns : Nat} {cm : Nat → Bool} (hn : n ≤ 400) (h : yCS0 V H n b c hd lt nr wt u w d mn ns cm) : ∃ H1, zev xs L (d0 + 3 + 5) 45 [.ref 35] (zmk H J X) = some (.inr none, zmk H1 J X) ∧ yCT0 V H1 n (ylx (V 36) n b) c hd lt nr wt u w d mn ns cm := by
  obtain ⟨h1, h2, h4, h5, h6⟩ := h
  obtain ⟨H1, a1, a2, a3, a4, a5, a6⟩ := adv_loop xs L d0 J X (V 36) n hn (n - b) b H (by omega) (h1.1 36 (by decide) (by decide) (by decide)) h2 h4
  refine ⟨H1, ?_, yCB_fr0 h1 a2, ?_, a4, a3, a5, a6⟩
  · refine (zcS (S45_0 xs L (d0 + 2) H J X)).trans ?_
    rw [zth_go]
    exact a1
  · rw [a2.2 2 (by decide)]
    exact h2
theorem run_end0 (xs : Nat → Int32) (L d0 : Nat) (J : Nat → Nat → Int64) (X : XH) {V : Nat → Nat → Int32} {n b c : Nat} {hd lt nr wt : Int32} {u w : List Int32} {d : Nat} {mn : Int32} {ns : Nat} {cm : Nat → Bool} {Q : Int32 → (Nat → Nat → Int32) → Prop} (hn : n ≤ 400) (hx : (ylx (V 36) n b).1 = 256) (hQ : ∀ H1, yCT0 V H1 n (ylx (V 36) n b) c hd lt nr wt u w d mn ns cm → Q (if wt = 0 then 0 else 1) H1) : yRun0 xs L d0 J X V n b c hd lt nr wt u w d mn ns cm Q := by
  intro H i h hi
  obtain ⟨H1, a1, a2⟩ := run_adv0 xs L d0 J X hn h
  have hb := h.2.2.2.2
  have q := hQ H1 a2
  obtain ⟨⟨_, _, h7, _⟩, _, _, _, h5, _⟩ := a2
  refine ⟨_, H1, ?_, q⟩
  rw [zgo_q, S44_2 xs L (d0 + 3), if_neg (fun z => by
    have z := i32_lt.mp (of_decide_eq_true z)
    rw [i32_toInt (by omega)] at z
    have : (400 : Int32).toInt = 400 := by decide
    omega), if_neg (show ¬ decide (¬ (0 : Int32) = 0) = true by decide), a1, zcw_v, T44_2_7_693 xs L (d0 + 3), h5, hx, if_neg (show ¬ decide (¬ (256 : Int32) = 256) = true by decide), h7]
  by_cases c0 : wt = 0
  · rw [if_neg (fun z => (of_decide_eq_true z) c0), if_pos c0]
    rfl
  · rw [if_pos (decide_eq_true c0), if_neg c0]
    rfl
theorem run_step0 (xs : Nat → Int32) (L d0 : Nat) (J : Nat → Nat → Int64) (X : XH) {V : Nat → Nat → Int32} {n b c : Nat} {hd lt nr wt : Int32} {u w : List Int32} {d : Nat} {mn : Int32} {ns : Nat} {cm : Nat → Bool} {Q : Int32 → (Nat → Nat → Int32) → Prop} (hn : n ≤ 400) (hx : ¬ (ylx (V 36) n b).1 = 256) (hm : ∀ H1, u.length + c ≤ b → b ≤ n → yCT0 V H1 n (ylx (V 36) n b) c hd lt nr wt u w d mn ns cm → ∃ r H2, zev xs L (d0 + 3 + 5) (ymeth wt) [.ref 35] (zmk H1 J X) = some (.inr (some (.int r)), zmk H2 J X) ∧ ((¬ r = 0 ∧ Q r H2) ∨ (r = 0 ∧ ∀ i, i ≤ (ylx (V 36) n b).2.2.2 → ∃ v H', zgo xs L (d0 + 3 + 5) 44 2 [(0, .ref 35), (1, .int (Int32.ofNat n)), (2, .int 0), (3, .int (Int32.ofNat i))] (zmk H2 J X) = some (.inr (some (.int v)), zmk H' J X) ∧ Q v H'))) : yRun0 xs L d0 J X V n b c hd lt nr wt u w d mn ns cm Q := by
  intro H i h hi
  obtain ⟨H1, a1, a2⟩ := run_adv0 xs L d0 J X hn h
  have hb := h.2.2.2.2
  obtain ⟨r, H2, m1, m2⟩ := hm H1 h.2.2.2.1 hb a2
  obtain ⟨⟨_, _, h7, _⟩, _, _, _, h5, _⟩ := a2
  have rg := ylx_rg (V 36) n b hb
  have hlt := rg.2.2.2.2 hx
  have disp : zgo xs L (d0 + 3 + 5) 44 2 [(0, .ref 35), (1, .int (Int32.ofNat n)), (2, .int 0), (3, .int (Int32.ofNat i))] (zmk H J X) = zgo xs L (d0 + 3 + 5) 44 2 [(0, .ref 35), (1, .int (Int32.ofNat n)), (2, .int r), (3, .int (Int32.ofNat (i + 1)))] (zmk H2 J X) := by
    rw [zgo_q, S44_2 xs L (d0 + 3), if_neg (fun z => by
      have z := i32_lt.mp (of_decide_eq_true z)
      rw [i32_toInt (by omega)] at z
      have : (400 : Int32).toInt = 400 := by decide
      omega), if_neg (show ¬ decide (¬ (0 : Int32) = 0) = true by decide), a1, zcw_v, T44_2_7_693 xs L (d0 + 3), if_pos (decide_eq_true (show ¬ H1 35 5 = 256 by rw [h5]; exact hx)), h7]
    unfold ymeth at m1
    by_cases c0 : wt = 0
    · rw [if_pos c0] at m1
      rw [if_pos c0, m1, zci_i, T44_7_2_684 xs L (d0 + 3), zth_go, nat_succ]
    rw [if_neg c0] at m1
    rw [if_neg c0]
    by_cases c1 : wt = 1
    · rw [if_pos c1] at m1
      rw [if_pos c1, m1, zci_i, T44_8_2_684 xs L (d0 + 3), zth_go, nat_succ]
    rw [if_neg c1] at m1
    rw [if_neg c1]
    by_cases c2 : wt = 2
    · rw [if_pos c2] at m1
      rw [if_pos c2, m1, zci_i, T44_9_2_684 xs L (d0 + 3), zth_go, nat_succ]
    rw [if_neg c2] at m1
    rw [if_neg c2]
    by_cases c3 : wt = 3
    · rw [if_pos c3] at m1
      rw [if_pos c3, m1, zci_i, T44_10_2_684 xs L (d0 + 3), zth_go, nat_succ]
    rw [if_neg c3] at m1
    rw [if_neg c3, m1, zci_i, T44_11_2_684 xs L (d0 + 3), zth_go, nat_succ]
  rcases m2 with ⟨r0, hq⟩ | ⟨r0, s2⟩
  · refine ⟨r, H2, disp.trans ?_, hq⟩
    rw [zgo_q, S44_2 xs L (d0 + 3)]
    by_cases c : (400 : Int32) < Int32.ofNat (i + 1)
    · rw [if_pos (decide_eq_true c)]
      rfl
    · rw [if_neg (fun z => c (of_decide_eq_true z)), if_pos (decide_eq_true r0)]
      rfl
  · subst r0
    obtain ⟨v, H', g1, g2⟩ := s2 (i + 1) (by omega)
    exact ⟨v, H', disp.trans g1, g2⟩
theorem yRun_0 {xs : Nat → Int32} {L d0 : Nat} {J : Nat → Nat → Int64} {X : XH} {V : Nat → Nat → Int32} {n b c : Nat} {hd lt nr wt : Int32} {u w : List Int32} {d : Nat} {mn : Int32} {ns : Nat} {cm : Nat → Bool} {Q : Int32 → (Nat → Nat → Int32) → Prop} (q : yRun0 xs L d0 J X V n b c hd lt nr wt u w d mn ns cm Q) : yRun xs L d0 J X V n b c hd lt nr wt u w d mn ns cm Q := by
  intro H i h hi
  obtain ⟨⟨f0, f1, f7, f8, f9, f10, f11, f13, f15, f16, f17, f18, f19⟩, h2, h4, h5, h6⟩ := h
  exact q H i ⟨⟨f0, f1, f7, f8, f9, f10, f11, f13, f16, f17, f18, f19⟩, h2, h4, by omega, h6⟩ hi
theorem p_end0 (xs : Nat → Int32) (L d0 : Nat) (J : Nat → Nat → Int64) (X : XH) {V : Nat → Nat → Int32} {n b c : Nat} {hd lt nr wt : Int32} {u w : List Int32} {d : Nat} {mn : Int32} {ns : Nat} {cm : Nat → Bool} {Q : Int32 → (Nat → Nat → Int32) → Prop} (hn : n ≤ 400) (hw : ¬ wt = 0) (hx : (ylx (V 36) n b).1 = 256) (hQ : yBad V 1 (ylx (V 36) n b).2.2.1 Q) : yRun0 xs L d0 J X V n b c hd lt nr wt u w d mn ns cm Q := by
  refine run_end0 xs L d0 J X hn hx (fun H1 h => ?_)
  rw [if_neg hw]
  exact hQ H1 h.1.1 h.1.2.1 h.2.2.2.1
