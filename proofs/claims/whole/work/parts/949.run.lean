/-! THE PURE PART: one turn of the reader's loop. -/
theorem run_end (xs : Nat → Int32) (L d0 : Nat) (J : Nat → Nat → Int64) (X : XH) {V : Nat → Nat → Int32} {n b c : Nat} {hd lt nr wt : Int32} {u w : List Int32} {d : Nat} {mn : Int32} {ns : Nat} {cm : Nat → Bool} {Q : Int32 → (Nat → Nat → Int32) → Prop} (hn : n ≤ 400) (hx : (ylx (V 36) n b).1 = 256) (hQ : ∀ H1, yCT V H1 n (ylx (V 36) n b) c hd lt nr wt u w d mn ns cm → Q (if wt = 0 then 0 else 1) H1) : yRun xs L d0 J X V n b c hd lt nr wt u w d mn ns cm Q := by
  intro H i h hi
  obtain ⟨H1, a1, a2⟩ := run_adv xs L d0 J X hn h
  have hb := h.2.2.2.2
  have q := hQ H1 a2
  obtain ⟨⟨_, _, h7, _⟩, _, _, _, h5, _⟩ := a2
  refine ⟨_, H1, ?_, q⟩
  rw [zgo_q, S44_2 xs L (d0 + 3), if_neg (fun z => by
    have z := i32_lt.mp (of_decide_eq_true z)
    rw [i32_toInt (by omega)] at z
    have : (400 : Int32).toInt = 400 := by decide
    omega), if_neg (show ¬ decide (¬ (0 : Int32) = 0) = true by decide), a1, zcw_v, T44_2_7_693 xs L (d0 + 3), h5, hx, if_neg (show ¬ decide (¬ (256 : Int32) = 256) = true by decide), h7]
  by_cases c0 : wt = 0
  · rw [if_neg (fun z => (of_decide_eq_true z) c0), if_pos c0]
    rfl
  · rw [if_pos (decide_eq_true c0), if_neg c0]
    rfl
theorem run_step (xs : Nat → Int32) (L d0 : Nat) (J : Nat → Nat → Int64) (X : XH) {V : Nat → Nat → Int32} {n b c : Nat} {hd lt nr wt : Int32} {u w : List Int32} {d : Nat} {mn : Int32} {ns : Nat} {cm : Nat → Bool} {Q : Int32 → (Nat → Nat → Int32) → Prop} (hn : n ≤ 400) (hx : ¬ (ylx (V 36) n b).1 = 256) (hm : ∀ H1, u.length + w.length + c ≤ b → b ≤ n → yCT V H1 n (ylx (V 36) n b) c hd lt nr wt u w d mn ns cm → ∃ r H2, zev xs L (d0 + 3 + 5) (ymeth wt) [.ref 35] (zmk H1 J X) = some (.inr (some (.int r)), zmk H2 J X) ∧ ((¬ r = 0 ∧ Q r H2) ∨ (r = 0 ∧ ∃ c' hd' lt' nr' wt' u' w' d' mn' ns' cm', yCS V H2 n (ylx (V 36) n b).2.2.2 c' hd' lt' nr' wt' u' w' d' mn' ns' cm' ∧ yRun xs L d0 J X V n (ylx (V 36) n b).2.2.2 c' hd' lt' nr' wt' u' w' d' mn' ns' cm' Q))) : yRun xs L d0 J X V n b c hd lt nr wt u w d mn ns cm Q := by
  intro H i h hi
  obtain ⟨H1, a1, a2⟩ := run_adv xs L d0 J X hn h
  have hb := h.2.2.2.2
  obtain ⟨r, H2, m1, m2⟩ := hm H1 h.2.2.2.1 hb a2
  obtain ⟨⟨_, _, h7, _⟩, _, _, _, h5, _⟩ := a2
  have rg := ylx_rg (V 36) n b hb
  have hlt := rg.2.2.2.2 hx
  have disp : zgo xs L (d0 + 3 + 5) 44 2 [(0, .ref 35), (1, .int (Int32.ofNat n)), (2, .int 0), (3, .int (Int32.ofNat i))] (zmk H J X) = zgo xs L (d0 + 3 + 5) 44 2 [(0, .ref 35), (1, .int (Int32.ofNat n)), (2, .int r), (3, .int (Int32.ofNat (i + 1)))] (zmk H2 J X) := by
    rw [zgo_q, S44_2 xs L (d0 + 3), if_neg (fun z => by
      have z := i32_lt.mp (of_decide_eq_true z)
      rw [i32_toInt (by omega)] at z
      have : (400 : Int32).toInt = 400 := by decide
      omega), if_neg (show ¬ decide (¬ (0 : Int32) = 0) = true by decide), a1, zcw_v, T44_2_7_693 xs L (d0 + 3), if_pos (decide_eq_true (show ¬ H1 35 5 = 256 by rw [h5]; exact hx)), h7]
    unfold ymeth at m1
    by_cases c0 : wt = 0
    · rw [if_pos c0] at m1
      rw [if_pos c0, m1, zci_i, T44_7_2_684 xs L (d0 + 3), zth_go, nat_succ]
    rw [if_neg c0] at m1
    rw [if_neg c0]
    by_cases c1 : wt = 1
    · rw [if_pos c1] at m1
      rw [if_pos c1, m1, zci_i, T44_8_2_684 xs L (d0 + 3), zth_go, nat_succ]
    rw [if_neg c1] at m1
    rw [if_neg c1]
    by_cases c2 : wt = 2
    · rw [if_pos c2] at m1
      rw [if_pos c2, m1, zci_i, T44_9_2_684 xs L (d0 + 3), zth_go, nat_succ]
    rw [if_neg c2] at m1
    rw [if_neg c2]
    by_cases c3 : wt = 3
    · rw [if_pos c3] at m1
      rw [if_pos c3, m1, zci_i, T44_10_2_684 xs L (d0 + 3), zth_go, nat_succ]
    rw [if_neg c3] at m1
    rw [if_neg c3, m1, zci_i, T44_11_2_684 xs L (d0 + 3), zth_go, nat_succ]
  rcases m2 with ⟨r0, hq⟩ | ⟨r0, c', hd', lt', nr', wt', u', w', d', mn', ns', cm', s1, s2⟩
  · refine ⟨r, H2, disp.trans ?_, hq⟩
    rw [zgo_q, S44_2 xs L (d0 + 3)]
    by_cases c : (400 : Int32) < Int32.ofNat (i + 1)
    · rw [if_pos (decide_eq_true c)]
      rfl
    · rw [if_neg (fun z => c (of_decide_eq_true z)), if_pos (decide_eq_true r0)]
      rfl
  · subst r0
    obtain ⟨v, H', g1, g2⟩ := s2 H2 (i + 1) s1 (by omega)
    exact ⟨v, H', disp.trans g1, g2⟩
