/-! THE PURE PART: what waits is written down. -/
def yun (r : Int32) : List Int32 → List Int32 → List Int32 × List Int32
  | [], u => (u, [])
  | t :: w, u => if zrank t < r then (u, t :: w) else yun r w (u ++ [-t])
theorem yun_len (r : Int32) : ∀ (w u : List Int32), (yun r w u).1.length + (yun r w u).2.length = u.length + w.length
  | [], u => rfl
  | t :: w, u => by
    show (if zrank t < r then (u, t :: w) else yun r w (u ++ [-t])).1.length + (if zrank t < r then (u, t :: w) else yun r w (u ++ [-t])).2.length = _
    by_cases c : zrank t < r
    · rw [if_pos c]
    · have e1 : (t :: w).length = w.length + 1 := List.length_cons
      have e2 : (u ++ [-t]).length = u.length + 1 := List.length_append
      rw [if_neg c, yun_len r w (u ++ [-t])]
      omega
theorem unw_loop (xs : Nat → Int32) (L d0 : Nat) (J : Nat → Nat → Int64) (X : XH) {V : Nat → Nat → Int32} {c : Nat} {hd lt nr wt : Int32} {d : Nat} {mn : Int32} {ns : Nat} {cm : Nat → Bool} (r : Int32) : ∀ (w u : List Int32) (H : Nat → Nat → Int32), yCB V H c hd lt nr wt u w d mn ns cm → u.length + w.length < 400 → ∃ H2, zgo xs L (d0 + 5) 62 1 [(0, .ref 35), (1, .int r)] (zmk H J X) = some (.inr none, zmk H2 J X) ∧ yCB V H2 c hd lt nr wt (yun r w u).1 (yun r w u).2 d mn ns cm ∧ ∀ k, k ≠ 13 → k ≠ 15 → H2 35 k = H 35 k
  | [], u, H, h, hl => by
    refine ⟨H, ?_, h, fun _ _ _ => rfl⟩
    rw [zgo_q, S62_1 xs L d0, h.2.2.2.2.2.2.2.2.1.1, if_pos (show decide (Int32.ofNat ([] : List Int32).length ≤ 0) = true by decide)]
    rfl
  | t :: w, u, H, h, hl => by
    have hlen : (t :: w).length = w.length + 1 := List.length_cons
    have h0 := h
    obtain ⟨f0, f1, f7, f8, f9, f10, f11, f13, f15, f16, f17, f18, f19⟩ := h
    have er := f15.2
    rw [List.reverse_cons, zrow_app, Nat.zero_add, List.length_reverse] at er
    have e1 : Int32.ofNat (w.length + 1) - 1 = Int32.ofNat w.length := by
      rw [← nat_succ, Int32.add_sub_cancel]
    have et : zat H 38 400 (Int32.ofNat w.length) = t := by
      rw [zat_nat (by omega) (by omega)]
      exact er.2.1
    have S := zgo_q xs L (d0 + 5) 62 1 [(0, .ref 35), (1, .int r)] (zmk H J X)
    rw [S62_1 xs L d0, f15.1, hlen, if_neg (fun z => by
      have z := i32_le.mp (of_decide_eq_true z)
      rw [i32_toInt (by omega)] at z
      have : (0 : Int32).toInt = 0 := by decide
      omega), e1, et] at S
    show ∃ H2, _ ∧ yCB V H2 c hd lt nr wt (if zrank t < r then (u, t :: w) else yun r w (u ++ [-t])).1 (if zrank t < r then (u, t :: w) else yun r w (u ++ [-t])).2 d mn ns cm ∧ _
    by_cases q : zrank t < r
    · rw [if_pos (decide_eq_true q)] at S
      rw [if_pos q]
      exact ⟨H, S, h0, fun _ _ _ => rfl⟩
    · rw [if_neg (fun z => q (of_decide_eq_true z)), f13.1, zput_nat (by omega) (by omega), nat_succ, zth_go] at S
      rw [if_neg q]
      have k : ∀ j, j ≠ 13 → j ≠ 15 → zup (zup (zup H 37 u.length (-t)) 35 13 (Int32.ofNat (u.length + 1))) 35 15 (Int32.ofNat w.length) 35 j = H 35 j := fun j j1 j2 => (zup_k j2).trans (zup_k j1)
      have fr := yFr_up (k := 15) (v := Int32.ofNat w.length) (yFr_up (k := 13) (v := Int32.ofNat (u.length + 1)) (yFr_up (k := u.length) (v := -t) f0 (o := 37) (by omega)) (o := 35) (by omega)) (o := 35) (by omega)
      obtain ⟨H2, s1, s2, s3⟩ := unw_loop xs L d0 J X (V := V) (c := c) (hd := hd) (lt := lt) (nr := nr) (wt := wt) (d := d) (mn := mn) (ns := ns) (cm := cm) r w (u ++ [-t]) (zup (zup (zup H 37 u.length (-t)) 35 13 (Int32.ofNat (u.length + 1))) 35 15 (Int32.ofNat w.length)) (by
        refine ⟨fr, (k 1 (by decide) (by decide)).trans f1, (k 7 (by decide) (by decide)).trans f7, (k 8 (by decide) (by decide)).trans f8, (k 9 (by decide) (by decide)).trans f9, (k 10 (by decide) (by decide)).trans f10, (k 11 (by decide) (by decide)).trans f11, ⟨?_, row_push (-t) f13.2⟩, ⟨rfl, er.1⟩, (k 16 (by decide) (by decide)).trans f16, (k 17 (by decide) (by decide)).trans f17, (k 18 (by decide) (by decide)).trans f18, fun i hi => ?_⟩
        · rw [List.length_append]
          rfl
        · have e19 := k 19 (by decide) (by decide)
          rw [e19]
          exact f19 i hi) (by
        rw [List.length_append]
        show u.length + 1 + w.length < 400
        omega)
      exact ⟨H2, S.trans s1, s2, fun j j1 j2 => (s3 j j1 j2).trans (k j j1 j2)⟩
theorem unw_c (xs : Nat → Int32) (L D : Nat) (hD : 6 ≤ D) (J : Nat → Nat → Int64) (X : XH) {V H : Nat → Nat → Int32} {c : Nat} {hd lt nr wt : Int32} {u w : List Int32} {d : Nat} {mn : Int32} {ns : Nat} {cm : Nat → Bool} (r : Int32) (h : yCB V H c hd lt nr wt u w d mn ns cm) (hl : u.length + w.length < 400) : ∃ H2, zev xs L D 62 [.ref 35, .int r] (zmk H J X) = some (.inr none, zmk H2 J X) ∧ yCB V H2 c hd lt nr wt (yun r w u).1 (yun r w u).2 d mn ns cm ∧ ∀ k, k ≠ 13 → k ≠ 15 → H2 35 k = H 35 k := by
  obtain ⟨d0, rfl⟩ := Nat.exists_eq_add_of_le hD
  rw [Nat.add_comm 6 d0]
  obtain ⟨H2, s1, s2⟩ := unw_loop xs L d0 J X r w u H h hl
  refine ⟨H2, ?_, s2⟩
  refine (zcS (S62_0 xs L d0 H J X r)).trans ?_
  rw [zth_go]
  exact s1
