/-! THE PURE PART: a value, or no part at all, in the model. -/
theorem yvw_spec (t : Int32) : ∀ (q k : Nat), k + q = 8 → (∃ j, j < 8 ∧ t = (300 : Int32) + Int32.ofNat (7 + j) ∧ yvw t q k = Int32.ofNat j) ∨ (yvw t q k = -1 ∧ ∀ j, k ≤ j → j < 8 → ¬ t = (300 : Int32) + Int32.ofNat (7 + j))
  | 0, k, hk => Or.inr ⟨rfl, fun j h1 h2 => by omega⟩
  | q + 1, k, hk => by
    have e : yvw t (q + 1) k = if t = (300 : Int32) + Int32.ofNat (7 + k) then Int32.ofNat k else yvw t q (k + 1) := rfl
    by_cases c : t = (300 : Int32) + Int32.ofNat (7 + k)
    · exact Or.inl ⟨k, by omega, c, by rw [e, if_pos c]⟩
    · rw [e, if_neg c]
      rcases yvw_spec t q (k + 1) (by omega) with ⟨j, h1, h2, h3⟩ | ⟨h1, h2⟩
      · exact Or.inl ⟨j, h1, h2, h3⟩
      · refine Or.inr ⟨h1, fun j h3 h4 => ?_⟩
        by_cases e2 : j = k
        · rw [e2]
          exact c
        · exact h2 j (by omega) h4
theorem leaf_val (xs : Nat → Int32) (L D : Nat) (hD : 9 ≤ D) (J : Nat → Nat → Int64) (X : XH) {M : Nat → Nat → Int32} {T : Nat → Int32} {n b x : Nat} {K : List Int32} (a : Int32) (j : Nat) (hj : j < 8) (hn : n ≤ 400) (hbn : b ≤ n) (hb : ∀ i, i < n → 0 ≤ (T i).toInt ∧ (T i).toInt ≤ 255) (hx : x < 37) (hK : K.length + 2 ≤ 640) (h : yMt M T n b) (h0 : M 61 65 = 0) (hMK : yMK M x K) (ht : (ylx T n b).1 = (300 : Int32) + Int32.ofNat (7 + j)) : ∃ M', zev xs L D 174 [.ref 61, .int (Int32.ofNat x), .int a] (zmk M J X) = some (.inr none, zmk M' J X) ∧ yfM x K.length M M' ∧ M' 61 65 = 0 ∧ yMt M' T n (ylx T n b).2.2.2 ∧ yMK M' x (K ++ zmcs [-(ylx T n b).1]) ∧ (zkd9 (-(ylx T n b).1) = 0 ∨ zkd9 (-(ylx T n b).1) = 1) := by
  obtain ⟨d, rfl⟩ := Nat.exists_eq_add_of_le hD
  rw [show 9 + d = d + 3 + 6 by omega]
  have facts : ∀ j, j < 8 → 299 ≤ ((300 : Int32) + Int32.ofNat (7 + j)).toInt ∧ ¬ Int32.ofNat j = -1 ∧ zkd9 (-((300 : Int32) + Int32.ofNat (7 + j))) = 1 ∧ zmcs [-((300 : Int32) + Int32.ofNat (7 + j))] = [(20 : Int32) + Int32.ofNat j] := by decide +kernel
  have inj : ∀ i, i < 8 → ∀ j, j < 8 → (300 : Int32) + Int32.ofNat (7 + i) = (300 : Int32) + Int32.ofNat (7 + j) → i = j := by decide +kernel
  obtain ⟨q1, q2, q3, q4⟩ := facts j hj
  have k1 : M 61 60 = 1 := by
    rw [h.2.2.2.2.2.1, ht]
    exact ykn_1 q1
  have vm := value_m xs L (d + 3 + 5) (by omega) J X hn hbn hb h h0
  have ev : yvw (ylx T n b).1 8 0 = Int32.ofNat j := by
    rcases yvw_spec (ylx T n b).1 8 0 rfl with ⟨i, i1, i2, i3⟩ | ⟨i1, i2⟩
    · rw [i3, inj i i1 j hj (i2.symm.trans ht)]
    · exact absurd ht (i2 j (Nat.zero_le _) hj)
  rw [ev] at vm
  obtain ⟨M2, e1, e2, e3, e4, e5⟩ := emit_m xs L (d + 3 + 5) (by omega) M J X x K ((20 : Int32) + Int32.ofNat j) hx (by omega) h0 hMK
  have h02 : M2 61 65 = 0 := by rw [e4 65 (by decide), h0]
  have ht2 : yMt M2 T n b := yMt_fr h (e3 104 (by decide) (by decide)) (fun k hk => by
    simp only [List.mem_cons, List.not_mem_nil, or_false] at hk
    exact e4 k (by omega))
  obtain ⟨M3, s1, s2, s3⟩ := step_m xs L (d + 3 + 5) (by omega) J X hn hbn hb ht2
  refine ⟨M3, ?_, ?_, ?_, s3, ?_, ?_⟩
  · refine (zcS (S174_0 xs L (d + 3) M J X _ a)).trans ?_
    rw [if_pos (decide_eq_true h0), if_pos (decide_eq_true (show ¬ M 61 60 = 2 from fun z => by
      rw [k1] at z
      exact absurd z (by decide))), if_neg (fun z => (of_decide_eq_true z) k1), vm, zci_i, T174_2_6_687 xs L (d + 3), if_pos (decide_eq_true q2), e1, zcw_v, T174_5_6_677 xs L (d + 3), if_neg (fun z => (of_decide_eq_true z) h02), s1, zcw_v, T174_5_11_672 xs L (d + 3)]
    rfl
  · refine yfM_tr (k2 := K.length) ⟨e3, fun i hi => e4 i (fun z => hi (by
      rw [z]
      decide)), fun i hi => e5 i (by omega)⟩ (yfM_step s2) (Nat.le_refl _)
  · rw [s2.2 65 (by decide), h02]
  · rw [ht, q4]
    exact yMK_fr e2 (s2.2 68 (by decide)) (s2.1 101 (by decide))
  · rw [ht]
    exact Or.inr q3
