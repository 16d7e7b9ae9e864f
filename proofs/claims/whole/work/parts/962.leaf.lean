/-! THE PURE PART: a number, a value: the model's part of an expression. -/
theorem ylx_num (T : Nat → Int32) (n b : Nat) (hb : ∀ i, i < n → 0 ≤ (T i).toInt ∧ (T i).toInt ≤ 255) (h : (ylx T n b).1 = 258) : (ylx T n b).2.2.2 - (ylx T n b).2.2.1 ≤ 5 ∧ zkd9 (ylx T n b).2.1 = 0 := by
  unfold ylx at h ⊢
  obtain ⟨p, hp⟩ : ∃ p, p = yspn yP1 T (n - b) b := ⟨_, rfl⟩
  rw [← hp] at h ⊢
  unfold ylxE at h ⊢
  by_cases c : n ≤ p
  · rw [if_pos c] at h
    exact absurd (show (256 : Int32) = 258 from h) (by decide)
  rw [if_neg c] at h ⊢
  by_cases c2 : yP2 (T p) = true
  · rw [if_pos c2] at h
    exfalso
    have h : ywc T p (yspn yP2 T (n - p) p - p) = 258 := h
    have hg := ywc_ge T p (yspn yP2 T (n - p) p - p)
    rw [h] at hg
    exact absurd hg (by decide)
  rw [if_neg c2] at h ⊢
  by_cases c3 : yP3 (T p) = true
  · rw [if_pos c3] at h ⊢
    have h : (if yspn yP3 T (n - p) p - p ≤ 5 then (258 : Int32) else 259) = 258 := h
    by_cases c5 : yspn yP3 T (n - p) p - p ≤ 5
    · have rg := yspn_rg yP3 T (n - p) p
      have q := ynm_nv (T := T) (p := p) (yspn yP3 T (n - p) p - p) c5 (fun i hi => yspn_all yP3 T (n - p) p (p + i) (by omega) (by omega))
      have hle : (10 : Int) ^ (yspn yP3 T (n - p) p - p) ≤ 100000 := by
        generalize yspn yP3 T (n - p) p - p = k at c5
        have : k = 0 ∨ k = 1 ∨ k = 2 ∨ k = 3 ∨ k = 4 ∨ k = 5 := by omega
        rcases this with e | e | e | e | e | e <;> subst e <;> decide
      refine ⟨c5, ?_⟩
      show zkd9 (ynv T p (yspn yP3 T (n - p) p - p)) = 0
      unfold zkd9
      exact if_pos ⟨q.2.1, by omega⟩
    · rw [if_neg c5] at h
      exact absurd h (by decide)
  rw [if_neg c3] at h
  exfalso
  have h : (if ysgn (T p) = true then T p else 257) = 258 := h
  have hr := hb p (by omega)
  by_cases c4 : ysgn (T p) = true
  · rw [if_pos c4] at h
    rw [h] at hr
    exact absurd hr.2 (by decide)
  · rw [if_neg c4] at h
    exact absurd h (by decide)
theorem leaf_num (xs : Nat → Int32) (L D : Nat) (hD : 9 ≤ D) (J : Nat → Nat → Int64) (X : XH) {M : Nat → Nat → Int32} {T : Nat → Int32} {n b x : Nat} {K : List Int32} (a : Int32) (hn : n ≤ 400) (hbn : b ≤ n) (hb : ∀ i, i < n → 0 ≤ (T i).toInt ∧ (T i).toInt ≤ 255) (hx : x < 37) (hK : K.length + 2 ≤ 640) (h : yMt M T n b) (h0 : M 61 65 = 0) (hMK : yMK M x K) (ht : (ylx T n b).1 = 258) : ∃ M', zev xs L D 174 [.ref 61, .int (Int32.ofNat x), .int a] (zmk M J X) = some (.inr none, zmk M' J X) ∧ yfM x K.length M M' ∧ M' 61 65 = 0 ∧ yMt M' T n (ylx T n b).2.2.2 ∧ yMK M' x (K ++ zmcs [(ylx T n b).2.1]) := by
  obtain ⟨d, rfl⟩ := Nat.exists_eq_add_of_le hD
  rw [show 9 + d = d + 3 + 6 by omega]
  obtain ⟨n5, nk⟩ := ylx_num T n b hb ht
  have k2 : M 61 60 = 2 := by
    rw [h.2.2.2.2.2.1, ht]
    decide
  obtain ⟨M1, a1, a2, a3⟩ := number_m xs L (d + 3 + 5) (by omega) J X hn hbn hb h h0 ht n5
  have h01 : M1 61 65 = 0 := by rw [a2.2 65 (by decide), h0]
  have f1 : yfM x K.length M M1 := yfM_step a2
  have hK1 : yMK M1 x K := yMK_fr hMK (a2.2 68 (by decide)) (a2.1 101 (by decide))
  obtain ⟨M2, e1, e2, e3, e4, e5⟩ := emit_m xs L (d + 3 + 5) (by omega) M1 J X x K 0 hx (by omega) h01 hK1
  have hl2 : (K ++ [(0 : Int32)]).length = K.length + 1 := List.length_append
  obtain ⟨M3, g1, g2, g3, g4, g5⟩ := emit_m xs L (d + 3 + 5) (by omega) M2 J X x (K ++ [0]) (ylx T n b).2.1 hx (by omega) (by rw [e4 65 (by decide), h01]) e2
  refine ⟨M3, ?_, ?_, ?_, ?_, ?_⟩
  · refine (zcS (S174_0 xs L (d + 3) M J X _ a)).trans ?_
    rw [if_pos (decide_eq_true h0), if_neg (fun z => (of_decide_eq_true z) k2), a1, zci_i, T174_1_6_691 xs L (d + 3), e1, zcw_v, T174_1_11_686 xs L (d + 3), g1, zcw_v, T174_1_15_682 xs L (d + 3)]
    rfl
  · refine yfM_tr f1 (k2 := K.length) ⟨fun q q1 q2 => (g3 q q1 q2).trans (e3 q q1 q2), fun j hj => ?_, fun j hj => ?_⟩ (Nat.le_refl _)
    · have : j ≠ 68 := fun z => hj (by
        rw [z]
        decide)
      exact (g4 j this).trans (e4 j this)
    · exact (g5 j (by omega)).trans (e5 j (by omega))
  · rw [g4 65 (by decide), e4 65 (by decide), h01]
  · refine yMt_fr a3 ?_ (fun k hk => ?_)
    · rw [g3 104 (by decide) (by decide), e3 104 (by decide) (by decide)]
    · simp only [List.mem_cons, List.not_mem_nil, or_false] at hk
      rw [g4 k (by omega), e4 k (by omega)]
  · have ez : zmcs [(ylx T n b).2.1] = [0, (ylx T n b).2.1] := by
      show zmc (ylx T n b).2.1 ++ [] = _
      unfold zmc
      rw [nk]
      rfl
    rw [ez]
    have : K ++ [(0 : Int32), (ylx T n b).2.1] = (K ++ [0]) ++ [(ylx T n b).2.1] := by rw [List.append_assoc]; rfl
    rw [this]
    exact g2
