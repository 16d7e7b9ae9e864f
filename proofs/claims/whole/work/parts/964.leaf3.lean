/-! THE PURE PART: no part where one is to come, in the model. -/
theorem ylx_long (T : Nat → Int32) (n b : Nat) (hb : ∀ i, i < n → 0 ≤ (T i).toInt ∧ (T i).toInt ≤ 255) (h : (ylx T n b).1 = 259) : 5 < (ylx T n b).2.2.2 - (ylx T n b).2.2.1 := by
  unfold ylx at h ⊢
  obtain ⟨p, hp⟩ : ∃ p, p = yspn yP1 T (n - b) b := ⟨_, rfl⟩
  rw [← hp] at h ⊢
  unfold ylxE at h ⊢
  by_cases c : n ≤ p
  · rw [if_pos c] at h
    exact absurd (show (256 : Int32) = 259 from h) (by decide)
  rw [if_neg c] at h ⊢
  by_cases c2 : yP2 (T p) = true
  · rw [if_pos c2] at h
    exfalso
    have h : ywc T p (yspn yP2 T (n - p) p - p) = 259 := h
    have hg := ywc_ge T p (yspn yP2 T (n - p) p - p)
    rw [h] at hg
    exact absurd hg (by decide)
  rw [if_neg c2] at h ⊢
  by_cases c3 : yP3 (T p) = true
  · rw [if_pos c3] at h ⊢
    have h : (if yspn yP3 T (n - p) p - p ≤ 5 then (258 : Int32) else 259) = 259 := h
    by_cases c5 : yspn yP3 T (n - p) p - p ≤ 5
    · rw [if_pos c5] at h
      exact absurd h (by decide)
    · show 5 < yspn yP3 T (n - p) p - p
      omega
  rw [if_neg c3] at h
  exfalso
  have h : (if ysgn (T p) = true then T p else 257) = 259 := h
  have hr := hb p (by omega)
  by_cases c4 : ysgn (T p) = true
  · rw [if_pos c4] at h
    rw [h] at hr
    exact absurd hr.2 (by decide)
  · rw [if_neg c4] at h
    exact absurd h (by decide)
/-- a fault noted -/
def ywr9 (M : Nat → Nat → Int32) (k : Int32) : Nat → Nat → Int32 := zup (zup M 61 65 k) 61 66 (M 61 63)
theorem ywr9_ok {M : Nat → Nat → Int32} {T : Nat → Int32} {n b x k9 : Nat} (k : Int32) (h : yMt M T n b) : yfM x k9 M (ywr9 M k) ∧ ywr9 M k 61 65 = k ∧ ywr9 M k 61 66 = Int32.ofNat (ylx T n b).2.2.1 := by
  refine ⟨⟨fun a a1 _ => (if_neg a1).trans (if_neg a1), fun j hj => ?_, fun j _ => rfl⟩, (zup_k (by decide)).trans zup_at, zup_at.trans h.2.2.1⟩
  have h6 : j ≠ 66 := fun z => hj (by
    rw [z]
    decide)
  have h5 : j ≠ 65 := fun z => hj (by
    rw [z]
    decide)
  exact (zup_k h6).trans (zup_k h5)
theorem wrong_at (xs : Nat → Int32) (L D : Nat) (hD : 6 ≤ D) (M : Nat → Nat → Int32) (J : Nat → Nat → Int64) (X : XH) (k : Int32) (h0 : M 61 65 = 0) : zev xs L D 167 [.ref 61, .int k] (zmk M J X) = some (.inr none, zmk (ywr9 M k) J X) := by
  have q := wrong_m xs L D hD M J X k
  rw [if_pos h0] at q
  exact q
theorem leaf_bad (xs : Nat → Int32) (L D : Nat) (hD : 9 ≤ D) (J : Nat → Nat → Int64) (X : XH) {M : Nat → Nat → Int32} {T : Nat → Int32} {n b x : Nat} (a xx : Int32) (k : Int32) (hn : n ≤ 400) (hbn : b ≤ n) (hb : ∀ i, i < n → 0 ≤ (T i).toInt ∧ (T i).toInt ≤ 255) (h : yMt M T n b) (h0 : M 61 65 = 0) (hk : (k = 1 ∧ (ylx T n b).1.toInt < 299 ∧ ¬ (ylx T n b).1 = 258 ∧ ¬ (ylx T n b).1 = 259 ∧ ¬ (ylx T n b).1 = 40) ∨ (k = 2 ∧ (ylx T n b).1 = 259) ∨ (k = 3 ∧ 299 ≤ (ylx T n b).1.toInt ∧ ∀ j, j < 8 → ¬ (ylx T n b).1 = (300 : Int32) + Int32.ofNat (7 + j))) : zev xs L D 174 [.ref 61, .int xx, .int a] (zmk M J X) = some (.inr none, zmk (ywr9 M k) J X) := by
  obtain ⟨d, rfl⟩ := Nat.exists_eq_add_of_le hD
  rw [show 9 + d = d + 3 + 6 by omega]
  have rg := ylx_rg T n b hbn
  have w65 : ∀ k : Int32, ywr9 M k 61 65 = k := fun k => (zup_k (by decide)).trans zup_at
  have h60 := h.2.2.2.2.2.1
  refine (zcS (S174_0 xs L (d + 3) M J X xx a)).trans ?_
  rw [if_pos (decide_eq_true h0)]
  rcases hk with ⟨e, a1, a2, a3, a4⟩ | ⟨e, a1⟩ | ⟨e, a1, a2⟩
  · have n2 : ¬ M 61 60 = 2 := fun z => by
      rw [h60] at z
      unfold ykn at z
      by_cases c1 : (ylx T n b).1 = 256
      · rw [if_pos c1] at z
        exact absurd z (by decide)
      rw [if_neg c1] at z
      by_cases c2 : (ylx T n b).1 = 257
      · rw [if_pos c2] at z
        exact absurd z (by decide)
      rw [if_neg c2, if_neg (fun y => by
        rcases y with y | y
        · exact a2 y
        · exact a3 y)] at z
      by_cases c3 : (299 : Int32) ≤ (ylx T n b).1
      · have := i32_le.mp c3
        have : (299 : Int32).toInt = 299 := by decide
        omega
      · rw [if_neg c3] at z
        exact absurd z (by decide)
    have n1 : ¬ M 61 60 = 1 := fun z => by
      have := ykn_w (h60.symm.trans z)
      omega
    have n3 : zbi (M 61 65 = 0 ∧ M 61 60 = 3 ∧ M 61 61 = 40) = 0 := if_neg (fun z => by
      have := h.2.2.2.2.2.2.1 (h60.symm.trans z.2.1)
      exact a4 (this.symm.trans z.2.2))
    rw [if_pos (decide_eq_true n2), if_pos (decide_eq_true n1), if_pos (decide_eq_true n3), wrong_at xs L (d + 3 + 5) (by omega) M J X 1 h0, zcw_v, T174_6_3_682 xs L (d + 3), e]
    rfl
  · have k2 : M 61 60 = 2 := by
      rw [h60, a1]
      decide
    have lg := ylx_long T n b hb a1
    have c175 : zev xs L (d + 3 + 5) 175 [.ref 61] (zmk M J X) = some (.inr (some (.int (ywr9 M 2 61 62))), zmk (ywr9 M 2) J X) := by
      refine (zcS (S175_0 xs L (d + 2) M J X)).trans ?_
      rw [if_pos (decide_eq_true h0), if_pos (decide_eq_true k2), h.2.2.1, h.2.2.2.2.1, nat_sub2 (by omega) rg.2.2.1, if_neg (show ¬ decide (Int32.ofNat ((ylx T n b).2.2.2 - (ylx T n b).2.2.1) ≤ (5 : Int32)) = true from fun z => by
        have := (nat_le (b := 5) (by omega) (by omega)).mp (of_decide_eq_true z)
        omega), wrong_at xs L (d + 2 + 5) (by omega) M J X 2 h0, zcw_v, T175_2_10_683 xs L (d + 2), if_pos (decide_eq_true (show ¬ ywr9 M 2 61 65 = 0 by
        rw [w65]
        decide))]
      rfl
    have nb : ¬ ywr9 M 2 61 65 = 0 := by
      rw [w65]
      decide
    rw [if_neg (fun z => (of_decide_eq_true z) k2), c175, zci_i, T174_1_6_691 xs L (d + 3), emit_no xs L (d + 3 + 5) (by omega) _ J X xx 0 nb, zcw_v, T174_1_11_686 xs L (d + 3), emit_no xs L (d + 3 + 5) (by omega) _ J X xx _ nb, zcw_v, T174_1_15_682 xs L (d + 3), e]
    rfl
  · have k1 : M 61 60 = 1 := by
      rw [h60]
      exact ykn_1 a1
    have vm := value_m xs L (d + 3 + 5) (by omega) J X hn hbn hb h h0
    have ev : yvw (ylx T n b).1 8 0 = -1 := by
      rcases yvw_spec (ylx T n b).1 8 0 rfl with ⟨i, i1, i2, i3⟩ | ⟨i1, i2⟩
      · exact absurd i2 (a2 i i1)
      · exact i1
    rw [ev] at vm
    have nb : ¬ ywr9 M 3 61 65 = 0 := by
      rw [w65]
      decide
    rw [if_pos (decide_eq_true (show ¬ M 61 60 = 2 from fun z => by
      rw [k1] at z
      exact absurd z (by decide))), if_neg (fun z => (of_decide_eq_true z) k1), vm, zci_i, T174_2_6_687 xs L (d + 3), if_neg (show ¬ decide (¬ (-1 : Int32) = -1) = true by decide), wrong_at xs L (d + 3 + 5) (by omega) M J X 3 h0, zcw_v, T174_2_13_680 xs L (d + 3), emit_no xs L (d + 3 + 5) (by omega) _ J X xx _ nb, zcw_v, T174_5_6_673 xs L (d + 3), if_pos (decide_eq_true nb), e]
    rfl
