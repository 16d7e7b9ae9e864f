/-! THE PURE PART: what each level of the model's reader does, told beside the class's. -/
def yfM (x k : Nat) (M M' : Nat → Nat → Int32) : Prop := (∀ a, a ≠ 61 → a ≠ 101 → M' a = M a) ∧ (∀ j, j ∉ [58, 60, 61, 62, 63, 64, 65, 66, 68] → M' 61 j = M 61 j) ∧ ∀ j, j < 640 * x + k ∨ 640 * x + 640 ≤ j → M' 101 j = M 101 j
theorem yfM_rfl {x k : Nat} {M : Nat → Nat → Int32} : yfM x k M M := ⟨fun _ _ _ => rfl, fun _ _ => rfl, fun _ _ => rfl⟩
theorem yfM_tr {x k k2 : Nat} {M M' M2 : Nat → Nat → Int32} (h : yfM x k M M') (g : yfM x k2 M' M2) (hk : k ≤ k2) : yfM x k M M2 := ⟨fun a a1 a2 => (g.1 a a1 a2).trans (h.1 a a1 a2), fun j hj => (g.2.1 j hj).trans (h.2.1 j hj), fun j hj => (g.2.2 j (by omega)).trans (h.2.2 j hj)⟩
theorem yfM_step {x k : Nat} {M M' : Nat → Nat → Int32} (h : yf61 [58, 60, 61, 62, 63, 64] M M') : yfM x k M M' := ⟨fun a a1 _ => h.1 a a1, fun j hj => h.2 j (fun z => hj (by
  simp only [List.mem_cons, List.not_mem_nil, or_false] at z ⊢
  omega)), fun j _ => by rw [h.1 101 (by decide)]⟩
/-- operators that wait, parentheses aside -/
def ypn : List Int32 → Nat
  | [] => 0
  | t :: w => (if t = 40 then 0 else 1) + ypn w
theorem yMK_fr {M M' : Nat → Nat → Int32} {x : Nat} {K : List Int32} (h : yMK M x K) (e : M' 61 68 = M 61 68) (f : M' 101 = M 101) : yMK M' x K := by
  unfold yMK
  rw [e, f]
  exact h
theorem number_m (xs : Nat → Int32) (L D : Nat) (hD : 8 ≤ D) (J : Nat → Nat → Int64) (X : XH) {M : Nat → Nat → Int32} {T : Nat → Int32} {n b : Nat} (hn : n ≤ 400) (hbn : b ≤ n) (hb : ∀ i, i < n → 0 ≤ (T i).toInt ∧ (T i).toInt ≤ 255) (h : yMt M T n b) (h0 : M 61 65 = 0) (ht : (ylx T n b).1 = 258) (h5 : (ylx T n b).2.2.2 - (ylx T n b).2.2.1 ≤ 5) : ∃ M', zev xs L D 175 [.ref 61] (zmk M J X) = some (.inr (some (.int (ylx T n b).2.1)), zmk M' J X) ∧ yf61 [58, 60, 61, 62, 63, 64] M M' ∧ yMt M' T n (ylx T n b).2.2.2 := by
  obtain ⟨d, rfl⟩ := Nat.exists_eq_add_of_le hD
  rw [show 8 + d = d + 2 + 6 by omega]
  have rg := ylx_rg T n b hbn
  obtain ⟨M', s1, s2, s3⟩ := step_m xs L (d + 2 + 5) (by omega) J X hn hbn hb h
  obtain ⟨h1, h2, h3, h4, h5', h6, h7, h8⟩ := h
  have k2 : M 61 60 = 2 := by
    rw [h6, ht]
    decide
  have S := zcS (as := [.ref 61]) (S175_0 xs L (d + 2) M J X)
  rw [if_pos (decide_eq_true h0), if_pos (decide_eq_true k2), h3, h5', nat_sub2 (by omega) rg.2.2.1, if_pos (show decide (Int32.ofNat ((ylx T n b).2.2.2 - (ylx T n b).2.2.1) ≤ (5 : Int32)) = true from decide_eq_true ((nat_le (b := 5) (by omega) (by omega)).mpr h5)), if_neg (fun z => (of_decide_eq_true z) h0), s1, zcw_v, T175_3_8_678 xs L (d + 2), h8 ht] at S
  exact ⟨M', S, s2, s3⟩
