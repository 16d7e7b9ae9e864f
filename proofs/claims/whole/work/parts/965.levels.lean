/-! THE PURE PART: a level of the reader, both sides. -/
/-- the model's method m, its token at b read, beside the class where a part is to come -/
def yLv (xs : Nat → Int32) (L D m d0 : Nat) (Jc Jm : Nat → Nat → Int64) (Xc Xm : XH) (V : Nat → Nat → Int32) (T : Nat → Int32) (n c : Nat) (hd lt nr : Int32) (x ar : Nat) (M : Nat → Nat → Int32) (b : Nat) (K u w : List Int32) (mn : Int32) (ns : Nat) (cm : Nat → Bool) (ρ : Int32) (lim : Nat) (post : Int32 → (Nat → Bool) → Prop) : Prop := ∃ M', zev xs L D m [.ref 61, .int (Int32.ofNat x), .int (Int32.ofNat ar)] (zmk M Jm Xm) = some (.inr none, zmk M' Jm Xm) ∧ yfM x K.length M M' ∧ ((∃ k p, (¬ k = 0 ∧ ¬ k = 9) ∧ M' 61 65 = k ∧ M' 61 66 = Int32.ofNat p ∧ ∀ Q, yBad V k p Q → yRun xs L d0 Jc Xc V n b c hd lt nr 3 u w ar mn ns cm Q) ∨ (M' 61 65 = 0 ∧ ∃ b' out u' w' mn' ns' cm', b < b' ∧ b' ≤ n ∧ yMt M' T n b' ∧ yMK M' x (K ++ zmcs out) ∧ zrp lim 0 out 1 ∧ 2 * ((K ++ zmcs out).length + ypn w) ≤ 3 * b' + 1 ∧ yEq ρ w' u' w (u ++ out) ∧ (∀ i, i < ar → cm' i = cm i) ∧ post (ylx T n b').1 cm' ∧ ∀ Q, yRun xs L d0 Jc Xc V n b' c hd lt nr 4 u' w' ar mn' ns' cm' Q → yRun xs L d0 Jc Xc V n b c hd lt nr 3 u w ar mn ns cm Q))
/-- a part that is no parenthesis -/
theorem lv_leaf (xs : Nat → Int32) (L D d0 : Nat) (hD : 9 ≤ D) (Jc Jm : Nat → Nat → Int64) (Xc Xm : XH) {V : Nat → Nat → Int32} {T : Nat → Int32} {n c : Nat} {hd lt nr : Int32} {x ar : Nat} {M : Nat → Nat → Int32} {b : Nat} {K u w : List Int32} {mn : Int32} {ns : Nat} {cm : Nat → Bool} (hn : n ≤ 400) (hV : V 36 = T) (hbn : b ≤ n) (hb : ∀ i, i < n → 0 ≤ (T i).toInt ∧ (T i).toInt ≤ 255) (hx : x < 37) (har : ar < 6) (h : yMt M T n b) (h0 : M 61 65 = 0) (hMK : yMK M x K) (hK : 2 * (K.length + ypn w) ≤ 3 * b) (ht : ¬ (ylx T n b).1 = 40) (hnot : ¬ ((ylx T n b).1 = 306 ∧ ¬ mn = 0)) : yLv xs L D 174 d0 Jc Jm Xc Xm V T n c hd lt nr x ar M b K u w mn ns cm 7 1 (fun _ cm' => cm' = cm) := by
  subst hV
  have rg := ylx_rg (V 36) n b hbn
  by_cases e6 : (ylx (V 36) n b).1 = 256
  · obtain ⟨w1, w2, w3⟩ := ywr9_ok (x := x) (k9 := K.length) 1 h
    refine ⟨ywr9 M 1, leaf_bad xs L D hD Jm Xm (x := x) _ _ 1 hn hbn hb h h0 (Or.inl ⟨rfl, by rw [e6]; decide, by rw [e6]; decide, by rw [e6]; decide, by rw [e6]; decide⟩), w1, Or.inl ⟨1, _, by decide, w2, w3, fun Q hQ => p_end xs L d0 Jc Xc hn (by decide) e6 hQ⟩⟩
  by_cases e8 : (ylx (V 36) n b).1 = 258
  · have hlt := rg.2.2.2.2 e6
    obtain ⟨n5, nk⟩ := ylx_num (V 36) n b hb e8
    obtain ⟨M', a1, a2, a3, a4, a5⟩ := leaf_num xs L D hD Jm Xm (Int32.ofNat ar) hn hbn hb hx (by omega) h h0 hMK e8
    have el : (zmcs [(ylx (V 36) n b).2.1]).length = 2 := by
      show (zmc (ylx (V 36) n b).2.1 ++ []).length = 2
      unfold zmc
      rw [nk]
      rfl
    refine ⟨M', a1, a2, Or.inr ⟨a3, (ylx (V 36) n b).2.2.2, [(ylx (V 36) n b).2.1], u ++ [(ylx (V 36) n b).2.1], w, mn, ns, cm, by omega, rg.2.1, a4, a5, zrp_push (Or.inl nk), ?_, yEq_rfl, fun _ _ => rfl, rfl, fun Q hQ => p_val xs L d0 Jc Xc hn har _ (Or.inl ⟨e8, rfl⟩) hQ⟩⟩
    rw [List.length_append, el]
    omega
  by_cases e9 : (ylx (V 36) n b).1 = 259
  · obtain ⟨w1, w2, w3⟩ := ywr9_ok (x := x) (k9 := K.length) 2 h
    exact ⟨ywr9 M 2, leaf_bad xs L D hD Jm Xm (x := x) _ _ 2 hn hbn hb h h0 (Or.inr (Or.inl ⟨rfl, e9⟩)), w1, Or.inl ⟨2, _, by decide, w2, w3, fun Q hQ => p_bad xs L d0 Jc Xc hn (by omega) 2 e6 (Or.inr (Or.inr (Or.inl ⟨rfl, e9⟩))) hQ⟩⟩
  by_cases ew : 299 ≤ (ylx (V 36) n b).1.toInt
  · by_cases ev : ∃ j, j < 8 ∧ (ylx (V 36) n b).1 = (300 : Int32) + Int32.ofNat (7 + j)
    · obtain ⟨j, hj, ej⟩ := ev
      have hlt := rg.2.2.2.2 e6
      obtain ⟨M', a1, a2, a3, a4, a5, a6⟩ := leaf_val xs L D hD Jm Xm (Int32.ofNat ar) j hj hn hbn hb hx (by omega) h h0 hMK ej
      have fj : ∀ j, j < 8 → (zmcs [-((300 : Int32) + Int32.ofNat (7 + j))]).length = 1 ∧ 307 ≤ ((300 : Int32) + Int32.ofNat (7 + j)).toInt := by decide +kernel
      have el : (zmcs [-(ylx (V 36) n b).1]).length = 1 := by
        rw [ej]
        exact (fj j hj).1
      refine ⟨M', a1, a2, Or.inr ⟨a3, (ylx (V 36) n b).2.2.2, [-(ylx (V 36) n b).1], u ++ [-(ylx (V 36) n b).1], w, mn, ns, cm, by omega, rg.2.1, a4, a5, zrp_push a6, ?_, yEq_rfl, fun _ _ => rfl, rfl, fun Q hQ => p_val xs L d0 Jc Xc hn har _ (Or.inr ⟨by rw [ej]; exact (fj j hj).2, rfl⟩) hQ⟩⟩
      rw [List.length_append, el]
      omega
    · have e314 : (ylx (V 36) n b).1.toInt < 307 := by
        have hw := ylx_word (V 36) n b hb ew
        rcases ywd_spec (T := V 36) (p := (ylx (V 36) n b).2.2.1) (l := (ylx (V 36) n b).2.2.2 - (ylx (V 36) n b).2.2.1) yws 0 299 with ⟨s1, s2⟩ | ⟨j, s1, s2, s3⟩
        · have : (ylx (V 36) n b).1 = 299 := hw.trans s1
          rw [this]
          decide
        · have e : (ylx (V 36) n b).1 = (300 : Int32) + Int32.ofNat j := by
            have := hw.trans s3
            rw [Nat.zero_add] at this
            exact this
          have hl : yws.length = 15 := by decide
          have h15 : ∀ j, j < 15 → (7 ≤ j ∨ ((300 : Int32) + Int32.ofNat j).toInt < 307) := by decide +kernel
          rcases h15 j (by omega) with q | q
          · exact absurd ⟨j - 7, by omega, by rw [e, show 7 + (j - 7) = j by omega]⟩ ev
          · rw [e]
            exact q
      obtain ⟨w1, w2, w3⟩ := ywr9_ok (x := x) (k9 := K.length) 3 h
      exact ⟨ywr9 M 3, leaf_bad xs L D hD Jm Xm (x := x) _ _ 3 hn hbn hb h h0 (Or.inr (Or.inr ⟨rfl, ew, fun j hj z => ev ⟨j, hj, z⟩⟩)), w1, Or.inl ⟨3, _, by decide, w2, w3, fun Q hQ => p_bad xs L d0 Jc Xc hn (by omega) 3 e6 (Or.inr (Or.inr (Or.inr ⟨rfl, har, ew, e314, hnot⟩))) hQ⟩⟩
  · obtain ⟨w1, w2, w3⟩ := ywr9_ok (x := x) (k9 := K.length) 1 h
    exact ⟨ywr9 M 1, leaf_bad xs L D hD Jm Xm (x := x) _ _ 1 hn hbn hb h h0 (Or.inl ⟨rfl, by omega, e8, e9, ht⟩), w1, Or.inl ⟨1, _, by decide, w2, w3, fun Q hQ => p_bad xs L d0 Jc Xc hn (by omega) 1 e6 (Or.inl ⟨rfl, by omega, e8, e9, ht⟩) hQ⟩⟩
