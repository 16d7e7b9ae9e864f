/-! THE PURE PART: a part of an expression, both sides. -/
theorem yLv_post {xs : Nat → Int32} {L D m d0 : Nat} {Jc Jm : Nat → Nat → Int64} {Xc Xm : XH} {V : Nat → Nat → Int32} {T : Nat → Int32} {n c : Nat} {hd lt nr : Int32} {x ar : Nat} {M : Nat → Nat → Int32} {b : Nat} {K u w : List Int32} {mn : Int32} {ns : Nat} {cm : Nat → Bool} {ρ : Int32} {lim lim' : Nat} {post post' : Int32 → (Nat → Bool) → Prop} (h : yLv xs L D m d0 Jc Jm Xc Xm V T n c hd lt nr x ar M b K u w mn ns cm ρ lim post) (hl : lim ≤ lim') (hp : ∀ t cm', post t cm' → post' t cm') : yLv xs L D m d0 Jc Jm Xc Xm V T n c hd lt nr x ar M b K u w mn ns cm ρ lim' post' := by
  obtain ⟨M', a1, a2, a3⟩ := h
  refine ⟨M', a1, a2, ?_⟩
  rcases a3 with a3 | ⟨a3, b', out, u', w', mn', ns', cm', c1, c2, c3, c4, c5, c6, c7, c8, c9, c10⟩
  · exact Or.inl a3
  · exact Or.inr ⟨a3, b', out, u', w', mn', ns', cm', c1, c2, c3, c4, zrp_mono hl c5, c6, c7, c8, hp _ _ c9, c10⟩
theorem need_m (xs : Nat → Int32) (L D : Nat) (hD : 8 ≤ D) (J : Nat → Nat → Int64) (X : XH) {M : Nat → Nat → Int32} {T : Nat → Int32} {n b : Nat} (k : Int32) (hk : ykn k = 3) (hn : n ≤ 400) (hbn : b ≤ n) (hb : ∀ i, i < n → 0 ≤ (T i).toInt ∧ (T i).toInt ≤ 255) (h : yMt M T n b) (h0 : M 61 65 = 0) : ∃ M', zev xs L D 178 [.ref 61, .int k] (zmk M J X) = some (.inr none, zmk M' J X) ∧ (((ylx T n b).1 = k ∧ yf61 [58, 60, 61, 62, 63, 64] M M' ∧ yMt M' T n (ylx T n b).2.2.2) ∨ (¬ (ylx T n b).1 = k ∧ M' = ywr9 M 1)) := by
  obtain ⟨d, rfl⟩ := Nat.exists_eq_add_of_le hD
  rw [show 8 + d = d + 2 + 6 by omega]
  have h60 := h.2.2.2.2.2.1
  have S := zcS (as := [.ref 61, .int k]) (S178_0 xs L (d + 2) M J X k)
  rw [if_neg (fun z => (of_decide_eq_true z) h0)] at S
  by_cases c : (ylx T n b).1 = k
  · have k3 : M 61 60 = 3 := by rw [h60, c, hk]
    have ks : M 61 61 = k := (h.2.2.2.2.2.2.1 (h60.symm.trans k3)).trans c
    have hz : ¬ zbi (M 61 65 = 0 ∧ M 61 60 = 3 ∧ M 61 61 = k) = 0 := fun z => (zbi_eq0.mp z) ⟨h0, k3, ks⟩
    obtain ⟨M', s1, s2, s3⟩ := step_m xs L (d + 2 + 5) (by omega) J X hn hbn hb h
    rw [if_pos (decide_eq_true hz), if_neg (fun z => (of_decide_eq_true z) h0), s1, zcw_v, T178_1_5_688 xs L (d + 2)] at S
    exact ⟨M', S, Or.inl ⟨c, s2, s3⟩⟩
  · have hz : zbi (M 61 65 = 0 ∧ M 61 60 = 3 ∧ M 61 61 = k) = 0 := zbi_eq0.mpr (fun z => c ((h.2.2.2.2.2.2.1 (h60.symm.trans z.2.1)).symm.trans z.2.2))
    have nb : ¬ ywr9 M 1 61 65 = 0 := by
      rw [show ywr9 M 1 61 65 = 1 from (zup_k (by decide)).trans zup_at]
      decide
    rw [if_neg (fun z => (of_decide_eq_true z) hz), wrong_at xs L (d + 2 + 5) (by omega) M J X 1 h0, zcw_v, T178_0_10_690 xs L (d + 2), if_pos (decide_eq_true nb)] at S
    exact ⟨_, S, Or.inr ⟨c, rfl⟩⟩
/-- what stands behind an expression: nothing that goes on with it -/
def yEnd (ar : Nat) (t : Int32) (cm : Nat → Bool) : Prop := zrank t = 0 ∨ t = 306 ∨ (zrank t = 4 ∧ cm ar = true)
theorem lv_paren (xs : Nat → Int32) (L d d0 : Nat) (Jc Jm : Nat → Nat → Int64) (Xc Xm : XH) {V : Nat → Nat → Int32} {T : Nat → Int32} {n c : Nat} {hd lt nr : Int32} {x ar : Nat} {M : Nat → Nat → Int32} {b : Nat} {K u w : List Int32} {mn : Int32} {ns : Nat} {cm : Nat → Bool} {lim : Nat} (hn : n ≤ 400) (hV : V 36 = T) (hbn : b ≤ n) (hb : ∀ i, i < n → 0 ≤ (T i).toInt ∧ (T i).toInt ≤ 255) (har : ar < 6) (h : yMt M T n b) (h0 : M 61 65 = 0) (hMK : yMK M x K) (hK : 2 * (K.length + ypn w) ≤ 3 * b) (ht : (ylx T n b).1 = 40) (hE : ∀ (M1 : Nat → Nat → Int32) (b1 : Nat) (u1 w1 : List Int32) (cm1 : Nat → Bool), b1 ≤ n → yMt M1 T n b1 → M1 61 65 = 0 → yMK M1 x K → 2 * (K.length + ypn w1) ≤ 3 * b1 → ytop 1 w1 → cm1 (ar + 1) = false → yLv xs L (d + 3 + 5) 168 d0 Jc Jm Xc Xm V T n c hd lt nr x (ar + 1) M1 b1 K u1 w1 1 0 cm1 1 lim (yEnd (ar + 1))) : yLv xs L (d + 3 + 6) 174 d0 Jc Jm Xc Xm V T n c hd lt nr x ar M b K u w mn ns cm 7 lim (fun _ cm' => cm' ar = cm ar) := by
  subst hV
  have rg := ylx_rg (V 36) n b hbn
  have hlt := rg.2.2.2.2 (by rw [ht]; decide)
  have h60 := h.2.2.2.2.2.1
  rw [ht] at h60
  have k3 : M 61 60 = 3 := h60
  have ks : M 61 61 = 40 := (h.2.2.2.2.2.2.1 (by rw [ht]; decide)).trans ht
  obtain ⟨M1, s1, s2, s3⟩ := step_m xs L (d + 3 + 5) (by omega) Jm Xm hn hbn hb h
  obtain ⟨M2, a1, a2, a3⟩ := hE M1 (ylx (V 36) n b).2.2.2 u (40 :: w) (fun i => if i = ar + 1 then false else cm i) rg.2.1 s3 (by rw [s2.2 65 (by decide), h0]) (yMK_fr hMK (s2.2 68 (by decide)) (s2.1 101 (by decide))) (by
    show 2 * (K.length + (0 + ypn w)) ≤ _
    omega) (show zrank 40 < 1 by decide) (show (if ar + 1 = ar + 1 then false else cm (ar + 1)) = false from if_pos rfl)
  have pre : zev xs L (d + 3 + 6) 174 [.ref 61, .int (Int32.ofNat x), .int (Int32.ofNat ar)] (zmk M Jm Xm) = zth xs L (d + 3 + 5) 174 (zcw (zE xs L (d + 3 + 5) 174) (zev xs L (d + 3 + 5) 178 [.ref 61, .int 41] (zmk M2 Jm Xm)) (fun h => zseg (zE xs L (d + 3 + 5) 174) (zC 174) 674 (zB174_4.drop 15) [(0, .ref 61), (1, .int (Int32.ofNat x)), (2, .int (Int32.ofNat ar))] [] h)) := by
    refine (zcS (S174_0 xs L (d + 3) M Jm Xm _ _)).trans ?_
    rw [if_pos (decide_eq_true h0), if_pos (decide_eq_true (show ¬ M 61 60 = 2 by rw [k3]; decide)), if_pos (decide_eq_true (show ¬ M 61 60 = 1 by rw [k3]; decide)), if_neg (fun z => (zbi_eq0.mp (of_decide_eq_true z)) ⟨h0, k3, ks⟩), s1, zcw_v, T174_4_6_683 xs L (d + 3), nat_succ, a1, zcw_v, T174_4_12_677 xs L (d + 3)]
  have f1 : yfM x K.length M M2 := yfM_tr (yfM_step s2) a2 (Nat.le_refl _)
  rcases a3 with ⟨k, p, k0, e1, e2, e3⟩ | ⟨z0, b2, out, u2, w2, mn2, ns2, cm2, c1, c2, c3, c4, c5, c6, c7, c8, c9, c10⟩
  · rw [need_no9 xs L (d + 3 + 5) (by omega) M2 Jm Xm 41 (by rw [e1]; exact k0.1), zcw_v, T174_4_15_674 xs L (d + 3)] at pre
    exact ⟨M2, pre, f1, Or.inl ⟨k, p, k0, e1, e2, fun Q hQ => p_open xs L d0 Jc Xc hn har ht (e3 Q hQ)⟩⟩
  · obtain ⟨M3, g1, g2⟩ := need_m xs L (d + 3 + 5) (by omega) Jm Xm 41 (by decide) hn c2 hb c3 z0
    rw [g1, zcw_v, T174_4_15_674 xs L (d + 3)] at pre
    have c6' : 2 * ((K ++ zmcs out).length + (0 + ypn w)) ≤ 3 * b2 + 1 := c6
    rcases g2 with ⟨t1, t2, t3⟩ | ⟨t1, t2⟩
    · have rg2 := ylx_rg (V 36) n b2 c2
      have hlt2 := rg2.2.2.2.2 (by rw [t1]; decide)
      have hu : yun 1 w2 u2 = (u ++ out, 40 :: w) := yEq_top c7 (Int.le_refl _) (show zrank 40 < 1 by decide)
      refine ⟨M3, pre, yfM_tr f1 (yfM_step (k := K.length) t2) (Nat.le_refl _), Or.inr ⟨by rw [t2.2 65 (by decide), z0], (ylx (V 36) n b2).2.2.2, out, u ++ out, w, mn2, ns2, cm2, by omega, rg2.2.1, t3, yMK_fr c4 (t2.2 68 (by decide)) (t2.1 101 (by decide)), c5, by omega, yEq_rfl, fun i hi => ?_, ?_, fun Q hQ => ?_⟩⟩
      · rw [c8 i (by omega)]
        exact if_neg (by omega)
      · show cm2 ar = cm ar
        rw [c8 ar (by omega)]
        exact if_neg (by omega)
      · exact p_open xs L d0 Jc Xc hn har ht (c10 Q (j_close xs L d0 Jc Xc hn har 40 w (u ++ out) hu t1 hQ))
    · obtain ⟨w1, w2', w3⟩ := ywr9_ok (x := x) (k9 := K.length) 1 c3
      rw [← t2] at w1 w2' w3
      refine ⟨M3, pre, yfM_tr f1 w1 (Nat.le_refl _), Or.inl ⟨1, _, by decide, w2', w3, fun Q hQ => ?_⟩⟩
      refine p_open xs L d0 Jc Xc hn har ht (c10 Q ?_)
      by_cases e6 : (ylx (V 36) n b2).1 = 256
      · exact p_end xs L d0 Jc Xc hn (by decide) e6 hQ
      · exact j_bad xs L d0 Jc Xc hn (by omega) e6 (fun z => by omega) (fun z => t1 z.1) c9 hQ
