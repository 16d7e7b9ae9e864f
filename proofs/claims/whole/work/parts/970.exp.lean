/-! THE PURE PART: 'and', 'or': an expression, both sides. -/
theorem sp_and (xs : Nat → Int32) (L d d0 : Nat) (Jc Jm : Nat → Nat → Int64) (Xc Xm : XH) {V : Nat → Nat → Int32} {T : Nat → Int32} {n c : Nat} {hd lt nr : Int32} {x ar : Nat} {lim : Nat} (hn : n ≤ 400) (hV : V 36 = T) (hb : ∀ i, i < n → 0 ≤ (T i).toInt ∧ (T i).toInt ≤ 255) (hx : x < 37) (har : ar < 6) (hd2 : 2 ≤ d) (hP : ySp xs L (d + 1 + 5) 171 d0 Jc Jm Xc Xm V T n c hd lt nr x ar 3 lim (yPreE 3 ar) (fun _ t cm' => (¬ zrank t = 6 ∧ ¬ zrank t = 5) ∧ (zrank t = 4 → cm' ar = true))) : ySp xs L (d + 1 + 6) 170 d0 Jc Jm Xc Xm V T n c hd lt nr x ar 2 (lim + 1) (yPreE 2 ar) (fun _ t cm' => ((¬ zrank t = 6 ∧ ¬ zrank t = 5) ∧ (zrank t = 4 → cm' ar = true)) ∧ ¬ zrank t = 2) := by
  intro M b K u w mn ns cm hbn h h0 hMK hK hp
  obtain ⟨p1, p2, p3, p4⟩ := hp
  refine lv_level xs L (d + 1 + 5) d0 Jc Jm Xc Xm 170 171 2 3 lim (fun t cm' => (¬ zrank t = 6 ∧ ¬ zrank t = 5) ∧ (zrank t = 4 → cm' ar = true)) (fun M2 => zgo xs L (d + 1 + 5) 170 2 [(0, .ref 61), (1, .int (Int32.ofNat x)), (2, .int (Int32.ofNat ar))] (zmk M2 Jm Xm)) K u w hn hV hb hx (by omega) (by omega) (by decide) (by decide) (by decide) (by decide) p1 (fun M2 k => and_no2 xs L d M2 Jm Xm _ _ k) (fun M2 b2 k1 k2 k3 k4 => ?_) (fun M2 b2 k1 k2 k3 k4 M3 M4 M5 s1 s2 s3 => ?_) (fun M1 b1 K1 u1 t ns1 cm1 k1 k2 k3 k4 k5 k6 k7 k8 => ?_) (fun M2 k => ?_) (hP M b K u w mn ns cm hbn h h0 hMK hK ⟨ytop_mono p1 (by decide), p2, p3, p4⟩)
  · have tk := is_tok xs L (d + 1 + 5) (by omega) Jm Xm 4 (by decide) hn k1 hb k2 k3
    rw [show ystr 4 = 14 from rfl, show (300 : Int32) + Int32.ofNat 4 = 304 by decide, if_neg (fun z => k4 (by rw [z]; decide))] at tk
    show zgo xs L (d + 1 + 5) 170 2 _ _ = _
    rw [zgo_q, S170_2 xs L (d + 1), tk, zci_i, T170_2_3_697 xs L (d + 1), if_pos (show decide ((0 : Int32) = 0) = true by decide)]
    rfl
  · have e := zrank_2 k4
    have tk := is_tok xs L (d + 1 + 5) (by omega) Jm Xm 4 (by decide) hn k1 hb k2 k3
    rw [show ystr 4 = 14 from rfl, show (300 : Int32) + Int32.ofNat 4 = 304 by decide, if_pos e] at tk
    have ec : zmo (-(ylx T n b2).1) = 7 := by rw [e]; decide
    rw [ec] at s3
    show zgo xs L (d + 1 + 5) 170 2 _ _ = zgo xs L (d + 1 + 5) 170 2 _ _
    rw [zgo_q, S170_2 xs L (d + 1), tk, zci_i, T170_2_3_697 xs L (d + 1), if_neg (show ¬ decide ((1 : Int32) = 0) = true by decide), s1, zcw_v, T170_2_6_694 xs L (d + 1), s2, zcw_v, T170_2_10_690 xs L (d + 1), s3, zcw_v, T170_2_14_686 xs L (d + 1), zth_go]
  · obtain ⟨t', cm', e1, e2⟩ := k7
    obtain ⟨ns', e3⟩ := k8
    refine hP M1 b1 K1 u1 (t :: w) (yjm 2) ns1 cm1 k2 k3 k4 k5 k6 ⟨?_, by decide, ?_, ?_⟩
    · show zrank t < 3
      rw [k1]
      decide
    · rw [e3]
      rfl
    · rw [e2]
      exact (if_pos rfl : (if ar = ar then false else cm' ar) = false)
  · refine (zcS (S170_0 xs L (d + 1) M Jm Xm _ _)).trans ?_
    rw [k, zcw_v, T170_0_4_696 xs L (d + 1), zth_go]
theorem ykn_2 {t : Int32} (h : t = 258 ∨ t = 259) : ykn t = 2 := by
  rcases h with e | e <;> subst e <;> decide
theorem sp_exp (xs : Nat → Int32) (L d d0 : Nat) (Jc Jm : Nat → Nat → Int64) (Xc Xm : XH) {V : Nat → Nat → Int32} {T : Nat → Int32} {n c : Nat} {hd lt nr : Int32} {x ar : Nat} {lim : Nat} (hn : n ≤ 400) (hV : V 36 = T) (hb : ∀ i, i < n → 0 ≤ (T i).toInt ∧ (T i).toInt ≤ 255) (hx : x < 37) (har : ar ≤ 6) (hd2 : 5 ≤ d) (hP : ar < 6 → ySp xs L (d + 1 + 5) 170 d0 Jc Jm Xc Xm V T n c hd lt nr x ar 2 lim (yPreE 2 ar) (fun _ t cm' => ((¬ zrank t = 6 ∧ ¬ zrank t = 5) ∧ (zrank t = 4 → cm' ar = true)) ∧ ¬ zrank t = 2)) : ySp xs L (d + 1 + 6) 168 d0 Jc Jm Xc Xm V T n c hd lt nr x ar 1 (lim + 1) (yPreE 1 ar) (fun _ => yEnd ar) := by
  intro M b K u w mn ns cm hbn h h0 hMK hK hp
  obtain ⟨p1, p2, p3, p4⟩ := hp
  have S := zcS (as := [.ref 61, .int (Int32.ofNat x), .int (Int32.ofNat ar)]) (S168_0 xs L (d + 1) M Jm Xm (Int32.ofNat x) (Int32.ofNat ar))
  rw [if_pos (decide_eq_true h0)] at S
  have h60 := h.2.2.2.2.2.1
  have nb : ∀ k : Int32, ¬ k = 0 → ¬ ywr9 M k 61 65 = 0 := fun k hk => by
    rw [show ywr9 M k 61 65 = k from (zup_k (by decide)).trans zup_at]
    exact hk
  by_cases can : ((ylx T n b).1 = 258 ∨ (ylx T n b).1 = 259) ∨ 299 ≤ (ylx T n b).1.toInt ∨ (ylx T n b).1 = 40
  · have cases3 : M 61 60 = 2 ∨ (¬ M 61 60 = 2 ∧ M 61 60 = 1) ∨ (¬ M 61 60 = 2 ∧ ¬ M 61 60 = 1 ∧ ¬ zbi (M 61 65 = 0 ∧ M 61 60 = 3 ∧ M 61 61 = 40) = 0) := by
      rcases can with e | e | e
      · exact Or.inl (h60.trans (ykn_2 e))
      · have := h60.trans (ykn_1 e)
        refine Or.inr (Or.inl ⟨fun z => ?_, this⟩)
        rw [this] at z
        exact absurd z (by decide)
      · have := h60
        rw [e] at this
        have this : M 61 60 = 3 := this
        refine Or.inr (Or.inr ⟨fun z => ?_, fun z => ?_, sgn_t (by decide) h h0 e⟩)
        · rw [this] at z
          exact absurd z (by decide)
        · rw [this] at z
          exact absurd z (by decide)
    by_cases c6 : ar = 6
    · have n6 : ¬ decide (¬ Int32.ofNat ar = (6 : Int32)) = true := fun z => (of_decide_eq_true z) (by rw [c6]; rfl)
      have kn := nb 2 (by decide)
      have f := and_no xs L (d + 1 + 5) (by omega) (ywr9 M 2) Jm Xm (Int32.ofNat x) (Int32.ofNat ar) kn
      have g := exp_no2 xs L d (ywr9 M 2) Jm Xm (Int32.ofNat x) (Int32.ofNat ar) 1 kn
      have wr := wrong_at xs L (d + 1 + 5) (by omega) M Jm Xm 2 h0
      have S' : zev xs L (d + 1 + 6) 168 [.ref 61, .int (Int32.ofNat x), .int (Int32.ofNat ar)] (zmk M Jm Xm) = some (.inr none, zmk (ywr9 M 2) Jm Xm) := by
        rcases cases3 with e | ⟨e1, e2⟩ | ⟨e1, e2, e3⟩
        · rw [if_pos (decide_eq_true e), if_neg n6, wr, zcw_v, T168_5_6_682 xs L (d + 1), f, zcw_v, T168_6_4_677 xs L (d + 1), zth_go] at S
          exact S.trans g
        · rw [if_neg (fun z => e1 (of_decide_eq_true z)), if_pos (decide_eq_true e2), if_neg n6, wr, zcw_v, T168_5_6_678 xs L (d + 1), f, zcw_v, T168_6_4_673 xs L (d + 1), zth_go] at S
          exact S.trans g
        · rw [if_neg (fun z => e1 (of_decide_eq_true z)), if_neg (fun z => e2 (of_decide_eq_true z)), if_neg (fun z => e3 (of_decide_eq_true z)), if_neg n6, wr, zcw_v, T168_5_6_673 xs L (d + 1), f, zcw_v, T168_6_4_668 xs L (d + 1), zth_go] at S
          exact S.trans g
      obtain ⟨w1, w2, w3⟩ := ywr9_ok (x := x) (k9 := K.length) 2 h
      subst hV
      refine ⟨_, S', w1, Or.inl ⟨2, _, by decide, w2, w3, fun Q hQ => p_bad xs L d0 Jc Xc hn har 2 (fun z => ?_) ?_ hQ⟩⟩
      · rw [z] at can
        exact absurd can (by decide)
      · rcases can with (e | e) | e | e
        · exact Or.inr (Or.inl ⟨rfl, Or.inr (Or.inl e), c6⟩)
        · exact Or.inr (Or.inr (Or.inl ⟨rfl, e⟩))
        · exact Or.inr (Or.inl ⟨rfl, Or.inr (Or.inr e), c6⟩)
        · exact Or.inr (Or.inl ⟨rfl, Or.inl e, c6⟩)
    · have n6 : decide (¬ Int32.ofNat ar = (6 : Int32)) = true := decide_eq_true (fun z => c6 (i32_nat_inj (b := 6) (by omega) (by omega) z))
      have hA := hP (by omega)
      refine yLv_post (lv_level xs L (d + 1 + 5) d0 Jc Jm Xc Xm 168 170 1 2 lim (fun t cm' => ((¬ zrank t = 6 ∧ ¬ zrank t = 5) ∧ (zrank t = 4 → cm' ar = true)) ∧ ¬ zrank t = 2) (fun M2 => zgo xs L (d + 1 + 5) 168 8 [(0, .ref 61), (1, .int (Int32.ofNat x)), (2, .int (Int32.ofNat ar)), (3, .int 1)] (zmk M2 Jm Xm)) K u w hn hV hb hx (by omega) (by omega) (by decide) (by decide) (by decide) (by decide) p1 (fun M2 k => exp_no2 xs L d M2 Jm Xm _ _ _ k) (fun M2 b2 k1 k2 k3 k4 => ?_) (fun M2 b2 k1 k2 k3 k4 M3 M4 M5 s1 s2 s3 => ?_) (fun M1 b1 K1 u1 t ns1 cm1 k1 k2 k3 k4 k5 k6 k7 k8 => ?_) (fun M2 k => ?_) (hA M b K u w mn ns cm hbn h h0 hMK hK ⟨ytop_mono p1 (by decide), p2, p3, p4⟩)) (Nat.le_refl _) (fun t cm' z => ?_)
      · have tk := is_tok xs L (d + 1 + 5) (by omega) Jm Xm 5 (by decide) hn k1 hb k2 k3
        rw [show ystr 5 = 15 from rfl, show (300 : Int32) + Int32.ofNat 5 = 305 by decide, if_neg (fun z => k4 (by rw [z]; decide))] at tk
        show zgo xs L (d + 1 + 5) 168 8 _ _ = _
        rw [zgo_q, S168_8 xs L (d + 1), tk, zci_i, T168_8_3_697 xs L (d + 1), if_pos (show decide ((0 : Int32) = 0) = true by decide)]
        rfl
      · have e := zrank_1 k4
        have tk := is_tok xs L (d + 1 + 5) (by omega) Jm Xm 5 (by decide) hn k1 hb k2 k3
        rw [show ystr 5 = 15 from rfl, show (300 : Int32) + Int32.ofNat 5 = 305 by decide, if_pos e] at tk
        have ec : zmo (-(ylx T n b2).1) = 8 := by rw [e]; decide
        rw [ec] at s3
        show zgo xs L (d + 1 + 5) 168 8 _ _ = zgo xs L (d + 1 + 5) 168 8 _ _
        rw [zgo_q, S168_8 xs L (d + 1), tk, zci_i, T168_8_3_697 xs L (d + 1), if_neg (show ¬ decide ((1 : Int32) = 0) = true by decide), s1, zcw_v, T168_8_6_694 xs L (d + 1), s2, zcw_v, T168_8_10_690 xs L (d + 1), s3, zcw_v, T168_8_14_686 xs L (d + 1), zth_go]
      · obtain ⟨t', cm', e1, e2⟩ := k7
        obtain ⟨ns', e3⟩ := k8
        refine hA M1 b1 K1 u1 (t :: w) (yjm 1) ns1 cm1 k2 k3 k4 k5 k6 ⟨?_, by decide, ?_, ?_⟩
        · show zrank t < 2
          rw [k1]
          decide
        · rw [e3]
          rfl
        · rw [e2]
          exact (if_pos rfl : (if ar = ar then false else cm' ar) = false)
      · rcases cases3 with e | ⟨e1, e2⟩ | ⟨e1, e2, e3⟩
        · rw [if_pos (decide_eq_true e), if_pos n6, k, zcw_v, T168_6_4_681 xs L (d + 1), zth_go] at S
          exact S
        · rw [if_neg (fun z => e1 (of_decide_eq_true z)), if_pos (decide_eq_true e2), if_pos n6, k, zcw_v, T168_6_4_677 xs L (d + 1), zth_go] at S
          exact S
        · rw [if_neg (fun z => e1 (of_decide_eq_true z)), if_neg (fun z => e2 (of_decide_eq_true z)), if_neg (fun z => e3 (of_decide_eq_true z)), if_pos n6, k, zcw_v, T168_6_4_672 xs L (d + 1), zth_go] at S
          exact S
      · obtain ⟨⟨⟨⟨z1, z2⟩, z3⟩, z4⟩, z5⟩ := z
        rcases zrank_tab t with ⟨_, q⟩ | ⟨_, q⟩ | ⟨_, q⟩ | ⟨_, q⟩ | ⟨_, q⟩ | ⟨q, _⟩ | ⟨q, _⟩
        · exact absurd q z1
        · exact absurd q z2
        · exact Or.inr (Or.inr ⟨q, z3 q⟩)
        · exact absurd q z4
        · exact absurd q z5
        · exact Or.inr (Or.inl q)
        · exact Or.inl q
  · have k2 : ¬ M 61 60 = 2 := fun z => by
      rw [h60] at z
      unfold ykn at z
      by_cases c1 : (ylx T n b).1 = 256
      · rw [if_pos c1] at z
        exact absurd z (by decide)
      rw [if_neg c1] at z
      by_cases c2 : (ylx T n b).1 = 257
      · rw [if_pos c2] at z
        exact absurd z (by decide)
      rw [if_neg c2, if_neg (fun y => can (Or.inl y))] at z
      by_cases c3 : (299 : Int32) ≤ (ylx T n b).1
      · have := i32_le.mp c3
        exact can (Or.inr (Or.inl this))
      · rw [if_neg c3] at z
        exact absurd z (by decide)
    have k1 : ¬ M 61 60 = 1 := fun z => can (Or.inr (Or.inl (ykn_w (h60.symm.trans z))))
    have k3 : zbi (M 61 65 = 0 ∧ M 61 60 = 3 ∧ M 61 61 = 40) = 0 := sgn_f (by decide) h h0 (fun z => can (Or.inr (Or.inr z)))
    have kn := nb 1 (by decide)
    have f := and_no xs L (d + 1 + 5) (by omega) (ywr9 M 1) Jm Xm (Int32.ofNat x) (Int32.ofNat ar) kn
    have g := exp_no2 xs L d (ywr9 M 1) Jm Xm (Int32.ofNat x) (Int32.ofNat ar) 0 kn
    rw [if_neg (fun z => k2 (of_decide_eq_true z)), if_neg (fun z => k1 (of_decide_eq_true z)), if_pos (decide_eq_true k3), wrong_at xs L (d + 1 + 5) (by omega) M Jm Xm 1 h0, zcw_v, T168_4_6_677 xs L (d + 1), f, zcw_v, T168_6_4_672 xs L (d + 1), zth_go] at S
    obtain ⟨w1, w2, w3⟩ := ywr9_ok (x := x) (k9 := K.length) 1 h
    subst hV
    refine ⟨_, S.trans g, w1, Or.inl ⟨1, _, by decide, w2, w3, fun Q hQ => ?_⟩⟩
    by_cases e6 : (ylx (V 36) n b).1 = 256
    · exact p_end xs L d0 Jc Xc hn (by decide) e6 hQ
    · exact p_bad xs L d0 Jc Xc hn har 1 e6 (Or.inl ⟨rfl, by omega, fun z => can (Or.inl (Or.inl z)), fun z => can (Or.inl (Or.inr z)), fun z => can (Or.inr (Or.inr z))⟩) hQ
/-- an expression, however deep, as the reader calls it -/
theorem sp_all (xs : Nat → Int32) (L d0 : Nat) (Jc Jm : Nat → Nat → Int64) (Xc Xm : XH) {V : Nat → Nat → Int32} {T : Nat → Int32} {n c : Nat} {hd lt nr : Int32} {x : Nat} (hn : n ≤ 400) (hV : V 36 = T) (hb : ∀ i, i < n → 0 ≤ (T i).toInt ∧ (T i).toInt ≤ 255) (hx : x < 37) : ∀ (q ar d : Nat), ar + q = 6 → 12 ≤ d → ySp xs L (d + 6 * q) 168 d0 Jc Jm Xc Xm V T n c hd lt nr x ar 1 (5 * q + 1) (yPreE 1 ar) (fun _ => yEnd ar)
  | 0, ar, d, hq, hd12 => by
    obtain ⟨e, rfl⟩ := Nat.exists_eq_add_of_le hd12
    have q := sp_exp xs L (e + 5) d0 Jc Jm Xc Xm (V := V) (T := T) (n := n) (c := c) (hd := hd) (lt := lt) (nr := nr) (x := x) (ar := ar) (lim := 0) hn hV hb hx (by omega) (by omega) (fun z => absurd z (by omega))
    rw [show 12 + e + 6 * 0 = e + 5 + 1 + 6 by omega]
    exact q
  | q + 1, ar, d, hq, hd12 => by
    have ih := sp_all xs L d0 Jc Jm Xc Xm (V := V) (T := T) (n := n) (c := c) (hd := hd) (lt := lt) (nr := nr) hn hV hb hx q (ar + 1) d (by omega) hd12
    obtain ⟨e, he⟩ : ∃ e, d + 6 * q = e + 3 + 5 := ⟨d + 6 * q - 8, by omega⟩
    rw [he] at ih
    have s1 := sp_part xs L e d0 Jc Jm Xc Xm hn hV hb hx (by omega) (by omega) ih
    have s2 := sp_prod xs L (e + 4) d0 Jc Jm Xc Xm hn hV hb hx (by omega) (by omega) s1
    have s3 := sp_sum xs L (e + 5) d0 Jc Jm Xc Xm hn hV hb hx (by omega) (by omega) s2
    have s4 := sp_not xs L (e + 3) d0 Jc Jm Xc Xm hn hV hb hx (by omega) s3
    have s5 := sp_and xs L (e + 6) d0 Jc Jm Xc Xm hn hV hb hx (by omega) (by omega) s4
    have s6 := sp_exp xs L (e + 7) d0 Jc Jm Xc Xm hn hV hb hx (by omega) (by omega) (fun _ => s5)
    rw [show d + 6 * (q + 1) = e + 7 + 1 + 6 by omega, show 5 * (q + 1) + 1 = 5 * q + 1 + 1 + 1 + 1 + 1 + 1 by omega]
    exact s6
