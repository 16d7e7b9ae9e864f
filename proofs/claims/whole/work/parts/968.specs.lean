/-! THE PURE PART: the levels of an expression, one on the other. -/
/-- what a level promises, wherever it is called -/
def ySp (xs : Nat → Int32) (L D m d0 : Nat) (Jc Jm : Nat → Nat → Int64) (Xc Xm : XH) (V : Nat → Nat → Int32) (T : Nat → Int32) (n c : Nat) (hd lt nr : Int32) (x ar : Nat) (ρ : Int32) (lim : Nat) (pre : List Int32 → Int32 → Int32 → Nat → (Nat → Bool) → Prop) (post : (Nat → Bool) → Int32 → (Nat → Bool) → Prop) : Prop := ∀ (M : Nat → Nat → Int32) (b : Nat) (K u w : List Int32) (mn : Int32) (ns : Nat) (cm : Nat → Bool), b ≤ n → yMt M T n b → M 61 65 = 0 → yMK M x K → 2 * (K.length + ypn w) ≤ 3 * b → pre w (ylx T n b).1 mn ns cm → yLv xs L D m d0 Jc Jm Xc Xm V T n c hd lt nr x ar M b K u w mn ns cm ρ lim (post cm)
def yPreE (r : Int32) (ar : Nat) (w : List Int32) (_ : Int32) (mn : Int32) (ns : Nat) (cm : Nat → Bool) : Prop := ytop r w ∧ mn = 1 ∧ ns = 0 ∧ cm ar = false
def yPreP (r : Int32) (w : List Int32) (t : Int32) (mn : Int32) (_ : Nat) (_ : Nat → Bool) : Prop := ytop r w ∧ ¬ (t = 306 ∧ ¬ mn = 0)
theorem sgn_tok {M : Nat → Nat → Int32} {T : Nat → Int32} {n b : Nat} (k : Int32) (hk : ykn k = 3) (h : yMt M T n b) (h0 : M 61 65 = 0) : (M 61 65 = 0 ∧ M 61 60 = 3 ∧ M 61 61 = k) ↔ (ylx T n b).1 = k := by
  have h60 := h.2.2.2.2.2.1
  refine ⟨fun z => (h.2.2.2.2.2.2.1 (h60.symm.trans z.2.1)).symm.trans z.2.2, fun z => ?_⟩
  have k3 : M 61 60 = 3 := by rw [h60, z, hk]
  exact ⟨h0, k3, (h.2.2.2.2.2.2.1 (h60.symm.trans k3)).trans z⟩
theorem sgn_t {M : Nat → Nat → Int32} {T : Nat → Int32} {n b : Nat} {k : Int32} (hk : ykn k = 3) (h : yMt M T n b) (h0 : M 61 65 = 0) (ht : (ylx T n b).1 = k) : ¬ zbi (M 61 65 = 0 ∧ M 61 60 = 3 ∧ M 61 61 = k) = 0 := fun z => (zbi_eq0.mp z) ((sgn_tok k hk h h0).mpr ht)
theorem sgn_f {M : Nat → Nat → Int32} {T : Nat → Int32} {n b : Nat} {k : Int32} (hk : ykn k = 3) (h : yMt M T n b) (h0 : M 61 65 = 0) (ht : ¬ (ylx T n b).1 = k) : zbi (M 61 65 = 0 ∧ M 61 60 = 3 ∧ M 61 61 = k) = 0 := zbi_eq0.mpr (fun z => ht ((sgn_tok k hk h h0).mp z))
theorem zrank_tab (t : Int32) : (t = 42 ∨ t = 47) ∧ zrank t = 6 ∨ (t = 43 ∨ t = 45) ∧ zrank t = 5 ∨ (t = 60 ∨ t = 61) ∧ zrank t = 4 ∨ t = 304 ∧ zrank t = 2 ∨ t = 305 ∧ zrank t = 1 ∨ t = 306 ∧ zrank t = 3 ∨ zrank t = 0 ∧ ¬ (t = 42 ∨ t = 43 ∨ t = 45 ∨ t = 47 ∨ t = 60 ∨ t = 61 ∨ t = 304 ∨ t = 305 ∨ t = 306) := by
  by_cases c1 : t = 42
  · subst c1; decide
  by_cases c2 : t = 43
  · subst c2; decide
  by_cases c3 : t = 45
  · subst c3; decide
  by_cases c4 : t = 47
  · subst c4; decide
  by_cases c5 : t = 60
  · subst c5; decide
  by_cases c6 : t = 61
  · subst c6; decide
  by_cases c7 : t = 304
  · subst c7; decide
  by_cases c8 : t = 305
  · subst c8; decide
  by_cases c9 : t = 306
  · subst c9; decide
  refine Or.inr (Or.inr (Or.inr (Or.inr (Or.inr (Or.inr ⟨?_, fun z => ?_⟩)))))
  · unfold zrank
    rw [if_neg c1, if_neg c2, if_neg c3, if_neg c4, if_neg c5, if_neg c6, if_neg c7, if_neg c8, if_neg c9]
  · rcases z with z | z | z | z | z | z | z | z | z
    · exact c1 z
    · exact c2 z
    · exact c3 z
    · exact c4 z
    · exact c5 z
    · exact c6 z
    · exact c7 z
    · exact c8 z
    · exact c9 z
theorem zrank_k (t k : Int32) (h : zrank t = k) (k0 : ¬ k = 0) : (k = 6 ∧ (t = 42 ∨ t = 47)) ∨ (k = 5 ∧ (t = 43 ∨ t = 45)) ∨ (k = 4 ∧ (t = 60 ∨ t = 61)) ∨ (k = 2 ∧ t = 304) ∨ (k = 1 ∧ t = 305) ∨ (k = 3 ∧ t = 306) := by
  rcases zrank_tab t with ⟨a, b⟩ | ⟨a, b⟩ | ⟨a, b⟩ | ⟨a, b⟩ | ⟨a, b⟩ | ⟨a, b⟩ | ⟨a, b⟩
  · exact Or.inl ⟨h.symm.trans b, a⟩
  · exact Or.inr (Or.inl ⟨h.symm.trans b, a⟩)
  · exact Or.inr (Or.inr (Or.inl ⟨h.symm.trans b, a⟩))
  · exact Or.inr (Or.inr (Or.inr (Or.inl ⟨h.symm.trans b, a⟩)))
  · exact Or.inr (Or.inr (Or.inr (Or.inr (Or.inl ⟨h.symm.trans b, a⟩))))
  · exact Or.inr (Or.inr (Or.inr (Or.inr (Or.inr ⟨h.symm.trans b, a⟩))))
  · exact absurd (h.symm.trans a) k0
theorem zrank_6 {t : Int32} (h : zrank t = 6) : t = 42 ∨ t = 47 := by
  rcases zrank_k t 6 h (by decide) with ⟨_, a⟩ | ⟨a, _⟩ | ⟨a, _⟩ | ⟨a, _⟩ | ⟨a, _⟩ | ⟨a, _⟩
  · exact a
  all_goals exact absurd a (by decide)
theorem zrank_5 {t : Int32} (h : zrank t = 5) : t = 43 ∨ t = 45 := by
  rcases zrank_k t 5 h (by decide) with ⟨a, _⟩ | ⟨_, a⟩ | ⟨a, _⟩ | ⟨a, _⟩ | ⟨a, _⟩ | ⟨a, _⟩
  · exact absurd a (by decide)
  · exact a
  all_goals exact absurd a (by decide)
theorem zrank_4 {t : Int32} (h : zrank t = 4) : t = 60 ∨ t = 61 := by
  rcases zrank_k t 4 h (by decide) with ⟨a, _⟩ | ⟨a, _⟩ | ⟨_, a⟩ | ⟨a, _⟩ | ⟨a, _⟩ | ⟨a, _⟩
  · exact absurd a (by decide)
  · exact absurd a (by decide)
  · exact a
  all_goals exact absurd a (by decide)
theorem zrank_2 {t : Int32} (h : zrank t = 2) : t = 304 := by
  rcases zrank_k t 2 h (by decide) with ⟨a, _⟩ | ⟨a, _⟩ | ⟨a, _⟩ | ⟨_, a⟩ | ⟨a, _⟩ | ⟨a, _⟩
  · exact absurd a (by decide)
  · exact absurd a (by decide)
  · exact absurd a (by decide)
  · exact a
  all_goals exact absurd a (by decide)
theorem zrank_1 {t : Int32} (h : zrank t = 1) : t = 305 := by
  rcases zrank_k t 1 h (by decide) with ⟨a, _⟩ | ⟨a, _⟩ | ⟨a, _⟩ | ⟨a, _⟩ | ⟨_, a⟩ | ⟨a, _⟩
  · exact absurd a (by decide)
  · exact absurd a (by decide)
  · exact absurd a (by decide)
  · exact absurd a (by decide)
  · exact a
  · exact absurd a (by decide)
theorem sp_part (xs : Nat → Int32) (L d d0 : Nat) (Jc Jm : Nat → Nat → Int64) (Xc Xm : XH) {V : Nat → Nat → Int32} {T : Nat → Int32} {n c : Nat} {hd lt nr : Int32} {x ar : Nat} {lim : Nat} (hn : n ≤ 400) (hV : V 36 = T) (hb : ∀ i, i < n → 0 ≤ (T i).toInt ∧ (T i).toInt ≤ 255) (hx : x < 37) (har : ar < 6) (hl : 1 ≤ lim) (hE : ySp xs L (d + 3 + 5) 168 d0 Jc Jm Xc Xm V T n c hd lt nr x (ar + 1) 1 lim (yPreE 1 (ar + 1)) (fun _ => yEnd (ar + 1))) : ySp xs L (d + 3 + 6) 174 d0 Jc Jm Xc Xm V T n c hd lt nr x ar 7 lim (fun _ t mn _ _ => ¬ (t = 306 ∧ ¬ mn = 0)) (fun cm _ cm' => cm' ar = cm ar) := by
  intro M b K u w mn ns cm hbn h h0 hMK hK hp
  by_cases c : (ylx T n b).1 = 40
  · exact lv_paren xs L d d0 Jc Jm Xc Xm hn hV hbn hb har h h0 hMK hK c (fun M1 b1 u1 w1 cm1 g1 g2 g3 g4 g5 g6 g7 => hE M1 b1 K u1 w1 1 0 cm1 g1 g2 g3 g4 g5 ⟨g6, rfl, rfl, g7⟩)
  · exact yLv_post (lv_leaf xs L (d + 3 + 6) d0 (by omega) Jc Jm Xc Xm hn hV hbn hb hx har h h0 hMK hK c hp) hl (fun _ cm' e => by rw [e])
theorem sp_prod (xs : Nat → Int32) (L d d0 : Nat) (Jc Jm : Nat → Nat → Int64) (Xc Xm : XH) {V : Nat → Nat → Int32} {T : Nat → Int32} {n c : Nat} {hd lt nr : Int32} {x ar : Nat} {lim : Nat} (hn : n ≤ 400) (hV : V 36 = T) (hb : ∀ i, i < n → 0 ≤ (T i).toInt ∧ (T i).toInt ≤ 255) (hx : x < 37) (har : ar < 6) (hd2 : 2 ≤ d) (hP : ySp xs L (d + 5) 174 d0 Jc Jm Xc Xm V T n c hd lt nr x ar 7 lim (fun _ t mn _ _ => ¬ (t = 306 ∧ ¬ mn = 0)) (fun cm _ cm' => cm' ar = cm ar)) : ySp xs L (d + 6) 173 d0 Jc Jm Xc Xm V T n c hd lt nr x ar 6 (lim + 1) (yPreP 6) (fun cm t cm' => cm' ar = cm ar ∧ ¬ zrank t = 6) := by
  intro M b K u w mn ns cm hbn h h0 hMK hK hp
  refine lv_level xs L (d + 5) d0 Jc Jm Xc Xm 173 174 6 7 lim (fun _ cm' => cm' ar = cm ar) (fun M2 => zgo xs L (d + 5) 173 2 [(0, .ref 61), (1, .int (Int32.ofNat x)), (2, .int (Int32.ofNat ar))] (zmk M2 Jm Xm)) K u w hn hV hb hx (by omega) (by omega) (by decide) (by decide) (by decide) (by decide) hp.1 (fun M2 k => prod_no2 xs L d M2 Jm Xm _ _ k) (fun M2 b2 k1 k2 k3 k4 => ?_) (fun M2 b2 k1 k2 k3 k4 M3 M4 M5 s1 s2 s3 => ?_) (fun M1 b1 K1 u1 t ns1 cm1 k1 k2 k3 k4 k5 k6 k7 k8 => ?_) (fun M2 k => ?_) (hP M b K u w mn ns cm hbn h h0 hMK hK hp.2)
  · have n1 : ¬ (ylx T n b2).1 = 42 := fun z => k4 (by rw [z]; decide)
    have n2 : ¬ (ylx T n b2).1 = 47 := fun z => k4 (by rw [z]; decide)
    show zgo xs L (d + 5) 173 2 _ _ = _
    rw [zgo_q, S173_2 xs L d, if_neg (fun z => (of_decide_eq_true z) (sgn_f (by decide) k2 k3 n1)), if_pos (decide_eq_true (sgn_f (by decide) k2 k3 n2))]
    rfl
  · show zgo xs L (d + 5) 173 2 _ _ = zgo xs L (d + 5) 173 2 _ _
    rcases zrank_6 k4 with e | e
    · have z1 := sgn_t (by decide) k2 k3 e
      have ec : zmo (-(ylx T n b2).1) = 3 := by rw [e]; decide
      rw [ec] at s3
      rw [zgo_q, S173_2 xs L d, if_pos (decide_eq_true z1), if_neg (fun z => z1 (of_decide_eq_true z)), s1, zcw_v, T173_6_3_687 xs L d, s2, zcw_v, T173_6_7_683 xs L d, s3, zcw_v, T173_6_11_679 xs L d, zth_go]
    · have z1 := sgn_t (by decide) k2 k3 e
      have z2 : zbi (M2 61 65 = 0 ∧ M2 61 60 = 3 ∧ M2 61 61 = 42) = 0 := sgn_f (by decide) k2 k3 (by rw [e]; decide)
      have ec : zmo (-(ylx T n b2).1) = 4 := by rw [e]; decide
      rw [ec] at s3
      rw [zgo_q, S173_2 xs L d, if_neg (fun z => (of_decide_eq_true z) z2), if_neg (fun z => z1 (of_decide_eq_true z)), if_pos (decide_eq_true z2), s1, zcw_v, T173_6_3_682 xs L d, s2, zcw_v, T173_6_7_678 xs L d, s3, zcw_v, T173_6_11_674 xs L d, zth_go]
  · obtain ⟨t', cm', e1, e2⟩ := k7
    have e3 : cm1 ar = cm ar := by
      rw [e2, show yjc 6 ar cm' = cm' from rfl]
      exact e1
    exact yLv_post (hP M1 b1 K1 u1 (t :: w) (yjm 6) ns1 cm1 k2 k3 k4 k5 k6 (fun z => z.2 (by decide))) (Nat.le_refl _) (fun _ cm2 q => q.trans e3)
  · refine (zcS (S173_0 xs L d M Jm Xm _ _)).trans ?_
    rw [k, zcw_v, T173_0_4_696 xs L d, zth_go]
theorem sp_sum (xs : Nat → Int32) (L d d0 : Nat) (Jc Jm : Nat → Nat → Int64) (Xc Xm : XH) {V : Nat → Nat → Int32} {T : Nat → Int32} {n c : Nat} {hd lt nr : Int32} {x ar : Nat} {lim : Nat} (hn : n ≤ 400) (hV : V 36 = T) (hb : ∀ i, i < n → 0 ≤ (T i).toInt ∧ (T i).toInt ≤ 255) (hx : x < 37) (har : ar < 6) (hd2 : 2 ≤ d) (hP : ySp xs L (d + 5) 173 d0 Jc Jm Xc Xm V T n c hd lt nr x ar 6 lim (yPreP 6) (fun cm t cm' => cm' ar = cm ar ∧ ¬ zrank t = 6)) : ySp xs L (d + 6) 172 d0 Jc Jm Xc Xm V T n c hd lt nr x ar 5 (lim + 1) (yPreP 5) (fun cm t cm' => (cm' ar = cm ar ∧ ¬ zrank t = 6) ∧ ¬ zrank t = 5) := by
  intro M b K u w mn ns cm hbn h h0 hMK hK hp
  refine lv_level xs L (d + 5) d0 Jc Jm Xc Xm 172 173 5 6 lim (fun t cm' => cm' ar = cm ar ∧ ¬ zrank t = 6) (fun M2 => zgo xs L (d + 5) 172 2 [(0, .ref 61), (1, .int (Int32.ofNat x)), (2, .int (Int32.ofNat ar))] (zmk M2 Jm Xm)) K u w hn hV hb hx (by omega) (by omega) (by decide) (by decide) (by decide) (by decide) hp.1 (fun M2 k => sum_no2 xs L d M2 Jm Xm _ _ k) (fun M2 b2 k1 k2 k3 k4 => ?_) (fun M2 b2 k1 k2 k3 k4 M3 M4 M5 s1 s2 s3 => ?_) (fun M1 b1 K1 u1 t ns1 cm1 k1 k2 k3 k4 k5 k6 k7 k8 => ?_) (fun M2 k => ?_) (hP M b K u w mn ns cm hbn h h0 hMK hK ⟨ytop_mono hp.1 (by decide), hp.2⟩)
  · have n1 : ¬ (ylx T n b2).1 = 43 := fun z => k4 (by rw [z]; decide)
    have n2 : ¬ (ylx T n b2).1 = 45 := fun z => k4 (by rw [z]; decide)
    show zgo xs L (d + 5) 172 2 _ _ = _
    rw [zgo_q, S172_2 xs L d, if_neg (fun z => (of_decide_eq_true z) (sgn_f (by decide) k2 k3 n1)), if_pos (decide_eq_true (sgn_f (by decide) k2 k3 n2))]
    rfl
  · show zgo xs L (d + 5) 172 2 _ _ = zgo xs L (d + 5) 172 2 _ _
    rcases zrank_5 k4 with e | e
    · have z1 := sgn_t (by decide) k2 k3 e
      have ec : zmo (-(ylx T n b2).1) = 1 := by rw [e]; decide
      rw [ec] at s3
      rw [zgo_q, S172_2 xs L d, if_pos (decide_eq_true z1), if_neg (fun z => z1 (of_decide_eq_true z)), s1, zcw_v, T172_6_3_687 xs L d, s2, zcw_v, T172_6_7_683 xs L d, s3, zcw_v, T172_6_11_679 xs L d, zth_go]
    · have z1 := sgn_t (by decide) k2 k3 e
      have z2 : zbi (M2 61 65 = 0 ∧ M2 61 60 = 3 ∧ M2 61 61 = 43) = 0 := sgn_f (by decide) k2 k3 (by rw [e]; decide)
      have ec : zmo (-(ylx T n b2).1) = 2 := by rw [e]; decide
      rw [ec] at s3
      rw [zgo_q, S172_2 xs L d, if_neg (fun z => (of_decide_eq_true z) z2), if_neg (fun z => z1 (of_decide_eq_true z)), if_pos (decide_eq_true z2), s1, zcw_v, T172_6_3_682 xs L d, s2, zcw_v, T172_6_7_678 xs L d, s3, zcw_v, T172_6_11_674 xs L d, zth_go]
  · obtain ⟨t', cm', e1, e2⟩ := k7
    have e3 : cm1 ar = cm ar := by
      rw [e2, show yjc 5 ar cm' = cm' from rfl]
      exact e1.1
    refine yLv_post (hP M1 b1 K1 u1 (t :: w) (yjm 5) ns1 cm1 k2 k3 k4 k5 k6 ⟨?_, fun z => z.2 (by decide)⟩) (Nat.le_refl _) (fun _ cm2 q => ⟨q.1.trans e3, q.2⟩)
    show zrank t < 6
    rw [k1]
    decide
  · refine (zcS (S172_0 xs L d M Jm Xm _ _)).trans ?_
    rw [k, zcw_v, T172_0_4_696 xs L d, zth_go]
