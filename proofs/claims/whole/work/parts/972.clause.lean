/-! THE PURE PART: a clause, both sides. -/
/-- all codes of a text -/
def ycs : List (Bool × List Int32) → List Int32
  | [] => []
  | (_, l) :: r => zmcs l ++ ycs r
theorem ycs_app : ∀ (a : List (Bool × List Int32)) (bb : Bool) (l : List Int32), ycs (a ++ [(bb, l)]) = ycs a ++ zmcs l
  | [], bb, l => by
    show zmcs l ++ [] = [] ++ zmcs l
    rw [List.append_nil]
    rfl
  | (b, m) :: a, bb, l => by
    show zmcs m ++ ycs (a ++ [(bb, l)]) = zmcs m ++ ycs a ++ zmcs l
    rw [ycs_app a bb l, List.append_assoc]
theorem yfl_app : ∀ (a : List (Bool × List Int32)) (bb : Bool) (l : List Int32), yfl (a ++ [(bb, l)]) = yfl a ++ l ++ [if bb = true then -300 else -301]
  | [], bb, l => rfl
  | (b, m) :: a, bb, l => by
    show m ++ ((if b = true then -300 else -301) :: yfl (a ++ [(bb, l)])) = m ++ ((if b = true then -300 else -301) :: yfl a) ++ l ++ [if bb = true then -300 else -301]
    rw [yfl_app a bb l]
    simp only [List.append_assoc, List.cons_append]
theorem zMc_app {V : Nat → Nat → Int32} {x : Nat} {bb : Bool} {l : List Int32} : ∀ (C : List (Bool × List Int32)) (i p : Nat), zMc V x i p C → V 98 (16 * x + (i + C.length)) = (if bb = true then 0 else 1) → V 99 (16 * x + (i + C.length)) = Int32.ofNat (p + (ycs C).length) → V 100 (16 * x + (i + C.length)) = Int32.ofNat (p + (ycs C).length + (zmcs l).length) → zrow (V 101) (640 * x + (p + (ycs C).length)) (zmcs l) → p + (ycs C).length + (zmcs l).length ≤ 640 → zMc V x i p (C ++ [(bb, l)])
  | [], i, p, _, h1, h2, h3, h4, h5 => ⟨h1, h2, h3, h4, h5⟩
  | (b, m) :: C, i, p, h, h1, h2, h3, h4, h5 => by
    obtain ⟨g1, g2, g3, g4, g5⟩ := h
    have el : (ycs ((b, m) :: C)).length = (zmcs m).length + (ycs C).length := List.length_append
    have ec : ((b, m) :: C).length = C.length + 1 := List.length_cons
    rw [ec, show i + (C.length + 1) = i + 1 + C.length by omega] at h1 h2 h3
    rw [el, show p + ((zmcs m).length + (ycs C).length) = p + (zmcs m).length + (ycs C).length by omega] at h2 h3 h4 h5
    exact ⟨g1, g2, g3, g4, zMc_app C (i + 1) (p + (zmcs m).length) g5 h1 h2 h3 h4 h5⟩
theorem zMc_fr {V V' : Nat → Nat → Int32} {x : Nat} : ∀ (C : List (Bool × List Int32)) (i p : Nat), zMc V x i p C → (∀ a j, a ∈ [98, 99, 100] → j < 16 * x + (i + C.length) → V' a j = V a j) → (∀ j, j < 640 * x + (p + (ycs C).length) → V' 101 j = V 101 j) → zMc V' x i p C
  | [], i, p, h, _, _ => h
  | (b, m) :: C, i, p, h, e, f => by
    obtain ⟨g1, g2, g3, g4, g5⟩ := h
    have el : (ycs ((b, m) :: C)).length = (zmcs m).length + (ycs C).length := List.length_append
    have ec : ((b, m) :: C).length = C.length + 1 := List.length_cons
    refine ⟨?_, ?_, ?_, zrow_cg (fun j h1 h2 => ?_) g4, zMc_fr C (i + 1) (p + (zmcs m).length) g5 (fun a j ha hj => e a j ha (by omega)) (fun j hj => f j (by omega))⟩
    · rw [e 98 _ (by decide) (by omega)]
      exact g1
    · rw [e 99 _ (by decide) (by omega)]
      exact g2
    · rw [e 100 _ (by decide) (by omega)]
      exact g3
    · exact (f j (by omega)).symm
/-- the model between the clauses of text x -/
def yRS (M : Nat → Nat → Int32) (T : Nat → Int32) (n b x : Nat) (C : List (Bool × List Int32)) (lt nr : Int32) (c : Nat) : Prop := yMt M T n b ∧ M 61 65 = 0 ∧ yMK M x (ycs C) ∧ M 95 x = Int32.ofNat C.length ∧ M 96 x = lt ∧ M 97 x = nr ∧ zMc M x 0 0 C ∧ (∀ q, q ∈ C → zrp 40 0 q.2 1) ∧ C.length ≤ c ∧ c ≤ 16 ∧ 2 * (ycs C).length ≤ 3 * b
/-- only what reading text x changes has changed -/
def yfX (x : Nat) (M M' : Nat → Nat → Int32) : Prop := (∀ a, a ∉ [61, 95, 96, 97, 98, 99, 100, 101] → M' a = M a) ∧ (∀ j, j ∉ [58, 59, 60, 61, 62, 63, 64, 65, 66, 67, 68] → M' 61 j = M 61 j) ∧ (∀ a j, a ∈ [95, 96, 97] → j ≠ x → M' a j = M a j) ∧ (∀ a j, a ∈ [98, 99, 100] → j < 16 * x ∨ 16 * x + 16 ≤ j → M' a j = M a j) ∧ ∀ j, j < 640 * x ∨ 640 * x + 640 ≤ j → M' 101 j = M 101 j
theorem yfX_rfl {x : Nat} {M : Nat → Nat → Int32} : yfX x M M := ⟨fun _ _ => rfl, fun _ _ => rfl, fun _ _ _ _ => rfl, fun _ _ _ _ => rfl, fun _ _ => rfl⟩
theorem yfX_tr {x : Nat} {M M' M2 : Nat → Nat → Int32} (h : yfX x M M') (g : yfX x M' M2) : yfX x M M2 := ⟨fun a ha => (g.1 a ha).trans (h.1 a ha), fun a ha => (g.2.1 a ha).trans (h.2.1 a ha), fun a j ha hj => (g.2.2.1 a j ha hj).trans (h.2.2.1 a j ha hj), fun a j ha hj => (g.2.2.2.1 a j ha hj).trans (h.2.2.2.1 a j ha hj), fun j hj => (g.2.2.2.2 j hj).trans (h.2.2.2.2 j hj)⟩
theorem yfX_M {x k : Nat} {M M' : Nat → Nat → Int32} (h : yfM x k M M') : yfX x M M' := by
  refine ⟨fun a ha => h.1 a ?_ ?_, fun j hj => h.2.1 j (fun z => hj ?_), fun a j ha _ => ?_, fun a j ha _ => ?_, fun j hj => h.2.2 j (by omega)⟩
  · rintro rfl
    exact ha (by decide)
  · rintro rfl
    exact ha (by decide)
  · simp only [List.mem_cons, List.not_mem_nil, or_false] at z ⊢
    omega
  · simp only [List.mem_cons, List.not_mem_nil, or_false] at ha
    rw [h.1 a (by omega) (by omega)]
  · simp only [List.mem_cons, List.not_mem_nil, or_false] at ha
    rw [h.1 a (by omega) (by omega)]
theorem yfX_up {x a k : Nat} {M M' : Nat → Nat → Int32} {v : Int32} (h : yfX x M M') (hk : (a ∈ [95, 96, 97] ∧ k = x) ∨ (a ∈ [98, 99, 100] ∧ 16 * x ≤ k ∧ k < 16 * x + 16)) : yfX x M (zup M' a k v) := by
  refine yfX_tr h ⟨fun o ho => if_neg ?_, fun j _ => ?_, fun o j ho hj => ?_, fun o j ho hj => ?_, fun j _ => ?_⟩
  · rintro rfl
    simp only [List.mem_cons, List.not_mem_nil, or_false] at hk ho
    omega
  · have : 61 ≠ a := by
      simp only [List.mem_cons, List.not_mem_nil, or_false] at hk
      omega
    rw [show zup M' a k v 61 = M' 61 from if_neg this]
  · by_cases e : o = a
    · subst e
      refine zup_k ?_
      simp only [List.mem_cons, List.not_mem_nil, or_false] at hk ho
      omega
    · rw [show zup M' a k v o = M' o from if_neg e]
  · by_cases e : o = a
    · subst e
      refine zup_k ?_
      simp only [List.mem_cons, List.not_mem_nil, or_false] at hk ho
      omega
    · rw [show zup M' a k v o = M' o from if_neg e]
  · have : 101 ≠ a := by
      simp only [List.mem_cons, List.not_mem_nil, or_false] at hk
      omega
    rw [show zup M' a k v 101 = M' 101 from if_neg this]
theorem num_bad (xs : Nat → Int32) (L D : Nat) (hD : 8 ≤ D) (J : Nat → Nat → Int64) (X : XH) {M : Nat → Nat → Int32} {T : Nat → Int32} {n b : Nat} (hn : n ≤ 400) (hbn : b ≤ n) (hb : ∀ i, i < n → 0 ≤ (T i).toInt ∧ (T i).toInt ≤ 255) (h : yMt M T n b) (h0 : M 61 65 = 0) (ht : ¬ (ylx T n b).1 = 258) : ∃ v, zev xs L D 175 [.ref 61] (zmk M J X) = some (.inr (some (.int v)), zmk (ywr9 M (if (ylx T n b).1 = 259 then 2 else 1)) J X) := by
  obtain ⟨d, rfl⟩ := Nat.exists_eq_add_of_le hD
  rw [show 8 + d = d + 2 + 6 by omega]
  have w65 : ∀ k : Int32, ywr9 M k 61 65 = k := fun k => (zup_k (by decide)).trans zup_at
  have rg := ylx_rg T n b hbn
  have h60 := h.2.2.2.2.2.1
  have S := zcS (as := [.ref 61]) (S175_0 xs L (d + 2) M J X)
  rw [if_pos (decide_eq_true h0)] at S
  by_cases c : (ylx T n b).1 = 259
  · have lg := ylx_long T n b hb c
    have k2 : M 61 60 = 2 := by
      rw [h60, c]
      decide
    rw [if_pos (decide_eq_true k2), h.2.2.1, h.2.2.2.2.1, nat_sub2 (by omega) rg.2.2.1, if_neg (show ¬ decide (Int32.ofNat ((ylx T n b).2.2.2 - (ylx T n b).2.2.1) ≤ (5 : Int32)) = true from fun z => by
      have := (nat_le (b := 5) (by omega) (by omega)).mp (of_decide_eq_true z)
      omega), wrong_at xs L (d + 2 + 5) (by omega) M J X 2 h0, zcw_v, T175_2_10_683 xs L (d + 2), if_pos (decide_eq_true (show ¬ ywr9 M 2 61 65 = 0 by
      rw [w65]
      decide))] at S
    rw [if_pos c]
    exact ⟨_, S⟩
  · have k2 : ¬ M 61 60 = 2 := fun z => by
      rw [h60] at z
      unfold ykn at z
      by_cases c1 : (ylx T n b).1 = 256
      · rw [if_pos c1] at z
        exact absurd z (by decide)
      rw [if_neg c1] at z
      by_cases c2 : (ylx T n b).1 = 257
      · rw [if_pos c2] at z
        exact absurd z (by decide)
      rw [if_neg c2, if_neg (fun y => by
        rcases y with y | y
        · exact ht y
        · exact c y)] at z
      by_cases c3 : (299 : Int32) ≤ (ylx T n b).1
      · rw [if_pos c3] at z
        exact absurd z (by decide)
      · rw [if_neg c3] at z
        exact absurd z (by decide)
    rw [if_neg (fun z => k2 (of_decide_eq_true z)), wrong_at xs L (d + 2 + 5) (by omega) M J X 1 h0, zcw_v, T175_1_7_690 xs L (d + 2), if_pos (decide_eq_true (show ¬ ywr9 M 1 61 65 = 0 by
      rw [w65]
      decide))] at S
    rw [if_neg c]
    exact ⟨_, S⟩
theorem U3_exp (xs : Nat → Int32) (L d f : Nat) (I : Nat → Nat → Int32) (J : Nat → Nat → Int64) (X : XH) (a5 a4 a3 a2 v : Int32) {x i : Nat} (h95 : I 95 x = Int32.ofNat i) (hi : i < 16) (hx : x < 37) (hk : (¬ a3 = 0 ∧ v = 0) ∨ (a3 = 0 ∧ ¬ a4 = 0 ∧ v = 1)) : ∃ g, zseg (zE xs L (d + 5) 165) (zC 165) (f + 120) (zB165_3.drop 2) [(5, .int a5), (4, .int a4), (3, .int a3), (0, .ref 61), (1, .int (Int32.ofNat x)), (2, .int a2)] [] (zmk I J X) = zcw (zE xs L (d + 5) 165) (zev xs L (d + 5) 168 [.ref 61, .int (Int32.ofNat x), .int 0] (zmk (zup (zup (zup I 95 x (Int32.ofNat (i + 1))) 98 (16 * x + i) v) 99 (16 * x + i) (I 61 68)) J X)) (fun h => zseg (zE xs L (d + 5) 165) (zC 165) (g + 80) (zB165_7.drop 11) [(6, .int (Int32.ofNat (16 * x + i))), (5, .int a5), (4, .int a4), (3, .int a3), (0, .ref 61), (1, .int (Int32.ofNat x)), (2, .int a2)] [] h) := by
  have U := U165_3 xs L d (f + 60) I J X a5 a4 a3 (Int32.ofNat x) a2
  have ex : (Int32.ofNat x).toNatClampNeg = x := i32_clamp (by omega)
  have ei : (16 : Int32) * Int32.ofNat x + Int32.ofNat i = Int32.ofNat (16 * x + i) := by
    show Int32.ofNat 16 * Int32.ofNat x + Int32.ofNat i = _
    rw [nat_mul, nat_add]
  have e6 : (Int32.ofNat (16 * x + i)).toNatClampNeg = 16 * x + i := i32_clamp (by omega)
  have z1 : zix 0 37 0 (Int32.ofNat x) := zix_nat rfl (by omega) (by omega)
  have z2 : zix 0 592 0 (Int32.ofNat (16 * x + i)) := zix_nat rfl (by omega) (by omega)
  have h95' : I 95 (Int32.ofNat x).toNatClampNeg = Int32.ofNat i := by rw [ex, h95]
  rw [h95', ei] at U
  rcases hk with ⟨k1, k2⟩ | ⟨k1, k2, k3⟩
  · rw [if_pos (decide_eq_true k1), if_pos z1, if_pos z1, if_pos z1, if_neg (fun z => k1 (of_decide_eq_true z)), if_pos z2, if_pos z2, ex, e6, nat_succ] at U
    rw [k2]
    exact ⟨f + 3, U⟩
  · rw [if_neg (fun z => (of_decide_eq_true z) k1), if_neg (fun z => k2 (of_decide_eq_true z)), if_pos z1, if_pos z1, if_pos z1, if_pos (decide_eq_true k1), if_pos z2, if_pos z2, ex, e6, nat_succ] at U
    rw [k3]
    exact ⟨f, U⟩
theorem U7_exp (xs : Nat → Int32) (L d g : Nat) (I : Nat → Nat → Int32) (J : Nat → Nat → Int64) (X : XH) (a5 a4 a3 a2 : Int32) {x i : Nat} (hi : i < 16) (hx : x < 37) : zseg (zE xs L (d + 5) 165) (zC 165) (g + 80) (zB165_7.drop 11) [(6, .int (Int32.ofNat (16 * x + i))), (5, .int a5), (4, .int a4), (3, .int a3), (0, .ref 61), (1, .int (Int32.ofNat x)), (2, .int a2)] [] (zmk I J X) = zcw (zE xs L (d + 5) 165) (zev xs L (d + 5) 178 [.ref 61, .int 59] (zmk (zup I 100 (16 * x + i) (I 61 68)) J X)) (fun h => zseg (zE xs L (d + 5) 165) (zC 165) (g + 10 + 60) (zB165_9.drop 3) [(6, .int (Int32.ofNat (16 * x + i))), (5, .int a5), (4, .int a4), (3, .int a3), (0, .ref 61), (1, .int (Int32.ofNat x)), (2, .int a2)] [] h) := by
  have U := U165_7 xs L d (g + 20) I J X (Int32.ofNat (16 * x + i)) a5 a4 a3 (Int32.ofNat x) a2
  have e6 : (Int32.ofNat (16 * x + i)).toNatClampNeg = 16 * x + i := i32_clamp (by omega)
  rw [if_pos (zix_nat rfl (by omega) (by omega)), e6] at U
  exact U
theorem U3_num (xs : Nat → Int32) (L d f : Nat) (I : Nat → Nat → Int32) (J : Nat → Nat → Int64) (X : XH) (a5 a1 a2 : Int32) : zseg (zE xs L (d + 5) 165) (zC 165) (f + 120) (zB165_3.drop 2) [(5, .int a5), (4, .int 0), (3, .int 0), (0, .ref 61), (1, .int a1), (2, .int a2)] [] (zmk I J X) = zci (zE xs L (d + 5) 165) (zev xs L (d + 5) 175 [.ref 61] (zmk I J X)) (fun r h => zseg (zE xs L (d + 5) 165) (zC 165) (f + 54 + 60) (zB165_5.drop 2) [(5, .int a5), (4, .int 0), (3, .int 0), (0, .ref 61), (1, .int a1), (2, .int a2)] [.int r] h) := by
  have U := U165_3 xs L d (f + 60) I J X a5 0 0 a1 a2
  rw [if_neg (show ¬ decide (¬ (0 : Int32) = 0) = true by decide), if_pos (show decide ((0 : Int32) = 0) = true by decide)] at U
  exact U
/-- a head that reads on -/
theorem head_m (xs : Nat → Int32) (L d : Nat) (hd1 : 2 ≤ d) (J : Nat → Nat → Int64) (X : XH) {M M1 : Nat → Nat → Int32} {T : Nat → Int32} {n b : Nat} (a1 : Int32) (c j : Nat) (hj : j < 4) (hn : n ≤ 400) (hbn : b ≤ n) (hb : ∀ i, i < n → 0 ≤ (T i).toInt ∧ (T i).toInt ≤ 255) (h : yMt M T n b) (h0 : M 61 65 = 0) (hc : c < 16) (et : (ylx T n b).1 = (300 : Int32) + Int32.ofNat j) (s1 : zev xs L (d + 5) 161 [.ref 61] (zmk M J X) = some (.inr none, zmk M1 J X)) : ∃ f a5 a4 a3 : _, zev xs L (d + 6) 165 [.ref 61, .int a1, .int (Int32.ofNat c)] (zmk M J X) = zth xs L (d + 5) 165 (zseg (zE xs L (d + 5) 165) (zC 165) (f + 120) (zB165_3.drop 2) [(5, .int a5), (4, .int a4), (3, .int a3), (0, .ref 61), (1, .int a1), (2, .int (Int32.ofNat c))] [] (zmk M1 J X)) ∧ ((j = 0 ∧ ¬ a3 = (0 : Int32)) ∨ (j = 1 ∧ a3 = 0 ∧ ¬ a4 = (0 : Int32)) ∨ (j = 2 ∧ a3 = 0 ∧ a4 = 0 ∧ ¬ a5 = (0 : Int32)) ∨ (j = 3 ∧ a3 = 0 ∧ a4 = 0 ∧ a5 = 0)) := by
  have S := zcS (as := [.ref 61, .int a1, .int (Int32.ofNat c)]) (S165_0 xs L d M J X a1 (Int32.ofNat c))
  have tk := fun (i : Nat) (hi : i < 15) => is_tok xs L (d + 5) (by omega) J X i hi hn hbn hb h h0
  have c16 : decide (¬ Int32.ofNat c = (16 : Int32)) = true := decide_eq_true (fun z => by
    have := i32_nat_inj (b := 16) (by omega) (by omega) z
    omega)
  have cz := decide_eq_true h0
  have : j = 0 ∨ j = 1 ∨ j = 2 ∨ j = 3 := by omega
  rcases this with e | e | e | e
  · subst e
    have k0 := tk 0 (by decide)
    rw [show ystr 0 = 9 from rfl, if_pos et] at k0
    have k1 := tk 1 (by decide)
    rw [show ystr 1 = 10 from rfl, if_neg (by rw [et]; decide)] at k1
    have k2 := tk 2 (by decide)
    rw [show ystr 2 = 11 from rfl, if_neg (by rw [et]; decide)] at k2
    rw [k0, zci_i, T165_0_3_697 xs L d, k1, zci_i, T165_0_7_693 xs L d, k2, zci_i, T165_0_11_689 xs L d, if_pos (show decide (¬ (1 : Int32) = 0) = true by decide), if_pos c16, if_pos cz, s1, zcw_v] at S
    exact ⟨558, 0, 0, 1, S, Or.inl ⟨rfl, by decide⟩⟩
  · subst e
    have k0 := tk 0 (by decide)
    rw [show ystr 0 = 9 from rfl, if_neg (by rw [et]; decide)] at k0
    have k1 := tk 1 (by decide)
    rw [show ystr 1 = 10 from rfl, if_pos et] at k1
    have k2 := tk 2 (by decide)
    rw [show ystr 2 = 11 from rfl, if_neg (by rw [et]; decide)] at k2
    rw [k0, zci_i, T165_0_3_697 xs L d, k1, zci_i, T165_0_7_693 xs L d, k2, zci_i, T165_0_11_689 xs L d, if_neg (show ¬ decide (¬ (0 : Int32) = 0) = true by decide), if_pos (show decide (¬ (1 : Int32) = 0) = true by decide), if_pos c16, if_pos cz, s1, zcw_v] at S
    exact ⟨556, 0, 1, 0, S, Or.inr (Or.inl ⟨rfl, rfl, by decide⟩)⟩
  · subst e
    have k0 := tk 0 (by decide)
    rw [show ystr 0 = 9 from rfl, if_neg (by rw [et]; decide)] at k0
    have k1 := tk 1 (by decide)
    rw [show ystr 1 = 10 from rfl, if_neg (by rw [et]; decide)] at k1
    have k2 := tk 2 (by decide)
    rw [show ystr 2 = 11 from rfl, if_pos et] at k2
    rw [k0, zci_i, T165_0_3_697 xs L d, k1, zci_i, T165_0_7_693 xs L d, k2, zci_i, T165_0_11_689 xs L d, if_neg (show ¬ decide (¬ (0 : Int32) = 0) = true by decide), if_neg (show ¬ decide (¬ (0 : Int32) = 0) = true by decide), if_pos (show decide (¬ (1 : Int32) = 0) = true by decide), if_pos c16, if_pos cz, s1, zcw_v] at S
    exact ⟨554, 1, 0, 0, S, Or.inr (Or.inr (Or.inl ⟨rfl, rfl, rfl, by decide⟩))⟩
  · subst e
    have k0 := tk 0 (by decide)
    rw [show ystr 0 = 9 from rfl, if_neg (by rw [et]; decide)] at k0
    have k1 := tk 1 (by decide)
    rw [show ystr 1 = 10 from rfl, if_neg (by rw [et]; decide)] at k1
    have k2 := tk 2 (by decide)
    rw [show ystr 2 = 11 from rfl, if_neg (by rw [et]; decide)] at k2
    have k3 := tk 3 (by decide)
    rw [show ystr 3 = 12 from rfl, if_pos et] at k3
    rw [k0, zci_i, T165_0_3_697 xs L d, k1, zci_i, T165_0_7_693 xs L d, k2, zci_i, T165_0_11_689 xs L d, if_neg (show ¬ decide (¬ (0 : Int32) = 0) = true by decide), if_neg (show ¬ decide (¬ (0 : Int32) = 0) = true by decide), if_neg (show ¬ decide (¬ (0 : Int32) = 0) = true by decide), k3, zci_i, T165_0_21_679 xs L d, if_pos (show decide (¬ (1 : Int32) = 0) = true by decide), if_pos c16, if_pos cz, s1, zcw_v] at S
    exact ⟨550, 0, 0, 0, S, Or.inr (Or.inr (Or.inr ⟨rfl, rfl, rfl, rfl⟩))⟩
/-- a head one too many -/
theorem head_16 (xs : Nat → Int32) (L d : Nat) (hd1 : 2 ≤ d) (J : Nat → Nat → Int64) (X : XH) {M : Nat → Nat → Int32} {T : Nat → Int32} {n b : Nat} (a1 : Int32) (c j : Nat) (hj : j < 4) (hn : n ≤ 400) (hbn : b ≤ n) (hb : ∀ i, i < n → 0 ≤ (T i).toInt ∧ (T i).toInt ≤ 255) (h : yMt M T n b) (h0 : M 61 65 = 0) (hc : c = 16) (et : (ylx T n b).1 = (300 : Int32) + Int32.ofNat j) : zev xs L (d + 6) 165 [.ref 61, .int a1, .int (Int32.ofNat c)] (zmk M J X) = some (.inr none, zmk (ywr9 M 2) J X) := by
  have S := zcS (as := [.ref 61, .int a1, .int (Int32.ofNat c)]) (S165_0 xs L d M J X a1 (Int32.ofNat c))
  have tk := fun (i : Nat) (hi : i < 15) => is_tok xs L (d + 5) (by omega) J X i hi hn hbn hb h h0
  have c16 : ¬ decide (¬ Int32.ofNat c = (16 : Int32)) = true := fun z => (of_decide_eq_true z) (by rw [hc]; rfl)
  have cz : ¬ decide (ywr9 M 2 61 65 = 0) = true := fun z => by
    have z := of_decide_eq_true z
    rw [show ywr9 M 2 61 65 = 2 from (zup_k (by decide)).trans zup_at] at z
    exact absurd z (by decide)
  have wr := wrong_at xs L (d + 5) (by omega) M J X 2 h0
  have : j = 0 ∨ j = 1 ∨ j = 2 ∨ j = 3 := by omega
  rcases this with e | e | e | e
  · subst e
    have k0 := tk 0 (by decide)
    rw [show ystr 0 = 9 from rfl, if_pos et] at k0
    have k1 := tk 1 (by decide)
    rw [show ystr 1 = 10 from rfl, if_neg (by rw [et]; decide)] at k1
    have k2 := tk 2 (by decide)
    rw [show ystr 2 = 11 from rfl, if_neg (by rw [et]; decide)] at k2
    rw [k0, zci_i, T165_0_3_697 xs L d, k1, zci_i, T165_0_7_693 xs L d, k2, zci_i, T165_0_11_689 xs L d, if_pos (show decide (¬ (1 : Int32) = 0) = true by decide), if_neg c16, wr, zcw_v, T165_1_6_680 xs L d, if_neg cz] at S
    exact S
  · subst e
    have k0 := tk 0 (by decide)
    rw [show ystr 0 = 9 from rfl, if_neg (by rw [et]; decide)] at k0
    have k1 := tk 1 (by decide)
    rw [show ystr 1 = 10 from rfl, if_pos et] at k1
    have k2 := tk 2 (by decide)
    rw [show ystr 2 = 11 from rfl, if_neg (by rw [et]; decide)] at k2
    rw [k0, zci_i, T165_0_3_697 xs L d, k1, zci_i, T165_0_7_693 xs L d, k2, zci_i, T165_0_11_689 xs L d, if_neg (show ¬ decide (¬ (0 : Int32) = 0) = true by decide), if_pos (show decide (¬ (1 : Int32) = 0) = true by decide), if_neg c16, wr, zcw_v, T165_1_6_678 xs L d, if_neg cz] at S
    exact S
  · subst e
    have k0 := tk 0 (by decide)
    rw [show ystr 0 = 9 from rfl, if_neg (by rw [et]; decide)] at k0
    have k1 := tk 1 (by decide)
    rw [show ystr 1 = 10 from rfl, if_neg (by rw [et]; decide)] at k1
    have k2 := tk 2 (by decide)
    rw [show ystr 2 = 11 from rfl, if_pos et] at k2
    rw [k0, zci_i, T165_0_3_697 xs L d, k1, zci_i, T165_0_7_693 xs L d, k2, zci_i, T165_0_11_689 xs L d, if_neg (show ¬ decide (¬ (0 : Int32) = 0) = true by decide), if_neg (show ¬ decide (¬ (0 : Int32) = 0) = true by decide), if_pos (show decide (¬ (1 : Int32) = 0) = true by decide), if_neg c16, wr, zcw_v, T165_1_6_676 xs L d, if_neg cz] at S
    exact S
  · subst e
    have k0 := tk 0 (by decide)
    rw [show ystr 0 = 9 from rfl, if_neg (by rw [et]; decide)] at k0
    have k1 := tk 1 (by decide)
    rw [show ystr 1 = 10 from rfl, if_neg (by rw [et]; decide)] at k1
    have k2 := tk 2 (by decide)
    rw [show ystr 2 = 11 from rfl, if_neg (by rw [et]; decide)] at k2
    have k3 := tk 3 (by decide)
    rw [show ystr 3 = 12 from rfl, if_pos et] at k3
    rw [k0, zci_i, T165_0_3_697 xs L d, k1, zci_i, T165_0_7_693 xs L d, k2, zci_i, T165_0_11_689 xs L d, if_neg (show ¬ decide (¬ (0 : Int32) = 0) = true by decide), if_neg (show ¬ decide (¬ (0 : Int32) = 0) = true by decide), if_neg (show ¬ decide (¬ (0 : Int32) = 0) = true by decide), k3, zci_i, T165_0_21_679 xs L d, if_pos (show decide (¬ (1 : Int32) = 0) = true by decide), if_neg c16, wr, zcw_v, T165_1_6_672 xs L d, if_neg cz] at S
    exact S
/-- no head -/
theorem head_no (xs : Nat → Int32) (L d : Nat) (hd1 : 2 ≤ d) (J : Nat → Nat → Int64) (X : XH) {M : Nat → Nat → Int32} {T : Nat → Int32} {n b : Nat} (a1 a2 : Int32) (hn : n ≤ 400) (hbn : b ≤ n) (hb : ∀ i, i < n → 0 ≤ (T i).toInt ∧ (T i).toInt ≤ 255) (h : yMt M T n b) (h0 : M 61 65 = 0) (et : ¬ (300 ≤ (ylx T n b).1.toInt ∧ (ylx T n b).1.toInt ≤ 303)) : zev xs L (d + 6) 165 [.ref 61, .int a1, .int a2] (zmk M J X) = some (.inr none, zmk (ywr9 M 1) J X) := by
  have S := zcS (as := [.ref 61, .int a1, .int a2]) (S165_0 xs L d M J X a1 a2)
  have tk := fun (i : Nat) (hi : i < 15) => is_tok xs L (d + 5) (by omega) J X i hi hn hbn hb h h0
  have cz : ¬ decide (ywr9 M 1 61 65 = 0) = true := fun z => by
    have z := of_decide_eq_true z
    rw [show ywr9 M 1 61 65 = 1 from (zup_k (by decide)).trans zup_at] at z
    exact absurd z (by decide)
  have wr := wrong_at xs L (d + 5) (by omega) M J X 1 h0
  have ne : ∀ i, i < 4 → ¬ (ylx T n b).1 = (300 : Int32) + Int32.ofNat i := fun i hi z => et (by
    rw [z]
    have : ∀ i, i < 4 → 300 ≤ ((300 : Int32) + Int32.ofNat i).toInt ∧ ((300 : Int32) + Int32.ofNat i).toInt ≤ 303 := by decide +kernel
    exact this i hi)
  have k0 := tk 0 (by decide)
  rw [show ystr 0 = 9 from rfl, if_neg (ne 0 (by decide))] at k0
  have k1 := tk 1 (by decide)
  rw [show ystr 1 = 10 from rfl, if_neg (ne 1 (by decide))] at k1
  have k2 := tk 2 (by decide)
  rw [show ystr 2 = 11 from rfl, if_neg (ne 2 (by decide))] at k2
  have k3 := tk 3 (by decide)
  rw [show ystr 3 = 12 from rfl, if_neg (ne 3 (by decide))] at k3
  rw [k0, zci_i, T165_0_3_697 xs L d, k1, zci_i, T165_0_7_693 xs L d, k2, zci_i, T165_0_11_689 xs L d, if_neg (show ¬ decide (¬ (0 : Int32) = 0) = true by decide), if_neg (show ¬ decide (¬ (0 : Int32) = 0) = true by decide), if_neg (show ¬ decide (¬ (0 : Int32) = 0) = true by decide), k3, zci_i, T165_0_21_679 xs L d, if_neg (show ¬ decide (¬ (0 : Int32) = 0) = true by decide), wr, zcw_v, T165_0_25_675 xs L d, if_neg cz] at S
  exact S
