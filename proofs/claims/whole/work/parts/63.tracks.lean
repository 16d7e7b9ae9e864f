/-! THE PURE PART: the model lays down a track. -/
def yr3 (M : Nat → Nat → Int32) : Nat → List ZP → Prop
  | _, [] => True
  | i, x :: l => (M 112 i = Int32.ofNat x.1 ∧ M 113 i = x.2.1 ∧ M 114 i = x.2.2.1) ∧ yr3 M (i + 1) l
def yhas (M : Nat → Nat → Int32) (l : List ZP) : Prop := M 61 76 = Int32.ofNat l.length ∧ yr3 M 0 l
theorem yr3_app {M : Nat → Nat → Int32} : ∀ {l r : List ZP} {i : Nat}, yr3 M i (l ++ r) ↔ yr3 M i l ∧ yr3 M (i + l.length) r
  | [], r, i => ⟨fun h => ⟨trivial, h⟩, fun h => h.2⟩
  | x :: l, r, i => by
    have ih := yr3_app (M := M) (l := l) (r := r) (i := i + 1)
    have e : i + (x :: l).length = i + 1 + l.length := by
      rw [List.length_cons]
      omega
    rw [e]
    exact ⟨fun h => ⟨⟨h.1, (ih.mp h.2).1⟩, (ih.mp h.2).2⟩, fun h => ⟨h.1.1, ih.mpr ⟨h.1.2, h.2⟩⟩⟩
theorem yr3_cg {M N : Nat → Nat → Int32} : ∀ {l : List ZP} {i : Nat}, (∀ j, i ≤ j → j < i + l.length → N 112 j = M 112 j ∧ N 113 j = M 113 j ∧ N 114 j = M 114 j) → yr3 M i l → yr3 N i l
  | [], _, _, _ => trivial
  | x :: l, i, h, a => by
    have h1 : (x :: l).length = l.length + 1 := List.length_cons
    obtain ⟨g1, g2, g3⟩ := h i (Nat.le_refl i) (by omega)
    exact ⟨⟨g1.trans a.1.1, g2.trans a.1.2.1, g3.trans a.1.2.2⟩, yr3_cg (fun j h2 h3 => h j (by omega) (by omega)) a.2⟩
theorem zup_o {I : Nat → Nat → Int32} {a b k : Nat} {v : Int32} (h : b ≠ a) : zup I a k v b = I b := if_neg h
theorem zup_k {I : Nat → Nat → Int32} {a k j : Nat} {v : Int32} (h : j ≠ k) : zup I a k v a j = I a j := by
  unfold zup
  rw [if_pos rfl, if_neg h]
theorem add_eq (xs : Nat → Int32) (L D : Nat) (hD : 6 ≤ D) (M : Nat → Nat → Int32) (J : Nat → Nat → Int64) (X : XH) (l : List ZP) (x : ZP) (hl : l.length < 8000) (h : yhas M l) : ∃ M', zev xs L D 192 [.ref 61, .int (Int32.ofNat x.1), .int x.2.1, .int x.2.2.1] (zmk M J X) = some (.inr none, zmk M' J X) ∧ yhas M' (l ++ [x]) ∧ zfr8 [112, 113, 114] [76] M M' := by
  obtain ⟨d, rfl⟩ := Nat.exists_eq_add_of_le hD
  rw [Nat.add_comm 6 d]
  have z8 : zix 0 8000 0 (Int32.ofNat l.length) := zix_nat rfl hl (by omega)
  have S := zcS (as := [.ref 61, .int (Int32.ofNat x.1), .int x.2.1, .int x.2.2.1]) (S192_0 xs L d M J X (Int32.ofNat x.1) x.2.1 x.2.2.1)
  rw [h.1, if_pos z8, if_pos z8, if_pos z8, i32_clamp (n := l.length) (by omega), nat_succ] at S
  refine ⟨_, S, ⟨?_, yr3_app.mpr ⟨yr3_cg (fun j _ h3 => ⟨?_, ?_, ?_⟩) h.2, ⟨?_, ?_, ?_⟩, trivial⟩⟩, ?_⟩
  · rw [List.length_append]
    rfl
  · show zup M 112 l.length (Int32.ofNat x.1) 112 j = M 112 j
    exact zup_k (by omega)
  · show zup M 113 l.length x.2.1 113 j = M 113 j
    exact zup_k (by omega)
  · show zup M 114 l.length x.2.2.1 114 j = M 114 j
    exact zup_k (by omega)
  · show zup M 112 l.length (Int32.ofNat x.1) 112 (0 + l.length) = _
    rw [Nat.zero_add]
    exact zup_at
  · show zup M 113 l.length x.2.1 113 (0 + l.length) = _
    rw [Nat.zero_add]
    exact zup_at
  · show zup M 114 l.length x.2.2.1 114 (0 + l.length) = _
    rw [Nat.zero_add]
    exact zup_at
  · exact zfr8_m (zfr8_up (zfr8_up (zfr8_up zfr8_rfl (by decide) (by decide)) (by decide) (by decide)) (by decide) (by decide)) (by decide)
theorem nextRoad_D (xs : Nat → Int32) (L D : Nat) (hD : 6 ≤ D) (I : Nat → Nat → Int32) (J : Nat → Nat → Int64) (X : XH) (n a b : Nat) (hn : I 61 4 = Int32.ofNat n) (hn2 : n ≤ 40) (ha : a < 24) (hb : b < 24) (hto : ∀ r, r < n → 0 ≤ (I 64 r).toInt ∧ (I 64 r).toInt ≤ 23) : zev xs L D 191 [.ref 61, .int (Int32.ofNat a), .int (Int32.ofNat b)] (zmk I J X) = some (.inr (some (.int (zfst (znrM I a b) n 0))), zmk I J X) := by
  obtain ⟨d, rfl⟩ := Nat.exists_eq_add_of_le hD
  rw [Nat.add_comm 6 d]
  exact nextRoad_eq xs L d I J X n a b hn hn2 ha hb hto
theorem yMH_3 {V M M' : Nat → Nat → Int32} {k : Int32} (h : yMH V k M) (f : zfr8 [112, 113, 114] [76] M M') : yMH V k M' := yMH_fr h (zfr8_sub f (fun b hb => by
  simp only [List.mem_cons, List.not_mem_nil, or_false] at hb ⊢
  omega) (fun b hb => by
  simp only [List.mem_cons, List.not_mem_nil, or_false] at hb ⊢
  omega))
theorem yMH_4 {V M M' : Nat → Nat → Int32} {k : Int32} (h : yMH V k M) (f : zfr8 [112, 113, 114] [76, 77] M M') : yMH V k M' := yMH_fr h (zfr8_sub f (fun b hb => by
  simp only [List.mem_cons, List.not_mem_nil, or_false] at hb ⊢
  omega) (fun b hb => hb))
theorem gs_loop (xs : Nat → Int32) (L d : Nat) {V : Nat → Nat → Int32} (J : Nat → Nat → Int64) (X : XH) (k u : Int32) (s c : Nat) (hB : PB V) (hs : s < nv (V 61 19)) (hc : c < 24) : ∀ (g : List Nat) (a : Nat) (l : List ZP) (M : Nat → Nat → Int32), zGs V c a g → a < 24 → yMH V k M → yhas M l → l.length + g.length ≤ 8000 → ∃ M', zgo xs L (d + 1 + 5) 190 2 [(0, .ref 61), (1, .int (Int32.ofNat s)), (2, .int u), (3, .int (Int32.ofNat a)), (4, .int (Int32.ofNat c))] (zmk M J X) = some (.inr none, zmk M' J X) ∧ yhas M' (l ++ g.map (zgp (V 76 s))) ∧ zfr8 [112, 113, 114] [76] M M'
  | [], a, l, M, hg, ha, hM, hl, _ => by
    have hg : a = c := hg
    refine ⟨M, ?_, by rw [List.map_nil, List.append_nil]; exact hl, zfr8_rfl⟩
    rw [zgo_q, S190_2 xs L (d + 1), if_pos (decide_eq_true (by rw [hg]))]
    rfl
  | r :: g, a, l, M, hg, ha, hM, hl, hle => by
    have hlen : (r :: g).length = g.length + 1 := List.length_cons
    obtain ⟨g1, g2, g3, g4, g5, g6⟩ := hg
    have hB0 := hB
    obtain ⟨_, _, _, hS, _, hRd, _⟩ := hB
    obtain ⟨m1, m2, m3, m4, m5⟩ := hM
    have e73 : M 73 = V 73 := m1 73 (by decide) (by decide) (by decide)
    have e63 : M 63 = V 63 := m1 63 (by decide) (by decide) (by decide)
    have e64 : M 64 = V 64 := m1 64 (by decide) (by decide) (by decide)
    have e66 : M 66 = V 66 := m1 66 (by decide) (by decide) (by decide)
    have h40 := hRd.1.2.2
    have n4 := nv_int hRd.1.2.1
    have n19 := nv_int hS.1.2.1
    have h300 := hS.1.2.2
    have hf := (far_same (M := M) hRd m5 ha hc).1.mp g2
    have hfs := (first_same (M := M) hRd m5 e73 e63 e64 e66 ha hc g1 hf).1
    have hnr := nextRoad_D xs L (d + 1 + 5) (by omega) M J X (nv (V 61 4)) a c (by rw [m2 4 (by decide), nv_of hRd.1.2.1]) (by omega) ha hc (fun r hr => by
      rw [e64]
      exact (hRd.2.2.1 r hr).1.2.1)
    rw [← hfs, g5] at hnr
    have zs : zix 0 300 0 (Int32.ofNat s) := zix_nat rfl (by omega) (by omega)
    have zr : zix 0 40 0 (Int32.ofNat r) := zix_nat rfl (by omega) (by omega)
    have e76 : M 76 (Int32.ofNat s).toNatClampNeg = V 76 s := by
      rw [i32_clamp (by omega), m1 76 (by decide) (by decide) (by decide)]
    obtain ⟨M1, a1, a2, a3⟩ := add_eq xs L (d + 1 + 5) (by omega) M J X l (zgp (V 76 s) r) (by omega) hl
    have a1 : zev xs L (d + 1 + 5) 192 [.ref 61, .int (Int32.ofNat r), .int (V 76 s), .int (-1)] (zmk M J X) = some (.inr none, zmk M1 J X) := a1
    have hM1 := yMH_3 ⟨m1, m2, m3, m4, m5⟩ a3
    have e64' : M1 64 (Int32.ofNat r).toNatClampNeg = Int32.ofNat (nv (V 64 r)) := by
      rw [i32_clamp (by omega), a3.1 64 (by decide) (by decide), e64]
      exact (nv_of (hRd.2.2.1 r g3).1.2.1.1).symm
    obtain ⟨M2, b1, b2, b3⟩ := gs_loop xs L d J X k u s c hB0 hs hc g (nv (V 64 r)) (l ++ [zgp (V 76 s) r]) M1 g6 g4 hM1 a2 (by
      rw [List.length_append]
      show l.length + 1 + g.length ≤ 8000
      omega)
    refine ⟨M2, ?_, ?_, zfr8_tr a3 b3 (fun _ h => h) (fun _ h => h)⟩
    · rw [zgo_q, S190_2 xs L (d + 1), if_neg (fun z => g1 ((nat_eq (by omega) (by omega)).mp (of_decide_eq_true z))), hnr, zci_i, T190_2_7_693 xs L (d + 1), if_pos zs, e76, a1, zcw_v, T190_2_16_684 xs L (d + 1), if_pos zr, e64', zth_go]
      exact b1
    · rw [List.map_cons, List.append_cons]
      exact b2
theorem guess_eq (xs : Nat → Int32) (L D : Nat) (hD : 7 ≤ D) {V : Nat → Nat → Int32} (J : Nat → Nat → Int64) (X : XH) (k : Int32) (s u β : Nat) (hB : PB V) (hs : s < nv (V 61 19)) (hu : u < nv (V 61 19)) (hnear : (V 76 u - V 76 s).toInt ≤ 180) (l : List ZP) (M : Nat → Nat → Int32) (hM : yMH V k M) (hl : yhas M l) (hle : l.length ≤ 7900) (hb : M 61 77 = Int32.ofNat β) : ∃ M', zev xs L D 190 [.ref 61, .int (Int32.ofNat s), .int (Int32.ofNat u)] (zmk M J X) = some (.inr none, zmk M' J X) ∧ yhas M' (l ++ (zbt V k s u).map (zgp (V 76 s))) ∧ (zbt V k s u).length ≤ 23 ∧ M' 61 77 = Int32.ofNat (β + zbr V k s u) ∧ zfr8 [112, 113, 114] [76, 77] M M' := by
  obtain ⟨d, rfl⟩ := Nat.exists_eq_add_of_le hD
  rw [show 7 + d = d + 1 + 6 by omega]
  obtain ⟨s1, s2, s3, s4, s5, s6, s7⟩ := sig_ok hB k hs
  obtain ⟨u1, u2, u3, u4, u5, u6, u7⟩ := sig_ok hB k hu
  have hRd := hB.2.2.2.2.2.1
  have zs : zix 0 300 0 (Int32.ofNat s) := zix_nat rfl s7 (by omega)
  have zu : zix 0 300 0 (Int32.ofNat u) := zix_nat rfl u7 (by omega)
  have e108s : M 108 (Int32.ofNat s).toNatClampNeg = zrnS V k s := by
    rw [i32_clamp (by omega)]
    exact hM.2.2.1 s hs
  have e108u : M 108 (Int32.ofNat u).toNatClampNeg = zrnS V k u := by
    rw [i32_clamp (by omega)]
    exact hM.2.2.1 u hu
  have zrs : zix 0 40 0 (zrnS V k s) := zix_of rfl s1.1 s1.2
  have zru : zix 0 40 0 (zrnS V k u) := zix_of rfl u1.1 u1.2
  have e64 : M 64 (zrnS V k s).toNatClampNeg = Int32.ofNat (zEn V k s) := by
    rw [hM.1 64 (by decide) (by decide) (by decide)]
    exact s4.1
  have e63 : M 63 (zrnS V k u).toNatClampNeg = Int32.ofNat (zBg V k u) := by
    rw [hM.1 63 (by decide) (by decide) (by decide)]
    exact u5.1
  have hen := s4.2
  have hbg := u5.2
  have z576 : zix 0 576 0 (Int32.ofNat (24 * zEn V k s + zBg V k u)) := zix_nat rfl (by omega) (by omega)
  have S := zcS (as := [.ref 61, .int (Int32.ofNat s), .int (Int32.ofNat u)]) (S190_0 xs L (d + 1) M J X (Int32.ofNat s) (Int32.ofNat u))
  rw [if_pos zs, e108s, if_pos zrs, if_pos zu, e108u, if_pos zru, e64, e63, idx24b, if_pos z576, i32_clamp (n := 24 * zEn V k s + zBg V k u) (by omega)] at S
  have hfs := far_same (M := M) hRd hM.2.2.2.2 hen hbg
  have hF : (268435456 : Int32).toInt = 268435456 := by decide
  by_cases c : (V 8 (24 * zEn V k s + zBg V k u)).toInt < 1000000000
  · have ebt : zbt V k s u = ygl V (zBg V k u) 24 (zEn V k s) := if_pos ⟨hnear, c⟩
    have ebr : zbr V k s u = 0 := if_neg (fun z => z.2 c)
    obtain ⟨q1, q2⟩ := ygl_len hRd hbg hen c
    rw [if_pos (decide_eq_true (i32_lt.mpr (by
      rw [hF]
      exact hfs.1.mp c))), zth_go] at S
    rw [ebt, ebr]
    obtain ⟨M', b1, b2, b3⟩ := gs_loop xs L d J X k (Int32.ofNat u) s (zBg V k u) hB hs hbg _ _ l M q1 hen hM hl (by omega)
    refine ⟨M', S.trans b1, b2, q2, ?_, zfr8_sub b3 (fun _ h => h) (fun b h => List.mem_append_left [77] h)⟩
    rw [b3.2 77 (by decide), hb, Nat.add_zero]
  · have ebt : zbt V k s u = [] := if_neg (fun z => c z.2)
    have ebr : zbr V k s u = 1 := if_pos ⟨hnear, c⟩
    rw [if_neg (fun z => c (hfs.1.mpr (by
      have z := i32_lt.mp (of_decide_eq_true z)
      rw [hF] at z
      exact z))), hb, nat_succ] at S
    rw [ebt, ebr]
    refine ⟨_, S, ⟨?_, ?_⟩, by decide, zup_at, zfr8_m zfr8_rfl (by decide)⟩
    · rw [List.map_nil, List.append_nil]
      show zup M 61 77 _ 61 76 = _
      rw [zup_k (by decide)]
      exact hl.1
    · rw [List.map_nil, List.append_nil]
      exact yr3_cg (M := M) (N := zup M 61 77 (Int32.ofNat (β + 1))) (fun j _ _ => ⟨rfl, rfl, rfl⟩) hl.2
def yprev (o : Nat → Int32) (i : Nat) : Option Nat := if i = 0 then none else some (nv (o (i - 1)))
theorem lay_loop (xs : Nat → Int32) (L d : Nat) {V : Nat → Nat → Int32} (J : Nat → Nat → Int64) (X : XH) (k b : Int32) (c : Nat) (o : Nat → Int32) (hB : PB V) (hi : yin V k b (nv (V 61 19)) c o) : ∀ (j i β : Nat) (l : List ZP) (M : Nat → Nat → Int32), i + j = c → yMH V k M → M 111 = o → yhas M l → l.length ≤ 24 * i → M 61 77 = Int32.ofNat β → ∃ M', zgo xs L (d + 2 + 5) 189 8 [(0, .ref 61), (1, .int b), (2, .int k), (3, .int (Int32.ofNat c)), (4, .int (Int32.ofNat i))] (zmk M J X) = zgo xs L (d + 2 + 5) 189 8 [(0, .ref 61), (1, .int b), (2, .int k), (3, .int (Int32.ofNat c)), (4, .int (Int32.ofNat c))] (zmk M' J X) ∧ yhas M' (l ++ zrw V k (yprev o i) (yol o j i)) ∧ (l ++ zrw V k (yprev o i) (yol o j i)).length ≤ 24 * c ∧ M' 61 77 = Int32.ofNat (β + zbk V k (yprev o i) (yol o j i)) ∧ zfr8 [112, 113, 114] [76, 77] M M'
  | 0, i, β, l, M, hij, hM, ho, hl, hle, hb => by
    have hij : i = c := by omega
    subst hij
    have e : zrw V k (yprev o i) (yol o 0 i) = [] := by
      show zrw V k (yprev o i) [] = []
      cases yprev o i <;> rfl
    have e2 : zbk V k (yprev o i) (yol o 0 i) = 0 := by
      show zbk V k (yprev o i) [] = 0
      cases yprev o i <;> rfl
    rw [e, e2, List.append_nil]
    exact ⟨M, rfl, hl, hle, hb, zfr8_rfl⟩
  | j + 1, i, β, l, M, hij, hM, ho, hl, hle, hb => by
    have hS := hB.2.2.2.1
    have n19 := nv_int hS.1.2.1
    have h300 := hS.1.2.2
    have hc300 := hi.1
    obtain ⟨b1, b2, _, _⟩ := hi.2.1 i (by omega)
    have nb := nv_int b1
    obtain ⟨u, hu⟩ : ∃ u, u = nv (o i) := ⟨_, rfl⟩
    have hun : u < nv (V 61 19) := by omega
    obtain ⟨u1, u2, u3, u4, u5, u6, u7⟩ := sig_ok hB k hun
    have eo : o i = Int32.ofNat u := by rw [hu, nv_of b1]
    have zi : zix 0 300 0 (Int32.ofNat i) := zix_nat rfl (by omega) (by omega)
    have zu : zix 0 300 0 (Int32.ofNat u) := zix_nat rfl u7 (by omega)
    have e111 : M 111 (Int32.ofNat i).toNatClampNeg = Int32.ofNat u := by
      rw [i32_clamp (by omega), ho, eo]
    have e108 : ∀ M : Nat → Nat → Int32, yMH V k M → M 108 (Int32.ofNat u).toNatClampNeg = Int32.ofNat (nv (zrnS V k u)) := fun M hM => by
      rw [i32_clamp (by omega), u3]
      exact hM.2.2.1 u hun
    have e76 : ∀ M : Nat → Nat → Int32, yMH V k M → M 76 (Int32.ofNat u).toNatClampNeg = V 76 u := fun M hM => by
      rw [i32_clamp (by omega), hM.1 76 (by decide) (by decide) (by decide)]
    have hol : yol o (j + 1) i = u :: yol o j (i + 1) := by
      show nv (o i) :: yol o j (i + 1) = _
      rw [hu]
    have hpv : yprev o (i + 1) = some u := by
      unfold yprev
      rw [if_neg (by omega), Nat.add_sub_cancel, hu]
    have cnle : ¬ decide (Int32.ofNat c ≤ Int32.ofNat i) = true := fun z => by
      have := (nat_le (by omega) (by omega)).mp (of_decide_eq_true z)
      omega
    -- behind the guessed roads: the signal itself, then the rest
    have fin : ∀ (l1 : List ZP) (M1 : Nat → Nat → Int32) (β1 : Nat), yMH V k M1 → M1 111 = o → yhas M1 l1 → l1.length ≤ 24 * i + 23 → M1 61 77 = Int32.ofNat β1 → ∃ M2, zev xs L (d + 2 + 5) 192 [.ref 61, .int (Int32.ofNat (nv (zrnS V k u))), .int (V 76 u), .int (Int32.ofNat u)] (zmk M1 J X) = some (.inr none, zmk M2 J X) ∧ ∃ M', zgo xs L (d + 2 + 5) 189 8 [(0, .ref 61), (1, .int b), (2, .int k), (3, .int (Int32.ofNat c)), (4, .int (Int32.ofNat (i + 1)))] (zmk M2 J X) = zgo xs L (d + 2 + 5) 189 8 [(0, .ref 61), (1, .int b), (2, .int k), (3, .int (Int32.ofNat c)), (4, .int (Int32.ofNat c))] (zmk M' J X) ∧ yhas M' (l1 ++ zrw V k none (u :: yol o j (i + 1))) ∧ (l1 ++ zrw V k none (u :: yol o j (i + 1))).length ≤ 24 * c ∧ M' 61 77 = Int32.ofNat (β1 + zbk V k none (u :: yol o j (i + 1))) ∧ zfr8 [112, 113, 114] [76, 77] M1 M' := by
      intro l1 M1 β1 g1 g2 g3 g4 g5
      obtain ⟨M2, a1, a2, a3⟩ := add_eq xs L (d + 2 + 5) (by omega) M1 J X l1 (zsp V k u) (by omega) g3
      have hM2 := yMH_3 g1 a3
      obtain ⟨M', q1, q2, q3, q4, q5⟩ := lay_loop xs L d J X k b c o hB hi j (i + 1) β1 (l1 ++ [zsp V k u]) M2 (by omega) hM2 (by rw [a3.1 111 (by decide) (by decide)]; exact g2) a2 (by
        rw [List.length_append]
        show l1.length + 1 ≤ _
        omega) (by rw [a3.2 77 (by decide)]; exact g5)
      rw [hpv] at q2 q3 q4
      have el : l1 ++ [zsp V k u] ++ zrw V k (some u) (yol o j (i + 1)) = l1 ++ zrw V k none (u :: yol o j (i + 1)) := by
        rw [List.append_assoc]
        rfl
      rw [el] at q2 q3
      exact ⟨M2, a1, M', q1, q2, q3, q4, zfr8_tr (zfr8_sub a3 (fun _ h => h) (fun b h => List.mem_append_left [77] h)) q5 (fun _ h => h) (fun _ h => h)⟩
    rw [hol]
    have S := zgo_q xs L (d + 2 + 5) 189 8 [(0, .ref 61), (1, .int b), (2, .int k), (3, .int (Int32.ofNat c)), (4, .int (Int32.ofNat i))] (zmk M J X)
    rw [S189_8 xs L (d + 2), if_neg cnle, if_pos zi] at S
    cases i with
    | zero =>
      have zi2 : zix 0 300 0 (M 111 (Int32.ofNat 0).toNatClampNeg) := by
        rw [e111]
        exact zu
      rw [if_pos (by decide), if_pos zi2, if_pos zi2, e111, e108 M hM, e76 M hM] at S
      obtain ⟨M2, a1, M', q1, q2, q3, q4, q5⟩ := fin l M β hM ho hl (by omega) hb
      rw [a1, zcw_v, T189_11_11_679 xs L (d + 2), zth_go, nat_succ] at S
      exact ⟨M', S.trans q1, q2, q3, q4, q5⟩
    | succ i =>
      obtain ⟨p1, p2, _, _⟩ := hi.2.1 i (by omega)
      have np := nv_int p1
      obtain ⟨s, hs⟩ : ∃ s, s = nv (o i) := ⟨_, rfl⟩
      have hsn : s < nv (V 61 19) := by omega
      obtain ⟨s1, s2, s3, s4, s5, s6, s7⟩ := sig_ok hB k hsn
      have eo2 : o i = Int32.ofNat s := by rw [hs, nv_of p1]
      have hpv2 : yprev o (i + 1) = some s := by
        unfold yprev
        rw [if_neg (by omega), Nat.add_sub_cancel, hs]
      have zj : zix 0 300 0 (Int32.ofNat i) := zix_nat rfl (by omega) (by omega)
      have zs : zix 0 300 0 (Int32.ofNat s) := zix_nat rfl s7 (by omega)
      have f111 : M 111 (Int32.ofNat i).toNatClampNeg = Int32.ofNat s := by
        rw [i32_clamp (by omega), ho, eo2]
      have f76 : M 76 (Int32.ofNat s).toNatClampNeg = V 76 s := by
        rw [i32_clamp (by omega), hM.1 76 (by decide) (by decide) (by decide)]
      have zu2 : zix 0 300 0 (M 111 (Int32.ofNat (i + 1)).toNatClampNeg) := by
        rw [e111]
        exact zu
      have zs2 : zix 0 300 0 (M 111 (Int32.ofNat i).toNatClampNeg) := by
        rw [f111]
        exact zs
      rw [if_neg (fun z => by
        have := (nat_le (a := i + 1) (b := 0) (by omega) (by omega)).mp (of_decide_eq_true z)
        omega), if_pos zu2, nat_pred, if_pos zj, if_pos zs2, e111, f111, e76 M hM, f76] at S
      rw [hpv2]
      by_cases cn : (V 76 u - V 76 s).toInt ≤ 180
      · have c180 : ¬ (180 : Int32) < V 76 u - V 76 s := fun z => by
          have z := i32_lt.mp z
          have e : (180 : Int32).toInt = 180 := by decide
          omega
        obtain ⟨M1, g1, g2, g3, g4, g5⟩ := guess_eq xs L (d + 2 + 5) (by omega) J X k s u β hB hsn hun cn l M hM hl (by omega) hb
        have hM1 := yMH_4 hM g5
        obtain ⟨M2, a1, M', q1, q2, q3, q4, q5⟩ := fin (l ++ (zbt V k s u).map (zgp (V 76 s))) M1 (β + zbr V k s u) hM1 (by rw [g5.1 111 (by decide) (by decide)]; exact ho) g2 (by
          rw [List.length_append, List.length_map]
          omega) g4
        rw [if_neg (fun z => c180 (of_decide_eq_true z)), if_pos zj, g1, zcw_v, T189_8_35_665 xs L (d + 2), if_pos zu, if_pos zu, e108 M1 hM1, e76 M1 hM1, a1, zcw_v, T189_11_11_653 xs L (d + 2), zth_go, nat_succ] at S
        refine ⟨M', S.trans q1, ?_, ?_, ?_, zfr8_tr g5 q5 (fun _ h => h) (fun _ h => h)⟩
        · rw [List.append_assoc] at q2
          exact q2
        · rw [List.append_assoc] at q3
          exact q3
        · rw [Nat.add_assoc] at q4
          exact q4
      · have c180 : (180 : Int32) < V 76 u - V 76 s := i32_lt.mpr (by
          have e : (180 : Int32).toInt = 180 := by decide
          omega)
        have ebt : zbt V k s u = [] := if_neg (fun z => cn z.1)
        have ebr : zbr V k s u = 0 := if_neg (fun z => cn z.1)
        obtain ⟨M2, a1, M', q1, q2, q3, q4, q5⟩ := fin l M β hM ho hl (by omega) hb
        rw [if_pos (decide_eq_true c180), if_pos zu, if_pos zu, e108 M hM, a1, zcw_v, T189_11_11_663 xs L (d + 2), zth_go, nat_succ] at S
        have er : zrw V k (some s) (u :: yol o j (i + 1 + 1)) = zrw V k none (u :: yol o j (i + 1 + 1)) := by
          show (zbt V k s u).map _ ++ _ = _
          rw [ebt]
          rfl
        have ek : zbk V k (some s) (u :: yol o j (i + 1 + 1)) = zbk V k none (u :: yol o j (i + 1 + 1)) := by
          show zbr V k s u + _ = _
          rw [ebr, Nat.zero_add]
          rfl
        rw [er, ek]
        exact ⟨M', S.trans q1, q2, q3, q4, q5⟩
