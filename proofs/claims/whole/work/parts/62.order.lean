/-! THE PURE PART: the model sorts a box's signals. -/
/-- the number of a place, read as a list from place i on -/
def yol (o : Nat → Int32) : Nat → Nat → List Nat
  | 0, _ => []
  | j + 1, i => nv (o i) :: yol o j (i + 1)
abbrev ylt (m : Nat → Int32) (a b : Nat) : Prop := (m a).toInt < (m b).toInt ∨ ((m a).toInt = (m b).toInt ∧ a < b)
theorem ylt_irr {m : Nat → Int32} {a : Nat} (h : ylt m a a) : False := by
  rcases h with h | h <;> omega
theorem ylt_asym {m : Nat → Int32} {a b : Nat} (h : ylt m a b) (g : ylt m b a) : False := by
  rcases h with h | h <;> rcases g with g | g <;> omega
/-- two lists in strict order with the same members are one -/
theorem sorted_uniq {m : Nat → Int32} : ∀ {l r : List Nat}, l.Pairwise (ylt m) → r.Pairwise (ylt m) → (∀ x, x ∈ l ↔ x ∈ r) → l = r
  | [], [], _, _, _ => rfl
  | [], y :: r, _, _, h => by
    have := (h y).mpr List.mem_cons_self
    cases this
  | x :: l, [], _, _, h => by
    have := (h x).mp List.mem_cons_self
    cases this
  | x :: l, y :: r, hl, hr, h => by
    obtain ⟨a1, a2⟩ := List.pairwise_cons.mp hl
    obtain ⟨b1, b2⟩ := List.pairwise_cons.mp hr
    have e : x = y := by
      by_cases c : x = y
      · exact c
      exfalso
      have h1 := (h x).mp List.mem_cons_self
      have h2 := (h y).mpr List.mem_cons_self
      rcases List.mem_cons.mp h1 with g1 | g1
      · exact c g1
      · rcases List.mem_cons.mp h2 with g2 | g2
        · exact c g2.symm
        · exact ylt_asym (a1 y g2) (b1 x g1)
    subst e
    congr 1
    refine sorted_uniq a2 b2 (fun z => ⟨fun hz => ?_, fun hz => ?_⟩)
    · rcases List.mem_cons.mp ((h z).mp (List.mem_cons_of_mem _ hz)) with g | g
      · subst g
        exact (ylt_irr (a1 z hz)).elim
      · exact g
    · rcases List.mem_cons.mp ((h z).mpr (List.mem_cons_of_mem _ hz)) with g | g
      · subst g
        exact (ylt_irr (b1 z hz)).elim
      · exact g
theorem yol_mem {o : Nat → Int32} {x : Nat} : ∀ {j i : Nat}, x ∈ yol o j i ↔ ∃ p, i ≤ p ∧ p < i + j ∧ nv (o p) = x
  | 0, i => ⟨fun h => (by cases h), fun ⟨p, h1, h2, _⟩ => by omega⟩
  | j + 1, i => by
    have ih := yol_mem (o := o) (x := x) (j := j) (i := i + 1)
    show x ∈ nv (o i) :: yol o j (i + 1) ↔ _
    rw [List.mem_cons, ih]
    constructor
    · rintro (h | ⟨p, h1, h2, h3⟩)
      · exact ⟨i, by omega, by omega, h.symm⟩
      · exact ⟨p, by omega, by omega, h3⟩
    · rintro ⟨p, h1, h2, h3⟩
      by_cases c : p = i
      · left
        rw [← h3, c]
      · exact Or.inr ⟨p, by omega, by omega, h3⟩
theorem yol_len {o : Nat → Int32} : ∀ {j i : Nat}, (yol o j i).length = j
  | 0, _ => rfl
  | j + 1, i => by
    show (nv (o i) :: yol o j (i + 1)).length = _
    rw [List.length_cons, yol_len]
theorem yol_pw {o : Nat → Int32} {m : Nat → Int32} {c : Nat} (h : ∀ a b, a < b → b < c → ylt m (nv (o a)) (nv (o b))) : ∀ {j i : Nat}, i + j ≤ c → (yol o j i).Pairwise (ylt m)
  | 0, _, _ => List.Pairwise.nil
  | j + 1, i, hi => by
    refine List.pairwise_cons.mpr ⟨fun x hx => ?_, yol_pw h (by omega)⟩
    obtain ⟨p, h1, h2, h3⟩ := yol_mem.mp hx
    rw [← h3]
    exact h i p (by omega) (by omega)
/-- the signals of the class's list: in strict order, just those of the box that count -/
theorem ysg_mem {V : Nat → Nat → Int32} {k b : Int32} {x : Nat} : ∀ {j i : Nat}, x ∈ ysg V k b j i ↔ ∃ p, i ≤ p ∧ p < i + j ∧ zqs V k b p = true ∧ nv (V 32 p) = x
  | 0, i => ⟨fun h => (by cases h), fun ⟨p, h1, h2, _⟩ => by omega⟩
  | j + 1, i => by
    have ih := ysg_mem (V := V) (k := k) (b := b) (x := x) (j := j) (i := i + 1)
    by_cases c : zqs V k b i = true
    · have e : ysg V k b (j + 1) i = nv (V 32 i) :: ysg V k b j (i + 1) := if_pos c
      rw [e, List.mem_cons, ih]
      constructor
      · rintro (h | ⟨p, h1, h2, h3, h4⟩)
        · exact ⟨i, by omega, by omega, c, h.symm⟩
        · exact ⟨p, by omega, by omega, h3, h4⟩
      · rintro ⟨p, h1, h2, h3, h4⟩
        by_cases q : p = i
        · left
          rw [← h4, q]
        · exact Or.inr ⟨p, by omega, by omega, h3, h4⟩
    · have e : ysg V k b (j + 1) i = ysg V k b j (i + 1) := if_neg c
      rw [e, ih]
      constructor
      · rintro ⟨p, h1, h2, h3, h4⟩
        exact ⟨p, by omega, by omega, h3, h4⟩
      · rintro ⟨p, h1, h2, h3, h4⟩
        by_cases q : p = i
        · exact absurd (q ▸ h3) c
        · exact ⟨p, by omega, by omega, h3, h4⟩
theorem ysg_pw {V : Nat → Nat → Int32} {k b : Int32} {c : Nat} (h : ∀ p q, p < q → q < c → ylt (V 76) (nv (V 32 p)) (nv (V 32 q))) : ∀ {j i : Nat}, i + j ≤ c → (ysg V k b j i).Pairwise (ylt (V 76))
  | 0, _, _ => List.Pairwise.nil
  | j + 1, i, hi => by
    by_cases q : zqs V k b i = true
    · have e : ysg V k b (j + 1) i = nv (V 32 i) :: ysg V k b j (i + 1) := if_pos q
      rw [e]
      refine List.pairwise_cons.mpr ⟨fun x hx => ?_, ysg_pw h (by omega)⟩
      obtain ⟨p, h1, h2, _, h4⟩ := ysg_mem.mp hx
      rw [← h4]
      exact h i p (by omega) (by omega)
    · have e : ysg V k b (j + 1) i = ysg V k b j (i + 1) := if_neg q
      rw [e]
      exact ysg_pw h (by omega)
theorem ins_loop (xs : Nat → Int32) (L d : Nat) (I : Nat → Nat → Int32) (J : Nat → Nat → Int64) (X : XH) (o : Nat → Int32) (c s : Nat) (b k : Int32) (hs : s < 300) (hc : c ≤ s) (ho : ∀ i, i < c → 0 ≤ (o i).toInt ∧ (o i).toInt < 300) : ∀ p, p ≤ c → zgo xs L (d + 5) 189 9 [(0, .ref 61), (1, .int b), (2, .int k), (3, .int (Int32.ofNat c)), (4, .int (Int32.ofNat s)), (5, .int (Int32.ofNat p))] (zmk (zov I 111 (zshf o p c)) J X) = zgo xs L (d + 5) 189 2 [(0, .ref 61), (1, .int b), (2, .int k), (3, .int (Int32.ofNat (c + 1))), (4, .int (Int32.ofNat (s + 1)))] (zmk (zov I 111 (zset (zshf o (zpos (I 76) o (I 76 s) p) c) (zpos (I 76) o (I 76 s) p) (Int32.ofNat s))) J X)
  | 0, hp => by
    have z0 : zix 0 300 0 (Int32.ofNat 0) := zix_nat rfl (by omega) (by omega)
    rw [zgo_q, S189_9, if_pos (by decide), if_pos z0, zth_go, nat_succ, nat_succ, zup_zov]
    rfl
  | p + 1, hp => by
    have ih := ins_loop xs L d I J X o c s b k hs hc ho p (by omega)
    have h1 := ho p (by omega)
    have z1 : zix 0 300 0 (Int32.ofNat p) := zix_nat rfl (by omega) (by omega)
    have z2 : zix 0 300 0 (Int32.ofNat (p + 1)) := zix_nat rfl (by omega) (by omega)
    have zs : zix 0 300 0 (Int32.ofNat s) := zix_nat rfl (by omega) (by omega)
    have hsh : zshf o (p + 1) c p = o p := if_neg (by omega)
    have e111 : zov I 111 (zshf o (p + 1) c) 111 (Int32.ofNat p).toNatClampNeg = o p := by
      rw [i32_clamp (by omega), zov_at, hsh]
    have zo : zix 0 300 0 (zov I 111 (zshf o (p + 1) c) 111 (Int32.ofNat p).toNatClampNeg) := by
      rw [e111]
      exact zix_of rfl h1.1 h1.2
    rw [zgo_q, S189_9, nat_pred, if_neg (fun z => by
      have z := (nat_le (a := p + 1) (b := 0) (by omega) (by omega)).mp (of_decide_eq_true z)
      omega), if_pos z1, if_pos zo, if_pos zs, e111, i32_clamp (n := s) (by omega)]
    have e76 : ∀ f q, zov I 111 f 76 q = I 76 q := fun _ _ => rfl
    rw [e76, e76]
    by_cases q : (I 76 (nv (o p))).toInt ≤ (I 76 s).toInt
    · have e : zpos (I 76) o (I 76 s) (p + 1) = p + 1 := if_pos q
      rw [if_pos (decide_eq_true (show I 76 (o p).toNatClampNeg ≤ I 76 s from i32_le.mpr q)), if_pos z2, zth_go, nat_succ, nat_succ, i32_clamp (n := p + 1) (by omega), zup_zov, e]
    · have e : zpos (I 76) o (I 76 s) (p + 1) = zpos (I 76) o (I 76 s) p := if_neg q
      rw [if_neg (fun z => q (i32_le.mp (show I 76 (o p).toNatClampNeg ≤ I 76 s from of_decide_eq_true z))), if_pos z1, if_pos z2, zth_go, nat_dec, i32_clamp (n := p + 1) (by omega), zup_zov, zshf_step hp, e]
      exact ih
/-- what the order row holds once the first s signals are through -/
def yin (V : Nat → Nat → Int32) (k b : Int32) (s c : Nat) (o : Nat → Int32) : Prop := c ≤ s ∧ (∀ i, i < c → 0 ≤ (o i).toInt ∧ (o i).toInt < s ∧ V 74 (nv (o i)) = b ∧ zcfS V k (nv (o i)) = 1) ∧ (∀ i j, i < j → j < c → ylt (V 76) (nv (o i)) (nv (o j))) ∧ ∀ q, q < s → V 74 q = b → zcfS V k q = 1 → ∃ i, i < c ∧ nv (o i) = q
theorem yin_no {V : Nat → Nat → Int32} {k b : Int32} {s c : Nat} {o : Nat → Int32} (h : yin V k b s c o) (hn : ¬ (V 74 s = b ∧ zcfS V k s = 1)) : yin V k b (s + 1) c o := by
  obtain ⟨h1, h2, h3, h4⟩ := h
  refine ⟨by omega, fun i hi => ?_, h3, fun q hq a1 a2 => ?_⟩
  · obtain ⟨a1, a2, a3⟩ := h2 i hi
    exact ⟨a1, by omega, a3⟩
  · by_cases c : q = s
    · subst c
      exact absurd ⟨a1, a2⟩ hn
    · exact h4 q (by omega) a1 a2
theorem yin_yes {V : Nat → Nat → Int32} {k b : Int32} {s c q : Nat} {o : Nat → Int32} (hs : s < 300) (h : yin V k b s c o) (hy : V 74 s = b ∧ zcfS V k s = 1) (hq : q = zpos (V 76) o (V 76 s) c) : yin V k b (s + 1) (c + 1) (zset (zshf o q c) q (Int32.ofNat s)) := by
  obtain ⟨h1, h2, h3, h4⟩ := h
  have hqn : q ≤ c := by rw [hq]; exact zpos_le _ _ _ _
  have hlo : 0 < q → (V 76 (nv (o (q - 1)))).toInt ≤ (V 76 s).toInt := by
    rw [hq]
    exact zpos_lo _
  have hhi : ∀ i, q ≤ i → i < c → (V 76 s).toInt < (V 76 (nv (o i))).toInt := by
    rw [hq]
    exact zpos_hi _
  have hon : ∀ i, i < c → nv (o i) < s := fun i hi => by
    have := h2 i hi
    have := nv_int this.1
    omega
  have hlo2 : ∀ i, i < q → (V 76 (nv (o i))).toInt ≤ (V 76 s).toInt := fun i hi => by
    have a := hlo (by omega)
    by_cases e : i = q - 1
    · rw [e]
      exact a
    · rcases h3 i (q - 1) (by omega) (by omega) with b | b <;> omega
  have hF : ∀ i, i < c + 1 → i ≠ q → ∃ j, j < c ∧ zset (zshf o q c) q (Int32.ofNat s) i = o j ∧ (i < q → j = i) ∧ (q < i → j + 1 = i) := by
    intro i hi hne
    rw [zset_ne hne]
    unfold zshf
    by_cases c2 : q < i
    · rw [if_pos ⟨c2, by omega⟩]
      exact ⟨i - 1, by omega, rfl, fun z => by omega, fun z => by omega⟩
    · rw [if_neg (by omega)]
      exact ⟨i, by omega, rfl, fun z => rfl, fun z => by omega⟩
  have hQ : zset (zshf o q c) q (Int32.ofNat s) q = Int32.ofNat s := zset_at
  have nQ : nv (Int32.ofNat s) = s := nv_nat (by omega)
  refine ⟨by omega, fun i hi => ?_, fun i j hij hj => ?_, fun x hx a1 a2 => ?_⟩
  · by_cases e : i = q
    · rw [e, hQ, nQ, i32_toInt (by omega)]
      exact ⟨by omega, by omega, hy.1, hy.2⟩
    · obtain ⟨j, j1, j2, _⟩ := hF i hi e
      rw [j2]
      obtain ⟨a1, a2, a3⟩ := h2 j j1
      exact ⟨a1, by omega, a3⟩
  · by_cases e : i = q
    · obtain ⟨j', j1, j2, _, j4⟩ := hF j hj (by omega)
      rw [e, hQ, nQ, j2]
      exact Or.inl (hhi j' (by omega) j1)
    · obtain ⟨i', i1, i2, i3, i4⟩ := hF i (by omega) e
      by_cases e2 : j = q
      · rw [e2, hQ, nQ, i2]
        have a := hlo2 i' (by omega)
        have b := hon i' i1
        show (V 76 (nv (o i'))).toInt < (V 76 s).toInt ∨ ((V 76 (nv (o i'))).toInt = (V 76 s).toInt ∧ nv (o i') < s)
        omega
      · obtain ⟨j', j1, j2, j3, j4⟩ := hF j hj e2
        rw [i2, j2]
        refine h3 i' j' ?_ j1
        by_cases c1 : i < q
        · by_cases c2 : j < q
          · rw [i3 c1, j3 c2]
            exact hij
          · rw [i3 c1]
            have := j4 (by omega)
            omega
        · have := i4 (by omega)
          have := j4 (by omega)
          omega
  · by_cases e : x = s
    · exact ⟨q, by omega, by rw [hQ, nQ, e]⟩
    · obtain ⟨j, j1, j2⟩ := h4 x (by omega) a1 a2
      by_cases c2 : j < q
      · refine ⟨j, by omega, ?_⟩
        rw [zset_ne (by omega)]
        unfold zshf
        rw [if_neg (by omega)]
        exact j2
      · refine ⟨j + 1, by omega, ?_⟩
        rw [zset_ne (by omega)]
        unfold zshf
        rw [if_pos (by omega)]
        exact j2
theorem ord_loop (xs : Nat → Int32) (L d : Nat) (V M : Nat → Nat → Int32) (J : Nat → Nat → Int64) (X : XH) (k b : Int32) (n : Nat) (hn : n = nv (V 61 19)) (h19 : M 61 19 = Int32.ofNat n) (hn2 : n ≤ 300) (h74 : M 74 = V 74) (h76 : M 76 = V 76) (h109 : ∀ s, s < n → M 109 s = zcfS V k s) : ∀ (j s c : Nat) (o : Nat → Int32), s + j = n → yin V k b s c o → ∃ c' o', yin V k b n c' o' ∧ zgo xs L (d + 5) 189 2 [(0, .ref 61), (1, .int b), (2, .int k), (3, .int (Int32.ofNat c)), (4, .int (Int32.ofNat s))] (zmk (zov M 111 o) J X) = zgo xs L (d + 5) 189 8 [(0, .ref 61), (1, .int b), (2, .int k), (3, .int (Int32.ofNat c')), (4, .int 0)] (zmk (zup (zup (zov M 111 o') 61 76 0) 61 77 0) J X)
  | 0, s, c, o, hs, hi => by
    have hs : s = n := by omega
    subst hs
    refine ⟨c, o, hi, ?_⟩
    have e : zov M 111 o 61 19 = Int32.ofNat s := h19
    rw [zgo_q, S189_2, e, if_pos (decide_eq_true ((nat_le (by omega) (by omega)).mpr (Nat.le_refl _)))]
    rfl
  | j + 1, s, c, o, hs, hi => by
    have e : zov M 111 o 61 19 = Int32.ofNat n := h19
    have zs : zix 0 300 0 (Int32.ofNat s) := zix_nat rfl (by omega) (by omega)
    have zs1 : zix 1 300 1 (Int32.ofNat s) := zix_nat rfl (by omega) (by omega)
    have e74 : zov M 111 o 74 (Int32.ofNat s).toNatClampNeg = V 74 s := by
      rw [i32_clamp (by omega)]
      show M 74 s = _
      rw [h74]
    have e109 : zov M 111 o 109 (Int32.ofNat s).toNatClampNeg = zcfS V k s := by
      rw [i32_clamp (by omega)]
      exact h109 s (by omega)
    rw [zgo_q, S189_2, e, if_neg (fun z => by
      have := (nat_le (by omega) (by omega)).mp (of_decide_eq_true z)
      omega), if_pos zs, e74]
    have c01 : zcfS V k s = 1 ∨ zcfS V k s = 0 := by
      unfold zcfS zcf
      exact (@zbi_01 _ (Classical.propDecidable _)).symm
    by_cases c1 : V 74 s = b
    · rw [if_neg (fun z => (of_decide_eq_true z) c1), if_pos zs1, e109]
      rcases c01 with c2 | c2
      · rw [if_pos (by rw [c2]; decide), zth_go]
        have hb : ∀ i, i < c → 0 ≤ (o i).toInt ∧ (o i).toInt < 300 := fun i hx => by
          have := hi.2.1 i hx
          omega
        have q := ins_loop xs L d M J X o c s b k (by omega) hi.1 hb c (Nat.le_refl _)
        rw [zshf_n, h76] at q
        rw [q]
        exact ord_loop xs L d V M J X k b n hn h19 hn2 h74 h76 h109 j (s + 1) (c + 1) _ (by omega) (yin_yes (by omega) hi ⟨c1, c2⟩ rfl)
      · rw [if_neg (by rw [c2]; decide), zth_go, nat_succ]
        exact ord_loop xs L d V M J X k b n hn h19 hn2 h74 h76 h109 j (s + 1) c o (by omega) (yin_no hi (fun z => by
          have z := z.2
          rw [c2] at z
          exact absurd z (by decide)))
    · rw [if_pos (decide_eq_true (show ¬ V 74 s = b from c1)), zth_go, nat_succ]
      exact ord_loop xs L d V M J X k b n hn h19 hn2 h74 h76 h109 j (s + 1) c o (by omega) (yin_no hi (fun z => c1 z.1))
/-- the model's order is the class's list -/
theorem yin_sg {V : Nat → Nat → Int32} (hB : PB V) {k b : Int32} {c : Nat} {o : Nat → Int32} (h : yin V k b (nv (V 61 19)) c o) : yol o c 0 = ysg V k b (nv (V 61 19)) 0 := by
  have hS := hB.2.2.2.1
  have n19 := nv_int hS.1.2.1
  obtain ⟨h1, h2, h3, h4⟩ := h
  refine sorted_uniq (m := V 76) (yol_pw h3 (by omega)) (ysg_pw (c := nv (V 61 19)) (fun p q hpq hq => ?_) (by omega)) (fun x => ?_)
  · have a := hS.2.2.2.2.1 p q hpq hq
    have b1 := nv_int (hS.2.2.2.1 p (by omega)).1
    have b2 := nv_int (hS.2.2.2.1 q hq).1
    show (V 76 (nv (V 32 p))).toInt < (V 76 (nv (V 32 q))).toInt ∨ ((V 76 (nv (V 32 p))).toInt = (V 76 (nv (V 32 q))).toInt ∧ nv (V 32 p) < nv (V 32 q))
    omega
  · rw [yol_mem, ysg_mem]
    constructor
    · rintro ⟨p, _, p2, p3⟩
      obtain ⟨a1, a2, a3, a4⟩ := h2 p (by omega)
      have na := nv_int a1
      obtain ⟨r, r1, r2⟩ := hS.2.2.2.2.2 x (by omega)
      have er : nv (V 32 r) = x := by
        have := hS.1.2.2
        rw [r2, nv_nat (by omega)]
      refine ⟨r, Nat.zero_le _, by omega, ?_, er⟩
      unfold zqs
      rw [er, ← p3]
      exact decide_eq_true ⟨a3, a4⟩
    · rintro ⟨p, _, p2, p3, p4⟩
      have p3 := of_decide_eq_true p3
      rw [p4] at p3
      have b1 := hS.2.2.2.1 p (by omega)
      have b2 := nv_int b1.1
      obtain ⟨i, i1, i2⟩ := h4 x (by omega) p3.1 p3.2
      exact ⟨i, Nat.zero_le _, by omega, i2⟩
