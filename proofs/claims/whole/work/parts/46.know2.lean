/-! THE PURE PART: where each signal counts, the class's loops. -/
theorem zEnt_ov {I : Nat → Nat → Int32} {X : XH} {l n : Nat} {ρ : Nat → Nat} {F O : Nat → Int32} {a : Nat} {g : Nat → Int32} (h : zEnt I X l n ρ F O) (ha : a < 123) (h19 : a ≠ 19) (h16 : a ≠ 16) : zEnt (zov I a g) X l n ρ F O := by
  obtain ⟨h1, h2, h3, h4, h5⟩ := h
  refine ⟨h1, h2, ?_, ?_, fun i hi => ?_⟩
  · rw [zov_ne (Ne.symm h19)]
    exact h3
  · rw [zov_ne (Ne.symm h16)]
    exact h4
  · obtain ⟨q1, q2, q3, q4, q5, q6⟩ := h5 i hi
    refine ⟨q1, q2, q3, ?_, ?_, q6⟩
    · rw [zov_ne (show ρ i ≠ a by omega)]
      exact q4
    · rw [zov_ne (show ρ i ≠ a by omega)]
      exact q5
theorem zTm_33 {V I : Nat → Nat → Int32} {X : XH} {k : Int32} {l m : Nat} {ρ : Nat → Nat} {O : Nat → Int32} {g : Nat → Int32} (h : zTm V I X k l m ρ O) : zTm V (zov I 33 g) X k l m ρ O := by
  obtain ⟨h1, h2, h3, h4, h5, h6, h7⟩ := h
  refine ⟨h1, h2, zEnt_ov h3 (by decide) (by decide) (by decide), h4, h5, h6, fun i hi => ?_⟩
  obtain ⟨_, q2, _⟩ := h3.2.2.2.2 i hi
  rw [zov_ne (show ρ i ≠ 33 by omega)]
  exact h7 i hi
theorem zTm_34 {V I : Nat → Nat → Int32} {X : XH} {k : Int32} {l m : Nat} {ρ : Nat → Nat} {O : Nat → Int32} {g : Nat → Int32} (h : zTm V I X k l m ρ O) : zTm V (zov I 34 g) X k l m ρ O := by
  obtain ⟨h1, h2, h3, h4, h5, h6, h7⟩ := h
  refine ⟨h1, h2, zEnt_ov h3 (by decide) (by decide) (by decide), h4, h5, h6, fun i hi => ?_⟩
  obtain ⟨_, q2, _⟩ := h3.2.2.2.2 i hi
  rw [zov_ne (show ρ i ≠ 34 by omega)]
  exact h7 i hi
/-- the land of a road that may be none; how late there -/
def zland (I : Nat → Nat → Int32) (r : Int32) : Nat := nv (I 4 (nv r))
def zlateR (V I : Nat → Nat → Int32) (r t k : Int32) : Int32 := zlate V (zland I r) (nv (V 92 (zland I r))) t k
def znearR (V I : Nat → Nat → Int32) (r t k : Int32) : Int32 := znear V (zland I r) (nv (V 92 (zland I r))) t k
/-- where a signal counts, its road being f s once the disputes are through -/
def zwf (V I : Nat → Nat → Int32) (k : Int32) (f : Nat → Int32) (s : Nat) : Int32 := if zkn I k s ∧ (f s = -1 ∨ (I 30 s - I 29 s).toInt ≤ (zlateR V I (f s) (I 29 s) k).toInt) then f s else -1
theorem know_l1 (xs : Nat → Int32) (L d : Nat) (V I : Nat → Nat → Int32) (J : Nat → Nat → Int64) (X : XH) (k : Int32) (f : Nat → Int32) (n : Nat) (hn : I 26 4 = Int32.ofNat n) (hn2 : n ≤ 300) (hT : ∀ l, l < 9 → ∃ ρ O, zTm V I X k l (nv (V 92 l)) ρ O) (hf : ∀ s, s < n → f s = -1 ∨ ((0 ≤ (f s).toInt ∧ (f s).toInt < 40) ∧ 0 ≤ (I 4 (nv (f s))).toInt ∧ (I 4 (nv (f s))).toInt < 9)) : ∀ (j i : Nat), i + j = n → zgo xs L (d + 8) 70 2 [(0, .ref 26), (1, .int k), (2, .int (Int32.ofNat i))] (zmk (zov I 33 (zpre (zwf V I k f) f i)) J X) = zgo xs L (d + 8) 70 7 [(0, .ref 26), (1, .int k), (2, .int (Int32.ofNat 0))] (zmk (zov I 33 (zpre (zwf V I k f) f n)) J X)
  | 0, i, hi => by
    have hi : i = n := by omega
    subst hi
    have e1 : zov I 33 (zpre (zwf V I k f) f i) 26 4 = I 26 4 := rfl
    rw [zgo_q, S70_2 xs L (d + 3), e1, hn, if_pos (decide_eq_true ((nat_le (by omega) (by omega)).mpr (Nat.le_refl _)))]
    rfl
  | j + 1, i, hi => by
    have ih := know_l1 xs L d V I J X k f n hn hn2 hT hf j (i + 1) (by omega)
    have e1 : zov I 33 (zpre (zwf V I k f) f i) 26 4 = I 26 4 := rfl
    have e33 : zov I 33 (zpre (zwf V I k f) f i) 33 i = f i := by
      rw [zov_at, zpre_ge (Nat.le_refl _)]
    have hput : ∀ v, zput (zov I 33 (zpre (zwf V I k f) f i)) 33 300 (Int32.ofNat i) v = zov I 33 (zset (zpre (zwf V I k f) f i) i v) := by
      intro v
      rw [zput_nat (by omega) (by omega), zup_zov]
    have hsame : zwf V I k f i = f i → zpre (zwf V I k f) f i = zpre (zwf V I k f) f (i + 1) := by
      intro q
      rw [← zpre_succ, q]
      funext x
      unfold zset
      by_cases c : x = i
      · rw [if_pos c, c, zpre_ge (Nat.le_refl _)]
      · rw [if_neg c]
    rw [zgo_q, S70_2 xs L (d + 3), e1, hn, if_neg (fun z => by
      have := (nat_le (by omega) (by omega)).mp (of_decide_eq_true z)
      omega), known_eq xs L _ (by omega) _ J X k i (by omega), zci_i, T70_2_8_692 xs L (d + 3), hput, nat_succ]
    by_cases c1 : zkn I k i
    · rw [if_neg (fun z => by
        have z := of_decide_eq_true z
        rw [zbi_eq0] at z
        exact z c1)]
      by_cases c2 : f i = -1
      · rw [late_no xs L _ (by omega) _ J X k i (by omega) (e33.trans c2), zci_i, T70_2_13_687 xs L (d + 3), if_pos (by decide), zth_go, nat_succ, hsame (if_pos ⟨c1, Or.inl c2⟩)]
        exact ih
      · have hfi := (hf i (by omega)).resolve_left c2
        obtain ⟨ρ, O, hTm⟩ := hT (zland I (f i)) (by
          have := nv_int hfi.2.1
          unfold zland
          omega)
        have hl : zov I 33 (zpre (zwf V I k f) f i) 4 (nv (zov I 33 (zpre (zwf V I k f) f i) 33 i)) = Int32.ofNat (zland I (f i)) := by
          rw [e33]
          exact (nv_of hfi.2.1).symm
        have q := late_eq xs L (d + 3 + 5) (by omega) V (zov I 33 (zpre (zwf V I k f) f i)) J X k i (zland I (f i)) (nv (V 92 (zland I (f i)))) ρ O (by omega) (by rw [e33]; exact c2) (by rw [e33]; exact hfi.1) hl (zTm_33 hTm)
        rw [q, zci_i, T70_2_13_687 xs L (d + 3)]
        by_cases c3 : (I 30 i - I 29 i).toInt ≤ (zlateR V I (f i) (I 29 i) k).toInt
        · have e : (if (zov I 33 (zpre (zwf V I k f) f i) 30 i - zov I 33 (zpre (zwf V I k f) f i) 29 i).toInt ≤ (zlate V (zland I (f i)) (nv (V 92 (zland I (f i)))) (zov I 33 (zpre (zwf V I k f) f i) 29 i) k).toInt then (0 : Int32) else 1) = 0 := if_pos c3
          rw [e, if_pos (by decide), zth_go, nat_succ, hsame (if_pos ⟨c1, Or.inr c3⟩)]
          exact ih
        · have e : (if (zov I 33 (zpre (zwf V I k f) f i) 30 i - zov I 33 (zpre (zwf V I k f) f i) 29 i).toInt ≤ (zlate V (zland I (f i)) (nv (V 92 (zland I (f i)))) (zov I 33 (zpre (zwf V I k f) f i) 29 i) k).toInt then (0 : Int32) else 1) = 1 := if_neg c3
          have ew : zwf V I k f i = -1 := if_neg (fun z => z.2.elim c2 c3)
          rw [e, if_neg (by decide), zth_go, nat_succ, hput, ← ew, zpre_succ]
          exact ih
    · have ew : zwf V I k f i = -1 := if_neg (fun z => c1 z.1)
      rw [if_pos (decide_eq_true (show zbi (zkn (zov I 33 (zpre (zwf V I k f) f i)) k i) = 0 from zbi_eq0.mpr c1)), zth_go, ← ew, zpre_succ]
      exact ih
/-- another signal is of the same lorry on the same road -/
abbrev ztwin (I : Nat → Nat → Int32) (o s : Nat) : Prop := I 33 o = I 33 s ∧ ¬ I 27 o = I 27 s ∧ I 13 (nv (I 27 o)) = I 13 (nv (I 27 s))
theorem twin_eq (xs : Nat → Int32) (L D : Nat) (hD : 6 ≤ D) (I : Nat → Nat → Int32) (J : Nat → Nat → Int64) (X : XH) (o s : Nat) (ho : o < 300) (hs : s < 300) (hb1 : 0 ≤ (I 27 o).toInt ∧ (I 27 o).toInt < 24) (hb2 : 0 ≤ (I 27 s).toInt ∧ (I 27 s).toInt < 24) : zev xs L D 75 [.ref 26, .int (Int32.ofNat o), .int (Int32.ofNat s)] (zmk I J X) = some (.inr (some (.int (zbi (ztwin I o s)))), zmk I J X) := by
  obtain ⟨d, rfl⟩ := Nat.exists_eq_add_of_le hD
  rw [Nat.add_comm 6 d]
  refine (zcS (S75_0 xs L d I J X _ _)).trans ?_
  have e : ∀ a q, q < 300 → zat I a 300 (Int32.ofNat q) = I a q := fun a q hq => zat_nat hq (by omega)
  rw [e 33 o ho, e 33 s hs, e 27 o ho, e 27 s hs, zat_of hb1.1 hb1.2, zat_of hb2.1 hb2.2]
  by_cases c1 : I 33 o = I 33 s
  · rw [if_neg (fun z => (of_decide_eq_true z) c1)]
    by_cases c2 : I 27 o = I 27 s
    · rw [if_pos (decide_eq_true c2), zbi_f (fun z => z.2.1 c2)]
      rfl
    · rw [if_neg (fun z => c2 (of_decide_eq_true z))]
      by_cases c3 : I 13 (nv (I 27 o)) = I 13 (nv (I 27 s))
      · rw [if_neg (fun z => (of_decide_eq_true z) c3), zbi_t ⟨c1, c2, c3⟩]
        rfl
      · rw [if_pos (decide_eq_true (show ¬ I 13 (nv (I 27 o)) = I 13 (nv (I 27 s)) from c3)), zbi_f (fun z => c3 z.2.2)]
        rfl
  · rw [if_pos (decide_eq_true (show ¬ I 33 o = I 33 s from c1)), zbi_f (fun z => c1 z.1)]
    rfl
/-- one of the first i in the order, near enough all the way, is a twin -/
def zhtw (I : Nat → Nat → Int32) (s : Nat) (near : Int32) : Nat → Bool
  | 0 => false
  | i + 1 => if near < I 29 s - I 29 (nv (I 32 i)) then false else (decide (ztwin I (nv (I 32 i)) s) || zhtw I s near i)
theorem htw_loop (xs : Nat → Int32) (L d : Nat) (I : Nat → Nat → Int32) (J : Nat → Nat → Int64) (X : XH) (a1 k near : Int32) (n s : Nat) (hn2 : n ≤ 300) (hs : s < n) (ho : ∀ p, p < n → 0 ≤ (I 32 p).toInt ∧ (I 32 p).toInt < n) (hb : ∀ q, q < n → 0 ≤ (I 27 q).toInt ∧ (I 27 q).toInt < 24) : ∀ i, i ≤ n → zgo xs L (d + 6) 74 3 [(0, .ref 26), (1, .int a1), (2, .int k), (3, .int (Int32.ofNat s)), (4, .int (I 29 s)), (5, .int near), (6, .int (Int32.ofNat i - 1))] (zmk I J X) = some (.inr (some (.int (if zhtw I s near i = true then 1 else 0))), zmk I J X)
  | 0, _ => by
    rw [zgo_q, S74_3 xs L (d + 1), if_pos (by decide)]
    rfl
  | i + 1, hi => by
    have ih := htw_loop xs L d I J X a1 k near n s hn2 hs ho hb i (by omega)
    have h1 := ho i (by omega)
    have n1 := nv_int h1.1
    have e32 : zat I 32 300 (Int32.ofNat i) = Int32.ofNat (nv (I 32 i)) := by rw [zat_nat (by omega) (by omega), nv_of h1.1]
    rw [zgo_q, S74_3 xs L (d + 1), nat_pred, e32, zat_nat (a := 29) (k := nv (I 32 i)) (by omega) (by omega), if_neg (fun z => by
      have z := (nat_lt (a := i) (b := 0) (by omega) (by omega)).mp (of_decide_eq_true z)
      omega)]
    have hdef : zhtw I s near (i + 1) = if near < I 29 s - I 29 (nv (I 32 i)) then false else (decide (ztwin I (nv (I 32 i)) s) || zhtw I s near i) := rfl
    by_cases c1 : near < I 29 s - I 29 (nv (I 32 i))
    · rw [if_pos (decide_eq_true c1), hdef, if_pos c1]
      rfl
    rw [if_neg (fun z => c1 (of_decide_eq_true z)), twin_eq xs L _ (by omega) I J X (nv (I 32 i)) s (by omega) (by omega) (hb _ (by omega)) (hb s hs), zci_i, T74_3_17_683 xs L (d + 1), hdef, if_neg c1]
    by_cases c2 : ztwin I (nv (I 32 i)) s
    · rw [if_neg (fun z => by
        have z := of_decide_eq_true z
        rw [zbi_eq0] at z
        exact z c2), decide_eq_true c2]
      rfl
    · rw [if_pos (decide_eq_true (zbi_eq0.mpr c2)), decide_eq_false c2, zth_go]
      have e : Int32.ofNat i + (-1 : Int32) = Int32.ofNat i - 1 := (Int32.sub_eq_add_neg _ _).symm
      rw [e]
      exact ih
theorem htw_eq (xs : Nat → Int32) (L D : Nat) (hD : 8 ≤ D) (V I : Nat → Nat → Int32) (J : Nat → Nat → Int64) (X : XH) (k : Int32) (n p : Nat) (hn2 : n ≤ 300) (hp : p < n) (ho : ∀ p, p < n → 0 ≤ (I 32 p).toInt ∧ (I 32 p).toInt < n) (hb : ∀ q, q < n → 0 ≤ (I 27 q).toInt ∧ (I 27 q).toInt < 24) (hT : ∀ l, l < 9 → ∃ ρ O, zTm V I X k l (nv (V 92 l)) ρ O) (hf : ∀ s, s < n → I 33 s = -1 ∨ ((0 ≤ (I 33 s).toInt ∧ (I 33 s).toInt < 40) ∧ 0 ≤ (I 4 (nv (I 33 s))).toInt ∧ (I 4 (nv (I 33 s))).toInt < 9)) : zev xs L D 74 [.ref 26, .int (Int32.ofNat p), .int k] (zmk I J X) = some (.inr (some (.int (if ¬ I 33 (nv (I 32 p)) = -1 ∧ zhtw I (nv (I 32 p)) (znearR V I (I 33 (nv (I 32 p))) (I 29 (nv (I 32 p))) k) p = true then 1 else 0))), zmk I J X) := by
  obtain ⟨d, rfl⟩ := Nat.exists_eq_add_of_le hD
  rw [show 8 + d = d + 2 + 6 by omega]
  refine (zcS (S74_0 xs L (d + 2) I J X _ _)).trans ?_
  have h1 := ho p hp
  have n1 := nv_int h1.1
  have e32 : zat I 32 300 (Int32.ofNat p) = Int32.ofNat (nv (I 32 p)) := by rw [zat_nat (by omega) (by omega), nv_of h1.1]
  obtain ⟨s, hs⟩ : ∃ s, s = nv (I 32 p) := ⟨_, rfl⟩
  have hsn : s < n := by omega
  have e33 : zat I 33 300 (Int32.ofNat s) = I 33 s := zat_nat (by omega) (by omega)
  have e29 : zat I 29 300 (Int32.ofNat s) = I 29 s := zat_nat (by omega) (by omega)
  rw [e32, ← hs, e33, e29]
  by_cases c : I 33 s = -1
  · rw [if_neg (fun z => (of_decide_eq_true z) c), if_neg (fun z => z.1 c)]
    rfl
  rw [if_pos (decide_eq_true (show ¬ I 33 s = -1 from c))]
  have hfi := (hf s hsn).resolve_left c
  have hlt : zland I (I 33 s) < 9 := by
    have := nv_int hfi.2.1
    unfold zland
    omega
  obtain ⟨ρ, O, hTm⟩ := hT (zland I (I 33 s)) hlt
  have hl : zat I 4 40 (I 33 s) = Int32.ofNat (zland I (I 33 s)) := (zat_of hfi.1.1 hfi.1.2).trans (nv_of hfi.2.1).symm
  obtain ⟨f1, f2, f3⟩ := zTm_find J hTm (I 29 s)
  rw [hl, find_eq xs L _ (by omega) I J X _ _ ρ _ O (I 29 s) k hTm.2.2.1, zcr_r, T74_1_15_676, if_pos f1, f3, zth_go]
  have q := htw_loop xs L (d + 1) I J X (Int32.ofNat p) k (znear V (zland I (I 33 s)) (nv (V 92 (zland I (I 33 s)))) (I 29 s) k) n s hn2 hsn ho hb p (by omega)
  refine q.trans ?_
  by_cases c2 : zhtw I s (znearR V I (I 33 s) (I 29 s) k) p = true
  · have c2' : zhtw I s (znear V (zland I (I 33 s)) (nv (V 92 (zland I (I 33 s)))) (I 29 s) k) p = true := c2
    rw [if_pos c2', if_pos ⟨c, c2⟩]
  · have c2' : ¬ zhtw I s (znear V (zland I (I 33 s)) (nv (V 92 (zland I (I 33 s)))) (I 29 s) k) p = true := c2
    rw [if_neg c2', if_neg (fun z => c2 z.2)]
/-- which signals are double, through the order -/
def zdb (V I : Nat → Nat → Int32) (k : Int32) (g : Nat → Int32) : Nat → Nat → Int32
  | 0 => g
  | p + 1 => zset (zdb V I k g p) (nv (I 32 p)) (if ¬ I 33 (nv (I 32 p)) = -1 ∧ zhtw I (nv (I 32 p)) (znearR V I (I 33 (nv (I 32 p))) (I 29 (nv (I 32 p))) k) p = true then 1 else 0)
theorem zhtw_34 {I : Nat → Nat → Int32} {g : Nat → Int32} {s : Nat} {near : Int32} : ∀ i, zhtw (zov I 34 g) s near i = zhtw I s near i
  | 0 => rfl
  | i + 1 => by
    have ih := zhtw_34 (I := I) (g := g) (s := s) (near := near) i
    show (if near < I 29 s - I 29 (nv (I 32 i)) then false else (decide (ztwin I (nv (I 32 i)) s) || zhtw (zov I 34 g) s near i)) = _
    rw [ih]
    rfl
theorem know_l2 (xs : Nat → Int32) (L d : Nat) (V I : Nat → Nat → Int32) (J : Nat → Nat → Int64) (X : XH) (k : Int32) (g : Nat → Int32) (n : Nat) (hn : I 26 4 = Int32.ofNat n) (hn2 : n ≤ 300) (ho : ∀ p, p < n → 0 ≤ (I 32 p).toInt ∧ (I 32 p).toInt < n) (hb : ∀ q, q < n → 0 ≤ (I 27 q).toInt ∧ (I 27 q).toInt < 24) (hT : ∀ l, l < 9 → ∃ ρ O, zTm V I X k l (nv (V 92 l)) ρ O) (hf : ∀ s, s < n → I 33 s = -1 ∨ ((0 ≤ (I 33 s).toInt ∧ (I 33 s).toInt < 40) ∧ 0 ≤ (I 4 (nv (I 33 s))).toInt ∧ (I 4 (nv (I 33 s))).toInt < 9)) : ∀ (j i : Nat), i + j = n → zgo xs L (d + 8) 70 7 [(0, .ref 26), (1, .int k), (2, .int (Int32.ofNat i))] (zmk (zov I 34 (zdb V I k g i)) J X) = some (.inr none, zmk (zov I 34 (zdb V I k g n)) J X)
  | 0, i, hi => by
    have hi : i = n := by omega
    subst hi
    have e1 : zov I 34 (zdb V I k g i) 26 4 = I 26 4 := rfl
    rw [zgo_q, S70_7 xs L (d + 3), e1, hn, if_pos (decide_eq_true ((nat_le (by omega) (by omega)).mpr (Nat.le_refl _)))]
    rfl
  | j + 1, i, hi => by
    have ih := know_l2 xs L d V I J X k g n hn hn2 ho hb hT hf j (i + 1) (by omega)
    have h1 := ho i (by omega)
    have n1 := nv_int h1.1
    have e1 : zov I 34 (zdb V I k g i) 26 4 = I 26 4 := rfl
    have e32 : zat (zov I 34 (zdb V I k g i)) 32 300 (Int32.ofNat i) = Int32.ofNat (nv (I 32 i)) := by
      rw [zat_nat (by omega) (by omega), zov_ne (by decide), nv_of h1.1]
    have hput : ∀ v, zput (zov I 34 (zdb V I k g i)) 34 300 (Int32.ofNat (nv (I 32 i))) v = zov I 34 (zset (zdb V I k g i) (nv (I 32 i)) v) := by
      intro v
      rw [zput_nat (by omega) (by omega), zup_zov]
    have q := htw_eq xs L (d + 3 + 5) (by omega) V (zov I 34 (zdb V I k g i)) J X k n i hn2 (by omega) ho hb (fun l hl => by
      obtain ⟨ρ, O, h⟩ := hT l hl
      exact ⟨ρ, O, zTm_34 h⟩) hf
    rw [zgo_q, S70_7 xs L (d + 3), e1, hn, if_neg (fun z => by
      have := (nat_le (by omega) (by omega)).mp (of_decide_eq_true z)
      omega), e32, q, zci_i, T70_7_13_687 xs L (d + 3), hput, hput, nat_succ]
    have es : ∀ b : Int32, (b = if ¬ I 33 (nv (I 32 i)) = -1 ∧ zhtw I (nv (I 32 i)) (znearR V I (I 33 (nv (I 32 i))) (I 29 (nv (I 32 i))) k) i = true then 1 else 0) → zset (zdb V I k g i) (nv (I 32 i)) b = zdb V I k g (i + 1) := fun b hb => by rw [hb]; rfl
    by_cases c : ¬ I 33 (nv (I 32 i)) = -1 ∧ zhtw I (nv (I 32 i)) (znearR V I (I 33 (nv (I 32 i))) (I 29 (nv (I 32 i))) k) i = true
    · have e : (if ¬ zov I 34 (zdb V I k g i) 33 (nv (zov I 34 (zdb V I k g i) 32 i)) = -1 ∧ zhtw (zov I 34 (zdb V I k g i)) (nv (zov I 34 (zdb V I k g i) 32 i)) (znearR V (zov I 34 (zdb V I k g i)) (zov I 34 (zdb V I k g i) 33 (nv (zov I 34 (zdb V I k g i) 32 i))) (zov I 34 (zdb V I k g i) 29 (nv (zov I 34 (zdb V I k g i) 32 i))) k) i = true then (1 : Int32) else 0) = 1 := if_pos ⟨c.1, by rw [zhtw_34]; exact c.2⟩
      rw [e, if_neg (by decide), zth_go, es 1 (by rw [if_pos c])]
      exact ih
    · have e : (if ¬ zov I 34 (zdb V I k g i) 33 (nv (zov I 34 (zdb V I k g i) 32 i)) = -1 ∧ zhtw (zov I 34 (zdb V I k g i)) (nv (zov I 34 (zdb V I k g i) 32 i)) (znearR V (zov I 34 (zdb V I k g i)) (zov I 34 (zdb V I k g i) 33 (nv (zov I 34 (zdb V I k g i) 32 i))) (zov I 34 (zdb V I k g i) 29 (nv (zov I 34 (zdb V I k g i) 32 i))) k) i = true then (1 : Int32) else 0) = 0 := if_neg (fun z => c ⟨z.1, by
        have z := z.2
        rw [zhtw_34] at z
        exact z⟩)
      rw [e, if_pos (by decide), zth_go, es 0 (by rw [if_neg c])]
      exact ih
