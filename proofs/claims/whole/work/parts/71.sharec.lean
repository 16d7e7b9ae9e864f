/-! THE PURE PART: the class's share of a land. -/
noncomputable def yal (V : Nat → Nat → Int32) (C : Nat → List (Bool × List Int32)) (k : Int32) (p : Nat) : Nat → Int64
  | 0 => Int64.ofNat 0
  | n + 1 => yal V C k p n + ydb V C k p n
noncomputable def ydp (V : Nat → Nat → Int32) (C : Nat → List (Bool × List Int32)) (k : Int32) (p l : Nat) : Nat → Int64
  | 0 => Int64.ofNat 0
  | m + 1 => ydp V C k p l m + ydu V C k p l m
noncomputable def yee (V : Nat → Nat → Int32) (C : Nat → List (Bool × List Int32)) (k : Int32) (p : Nat) : Nat → Int := fun j => (ydb V C k p j).toInt
theorem yal_int {V : Nat → Nat → Int32} (hB : PB V) (hR : PRat V) (C : Nat → List (Bool × List Int32)) (k : Int32) (p : Nat) : ∀ n, n ≤ 9 → (yal V C k p n).toInt = ysI (yee V C k p) n ∧ 0 ≤ ysI (yee V C k p) n ∧ ysI (yee V C k p) n ≤ 5183896320519 * n
  | 0, _ => by
    refine ⟨i64_00, Int.le_refl _, ?_⟩
    show (0 : Int) ≤ 5183896320519 * ((0 : Nat) : Int)
    omega
  | n + 1, hn => by
    obtain ⟨a, b, c⟩ := yal_int hB hR C k p n (by omega)
    have q := ydb_rg hB hR C k p n
    have e : yee V C k p n = (ydb V C k p n).toInt := rfl
    show (yal V C k p n + ydb V C k p n).toInt = ysI (yee V C k p) n + yee V C k p n ∧ 0 ≤ ysI (yee V C k p) n + yee V C k p n ∧ ysI (yee V C k p) n + yee V C k p n ≤ _
    rw [i64_add (by omega) (by omega), a, e]
    omega
theorem dbt_m (xs : Nat → Int32) (L d : Nat) {V H : Nat → Nat → Int32} (J : Nat → Nat → Int64) (X : XH) {C : Nat → List (Bool × List Int32)} (k : Int32) (p l : Nat) (al : Int64) (hB : PB V) (hK : PBlk V) (hRt : PRat V) (hl : l < 9) (hC : zCH V k H) (J0 : Nat → Nat → Int64) (hJ : J 54 = (ysum V C k (Int32.ofNat p) J0).1) : ∀ (j m : Nat), m + j = 3 → zgo xs L (d + 2 + 5) 26 5 [(0, .ref 53), (1, .int k), (2, .long al), (4, .int (Int32.ofNat l)), (5, .long (ydp V C k p l m)), (7, .int (Int32.ofNat m))] (zmk H J X) = zgo xs L (d + 2 + 5) 26 2 [(0, .ref 53), (1, .int k), (2, .long (al + ydb V C k p l)), (4, .int (Int32.ofNat (l + 1)))] (zmk H (zup J 56 l (ydb V C k p l)) X)
  | 0, m, hm => by
    have hm : m = 3 := by omega
    subst hm
    rw [zgo_q, S26_5 xs L (d + 2), if_pos (by decide), zth_go, nat_succ, zlput_nat hl (by omega)]
    rfl
  | j + 1, m, hm => by
    have ih := dbt_m xs L d J X k p l al hB hK hRt hl hC J0 hJ j (m + 1) (by omega)
    rw [zgo_q, S26_5 xs L (d + 2), if_neg (fun z => by
      have := (nat_le (a := 3) (b := m) (by omega) (by omega)).mp (of_decide_eq_true z)
      omega), dueFor_c xs L _ (by omega) J X k p l m hB hK hRt hl (by omega) hC J0 hJ, zcl_l, T26_5_9_691 xs L (d + 2), zth_go, nat_succ]
    exact ih
theorem dbt_l (xs : Nat → Int32) (L d : Nat) {V H : Nat → Nat → Int32} (X : XH) {C : Nat → List (Bool × List Int32)} (k : Int32) (p : Nat) (hB : PB V) (hK : PBlk V) (hRt : PRat V) (hC : zCH V k H) (J0 : Nat → Nat → Int64) : ∀ (j l : Nat) (J : Nat → Nat → Int64), l + j = 9 → J 54 = (ysum V C k (Int32.ofNat p) J0).1 → (∀ i, i < l → J 56 i = ydb V C k p i) → ∃ J', zgo xs L (d + 2 + 5) 26 2 [(0, .ref 53), (1, .int k), (2, .long (yal V C k p l)), (4, .int (Int32.ofNat l))] (zmk H J X) = some (.inr (some (.long (yal V C k p 9))), zmk H J' X) ∧ (∀ a, a ≠ 56 → J' a = J a) ∧ ∀ i, i < 9 → J' 56 i = ydb V C k p i
  | 0, l, J, hl, hJ, h56 => by
    have hl : l = 9 := by omega
    subst hl
    refine ⟨J, ?_, fun _ _ => rfl, h56⟩
    rw [zgo_q, S26_2 xs L (d + 2), if_pos (by decide)]
    rfl
  | j + 1, l, J, hl, hJ, h56 => by
    obtain ⟨J', q1, q2, q3⟩ := dbt_l xs L d X k p hB hK hRt hC J0 j (l + 1) (zup J 56 l (ydb V C k p l)) (by omega) (by
      show zup J 56 l _ 54 = _
      exact (if_neg (by decide)).trans hJ) (fun i hi => by
      by_cases c : i = l
      · rw [c, zup_at]
      · have e : zup J 56 l (ydb V C k p l) 56 i = J 56 i := by
          unfold zup
          rw [if_pos rfl, if_neg c]
        rw [e]
        exact h56 i (by omega))
    refine ⟨J', ?_, fun a ha => (q2 a ha).trans (if_neg ha), q3⟩
    rw [zgo_q, S26_2 xs L (d + 2), if_neg (fun z => by
      have := (nat_le (a := 9) (b := l) (by omega) (by omega)).mp (of_decide_eq_true z)
      omega), zth_go]
    exact (dbt_m xs L d J X k p l (yal V C k p l) hB hK hRt (by omega) hC J0 hJ 3 0 (by omega)).trans q1
theorem debts_c (xs : Nat → Int32) (L D : Nat) (hD : 8 ≤ D) {V H : Nat → Nat → Int32} (J : Nat → Nat → Int64) (X : XH) {C : Nat → List (Bool × List Int32)} (k : Int32) (p : Nat) (hB : PB V) (hK : PBlk V) (hRt : PRat V) (hC : zCH V k H) (J0 : Nat → Nat → Int64) (hJ : J 54 = (ysum V C k (Int32.ofNat p) J0).1) : ∃ J', zev xs L D 26 [.ref 53, .int k] (zmk H J X) = some (.inr (some (.long (yal V C k p 9))), zmk H J' X) ∧ (∀ a, a ≠ 56 → J' a = J a) ∧ ∀ i, i < 9 → J' 56 i = ydb V C k p i := by
  obtain ⟨d, rfl⟩ := Nat.exists_eq_add_of_le hD
  rw [show 8 + d = d + 2 + 6 by omega]
  obtain ⟨J', q1, q2⟩ := dbt_l xs L d X k p hB hK hRt hC J0 9 0 J (Nat.zero_add _) hJ (fun i hi => absurd hi (Nat.not_lt_zero i))
  refine ⟨J', ?_, q2⟩
  refine (zcS (S26_0 xs L (d + 2) H J X k)).trans ?_
  rw [zth_go]
  exact q1
/-- the share: its whole part, and one more for those that lost most -/
noncomputable def yshr (dep : Int) (e : Nat → Int) (n l : Nat) : Int := if ysI e n ≤ dep then e l else yfl9 dep (ysI e n) e l + (if (zcnt (fun i => decide (yah (yrm9 dep (ysI e n) e) i l)) n : Int) < dep - ysI (yfl9 dep (ysI e n) e) n then 1 else 0)
theorem shr_loop (xs : Nat → Int32) (L d : Nat) {V : Nat → Nat → Int32} (H : Nat → Nat → Int32) (J : Nat → Nat → Int64) (X : XH) {C : Nat → List (Bool × List Int32)} (k : Int32) (p l : Nat) (hB : PB V) (hRt : PRat V) (hl : l < 9) (dep al rest : Int64) (hdep : 0 ≤ dep.toInt ∧ dep.toInt ≤ 1000000) (hal : al.toInt = ysI (yee V C k p) 9) (hA : dep.toInt < ysI (yee V C k p) 9) (hrest : rest.toInt = yrm9 dep.toInt (ysI (yee V C k p) 9) (yee V C k p) l) (h56 : ∀ i, i < 9 → J 56 i = ydb V C k p i) : ∀ (j i : Nat) (left : Int64), i + j = 9 → left.toInt = dep.toInt - ysI (yfl9 dep.toInt (ysI (yee V C k p) 9) (yee V C k p)) i → ∃ v, zgo xs L (d + 5) 25 4 [(0, .ref 53), (1, .int (Int32.ofNat l)), (2, .long dep), (4, .int k), (5, .long al), (7, .long (ydb V C k p l)), (9, .long left), (11, .int (Int32.ofNat (zcnt (fun i => decide (yah (yrm9 dep.toInt (ysI (yee V C k p) 9) (yee V C k p)) i l)) i))), (12, .long rest), (14, .int (Int32.ofNat i))] (zmk H J X) = some (.inr (some (.long v)), zmk H J X) ∧ v.toInt = yfl9 dep.toInt (ysI (yee V C k p) 9) (yee V C k p) l + (if (zcnt (fun i => decide (yah (yrm9 dep.toInt (ysI (yee V C k p) 9) (yee V C k p)) i l)) 9 : Int) < dep.toInt - ysI (yfl9 dep.toInt (ysI (yee V C k p) 9) (yee V C k p)) 9 then 1 else 0) := by
  have hb9 := (yal_int hB hRt C k p 9 (Nat.le_refl _)).2
  have hal0 : ¬ al = 0 := fun z => by
    rw [z, i64_0] at hal
    omega
  have hprod : ∀ i, 0 ≤ dep.toInt * (ydb V C k p i).toInt ∧ dep.toInt * (ydb V C k p i).toInt ≤ 1000000 * 5183896320519 := fun i => by
    have q := ydb_rg hB hRt C k p i
    exact ⟨Int.mul_nonneg hdep.1 q.1, Int.mul_le_mul hdep.2 q.2 q.1 (by omega)⟩
  have hpm : ∀ i, (dep * ydb V C k p i).toInt = dep.toInt * (ydb V C k p i).toInt := fun i => by
    have := hprod i
    exact i64_mul (by omega) (by omega)
  have hal1 : 0 < al.toInt := by omega
  have hfl : ∀ i, (dep * ydb V C k p i / al).toInt = yfl9 dep.toInt (ysI (yee V C k p) 9) (yee V C k p) i := fun i => by
    have := hprod i
    rw [i64_div (by rw [hpm]; omega) hal1, hpm, hal]
    rfl
  have hrm : ∀ i, (dep * ydb V C k p i - dep * ydb V C k p i / al * al).toInt = yrm9 dep.toInt (ysI (yee V C k p) 9) (yee V C k p) i := fun i => by
    have := hprod i
    rw [i64_rem (by rw [hpm]; omega) hal1, hpm, hal]
    rfl
  have hfl0 : ∀ i, 0 ≤ yfl9 dep.toInt (ysI (yee V C k p) 9) (yee V C k p) i ∧ yfl9 dep.toInt (ysI (yee V C k p) 9) (yee V C k p) i ≤ 5183896320519000000 := fun i => by
    have h := hprod i
    have e : yfl9 dep.toInt (ysI (yee V C k p) 9) (yee V C k p) i = dep.toInt * (ydb V C k p i).toInt / ysI (yee V C k p) 9 := rfl
    rw [e]
    refine ⟨Int.ediv_nonneg h.1 (by omega), ?_⟩
    have := Int.ediv_le_self (ysI (yee V C k p) 9) h.1
    omega
  have hsum : ∀ i, i ≤ 9 → 0 ≤ ysI (yfl9 dep.toInt (ysI (yee V C k p) 9) (yee V C k p)) i ∧ ysI (yfl9 dep.toInt (ysI (yee V C k p) 9) (yee V C k p)) i ≤ dep.toInt := fun i hi => by
    have h0 := fun n => ysI_0 (g := yfl9 dep.toInt (ysI (yee V C k p) 9) (yee V C k p)) (n := n) (fun i _ => (hfl0 i).1)
    refine ⟨h0 i, ?_⟩
    have h9 := (left_rg (n := 9) (e := yee V C k p) (by decide) rfl (by omega) hdep.1).1
    have hmono : ∀ q n, ysI (yfl9 dep.toInt (ysI (yee V C k p) 9) (yee V C k p)) n ≤ ysI (yfl9 dep.toInt (ysI (yee V C k p) 9) (yee V C k p)) (n + q) := by
      intro q
      induction q with
      | zero =>
        intro n
        exact Int.le_refl _
      | succ q ih =>
        intro n
        have a := ih n
        have b := (hfl0 (n + q)).1
        show _ ≤ ysI _ (n + q) + yfl9 _ _ _ (n + q)
        omega
    have := hmono (9 - i) i
    rw [show i + (9 - i) = 9 by omega] at this
    omega
  intro j
  induction j with
  | zero =>
    intro i left hi hleft
    have hi : i = 9 := by omega
    subst hi
    have hc9 := zcnt_le (fun i => decide (yah (yrm9 dep.toInt (ysI (yee V C k p) 9) (yee V C k p)) i l)) 9
    have e11 : (Int32.ofNat (zcnt (fun i => decide (yah (yrm9 dep.toInt (ysI (yee V C k p) 9) (yee V C k p)) i l)) 9)).toInt64.toInt = (zcnt (fun i => decide (yah (yrm9 dep.toInt (ysI (yee V C k p) 9) (yee V C k p)) i l)) 9 : Int) := by
      rw [i64_of32, i32_toInt (by omega)]
    have hv0 := hfl l
    have hl0 := hfl0 l
    by_cases c : (zcnt (fun i => decide (yah (yrm9 dep.toInt (ysI (yee V C k p) 9) (yee V C k p)) i l)) 9 : Int) < dep.toInt - ysI (yfl9 dep.toInt (ysI (yee V C k p) 9) (yee V C k p)) 9
    · refine ⟨dep * ydb V C k p l / al + (1 : Int32).toInt64, ?_, ?_⟩
      · rw [zgo_q, S25_4, if_pos (by decide), if_neg hal0, if_neg (fun z => by
          have z := cmp_ge.mp (of_decide_eq_true z)
          rw [e11] at z
          omega)]
        rfl
      · have e1 : (1 : Int32).toInt64.toInt = 1 := by decide
        rw [if_pos c, i64_add (by rw [e1]; omega) (by rw [e1]; omega), hv0, e1]
    · refine ⟨dep * ydb V C k p l / al + (0 : Int32).toInt64, ?_, ?_⟩
      · rw [zgo_q, S25_4, if_pos (by decide), if_neg hal0, if_pos (decide_eq_true (cmp_ge.mpr (by rw [e11]; omega)))]
        rfl
      · have e1 : (0 : Int32).toInt64.toInt = 0 := by decide
        rw [if_neg c, i64_add (by rw [e1]; omega) (by rw [e1]; omega), hv0, e1]
  | succ j ih =>
    intro i left hi hleft
    have hz : zlat J 56 9 (Int32.ofNat i) = ydb V C k p i := by rw [zlat_nat (by omega) (by omega), h56 i (by omega)]
    have hl2 : (left - dep * ydb V C k p i / al).toInt = dep.toInt - ysI (yfl9 dep.toInt (ysI (yee V C k p) 9) (yee V C k p)) (i + 1) := by
      have a := hsum i (by omega)
      have b := hfl0 i
      rw [i64_sub (by rw [hfl]; omega) (by rw [hfl]; omega), hfl, hleft]
      show _ = _ - (ysI _ i + _)
      omega
    obtain ⟨v, q1, q2⟩ := ih (i + 1) (left - dep * ydb V C k p i / al) (by omega) hl2
    refine ⟨v, ?_, q2⟩
    have hc9 := zcnt_le (fun i => decide (yah (yrm9 dep.toInt (ysI (yee V C k p) 9) (yee V C k p)) i l)) i
    have hyes : yah (yrm9 dep.toInt (ysI (yee V C k p) 9) (yee V C k p)) i l → zcnt (fun i => decide (yah (yrm9 dep.toInt (ysI (yee V C k p) 9) (yee V C k p)) i l)) (i + 1) = zcnt (fun i => decide (yah (yrm9 dep.toInt (ysI (yee V C k p) 9) (yee V C k p)) i l)) i + 1 := fun z => by
      show _ + (if decide _ = true then 1 else 0) = _
      rw [if_pos (decide_eq_true z)]
    have hno : ¬ yah (yrm9 dep.toInt (ysI (yee V C k p) 9) (yee V C k p)) i l → zcnt (fun i => decide (yah (yrm9 dep.toInt (ysI (yee V C k p) 9) (yee V C k p)) i l)) (i + 1) = zcnt (fun i => decide (yah (yrm9 dep.toInt (ysI (yee V C k p) 9) (yee V C k p)) i l)) i := fun z => by
      show _ + (if decide _ = true then 1 else 0) = _
      rw [if_neg (fun y => z (of_decide_eq_true y))]
      rfl
    rw [zgo_q, S25_4, if_neg (fun z => by
      have := (nat_le (a := 9) (b := i) (by omega) (by omega)).mp (of_decide_eq_true z)
      omega), if_neg hal0, if_neg hal0, if_neg hal0, hz, nat_succ]
    by_cases c1 : yrm9 dep.toInt (ysI (yee V C k p) 9) (yee V C k p) l < yrm9 dep.toInt (ysI (yee V C k p) 9) (yee V C k p) i
    · rw [hyes (Or.inl c1)] at q1
      rw [if_pos (decide_eq_true (cmp_gt.mpr (by rw [hrm, hrest]; exact c1))), zth_go, nat_succ]
      exact q1
    · rw [if_neg (fun z => c1 (by
        have z := cmp_gt.mp (of_decide_eq_true z)
        rw [hrm, hrest] at z
        exact z))]
      by_cases c2 : yrm9 dep.toInt (ysI (yee V C k p) 9) (yee V C k p) l = yrm9 dep.toInt (ysI (yee V C k p) 9) (yee V C k p) i
      · rw [if_neg (fun z => (of_decide_eq_true z) (cmp_eq.mpr (by rw [hrm, hrest]; exact c2.symm)))]
        by_cases c3 : i < l
        · rw [hyes (Or.inr ⟨c2, c3⟩)] at q1
          rw [if_neg (fun z => by
            have := (nat_le (by omega) (by omega)).mp (of_decide_eq_true z)
            omega), zth_go, nat_succ]
          exact q1
        · rw [hno (fun z => z.elim c1 (fun w => c3 w.2))] at q1
          rw [if_pos (decide_eq_true ((nat_le (by omega) (by omega)).mpr (by omega))), zth_go, nat_succ]
          exact q1
      · rw [hno (fun z => z.elim c1 (fun w => c2 w.1))] at q1
        rw [if_pos (decide_eq_true (show ¬ lg_cmp (dep * ydb V C k p i - dep * ydb V C k p i / al * al) rest = 0 from fun z => c2 (by
          have z := cmp_eq.mp z
          rw [hrm, hrest] at z
          exact z.symm))), zth_go, nat_succ]
        exact q1
theorem share_c (xs : Nat → Int32) (L D : Nat) (hD : 9 ≤ D) {V H : Nat → Nat → Int32} (J : Nat → Nat → Int64) (X : XH) {C : Nat → List (Bool × List Int32)} (k : Int32) (p l : Nat) (dep : Int64) (hB : PB V) (hK : PBlk V) (hRt : PRat V) (hl : l < 9) (hC : zCH V k H) (J0 : Nat → Nat → Int64) (hJ : J 54 = (ysum V C k (Int32.ofNat p) J0).1) (hdep : 0 ≤ dep.toInt ∧ dep.toInt ≤ 1000000) : ∃ v J', zev xs L D 25 [.ref 53, .int (Int32.ofNat l), .long dep, .int k] (zmk H J X) = some (.inr (some (.long v)), zmk H J' X) ∧ v.toInt = yshr dep.toInt (yee V C k p) 9 l ∧ (∀ a, a ≠ 56 → J' a = J a) := by
  obtain ⟨d, rfl⟩ := Nat.exists_eq_add_of_le hD
  rw [show 9 + d = d + 3 + 6 by omega]
  obtain ⟨J', q1, q2, q3⟩ := debts_c xs L (d + 3 + 5) (by omega) J X k p hB hK hRt hC J0 hJ
  have ha := yal_int hB hRt C k p 9 (Nat.le_refl _)
  have hz : zlat J' 56 9 (Int32.ofNat l) = ydb V C k p l := by rw [zlat_nat (by omega) (by omega), q3 l hl]
  have S := zcS (as := [.ref 53, .int (Int32.ofNat l), .long dep, .int k]) (S25_0 xs L (d + 3) H J X (Int32.ofNat l) dep k)
  rw [q1, zcl_l, T25_0_3_697 xs L (d + 3), hz] at S
  unfold yshr
  by_cases c : ysI (yee V C k p) 9 ≤ dep.toInt
  · rw [if_pos c]
    refine ⟨ydb V C k p l, J', ?_, rfl, q2⟩
    by_cases c0 : (yal V C k p 9).toInt ≤ 0
    · rw [if_pos (decide_eq_true (cmp_le.mpr (by rw [i64_00]; exact c0)))] at S
      exact S
    · rw [if_neg (fun z => c0 (by
        have z := cmp_le.mp (of_decide_eq_true z)
        rw [i64_00] at z
        exact z)), if_neg (fun z => by
        have z := cmp_gt.mp (of_decide_eq_true z)
        omega)] at S
      exact S
  · rw [if_neg c]
    have hal0 : ¬ yal V C k p 9 = 0 := fun z => by
      rw [z, i64_0] at ha
      omega
    have q := ydb_rg hB hRt C k p l
    have h1 : 0 ≤ dep.toInt * (ydb V C k p l).toInt := Int.mul_nonneg hdep.1 q.1
    have h2 : dep.toInt * (ydb V C k p l).toInt ≤ 1000000 * 5183896320519 := Int.mul_le_mul hdep.2 q.2 q.1 (by omega)
    have hpm : (dep * ydb V C k p l).toInt = dep.toInt * (ydb V C k p l).toInt := i64_mul (by omega) (by omega)
    rw [if_neg (fun z => by
      have z := cmp_le.mp (of_decide_eq_true z)
      rw [i64_00] at z
      omega), if_pos (decide_eq_true (cmp_gt.mpr (by omega))), if_neg hal0, zth_go] at S
    obtain ⟨v, r1, r2⟩ := shr_loop xs L (d + 3) H J' X k p l hB hRt hl dep (yal V C k p 9) (dep * ydb V C k p l - dep * ydb V C k p l / yal V C k p 9 * yal V C k p 9) hdep ha.1 (by omega) (by
      rw [i64_rem (by rw [hpm]; omega) (by omega), hpm, ha.1]
      rfl) q3 9 0 dep (Nat.zero_add _) (by
      show dep.toInt = dep.toInt - 0
      omega)
    exact ⟨v, J', S.trans r1, r2, q2⟩
/-- lands that there are not owe nothing, so that they don't tell -/
theorem yshr_n {dep : Int} {e : Nat → Int} {n l : Nat} (hl : l < n) (hdep : 0 ≤ dep) (he : ∀ i, 0 ≤ e i) : ∀ q, (∀ i, n ≤ i → e i = 0) → yshr dep e (n + q) l = yshr dep e n l
  | 0, _ => rfl
  | q + 1, h0 => by
    have ih := yshr_n hl hdep he q h0
    rw [← ih]
    have e0 : e (n + q) = 0 := h0 (n + q) (by omega)
    have es : ysI e (n + q + 1) = ysI e (n + q) := by
      show ysI e (n + q) + e (n + q) = _
      rw [e0]
      omega
    unfold yshr
    rw [show n + (q + 1) = n + q + 1 from rfl, es]
    by_cases c : ysI e (n + q) ≤ dep
    · rw [if_pos c, if_pos c]
    · rw [if_neg c, if_neg c]
      have hf : yfl9 dep (ysI e (n + q)) e (n + q) = 0 := by
        unfold yfl9
        rw [e0, Int.mul_zero]
        exact Int.zero_ediv _
      have hr : yrm9 dep (ysI e (n + q)) e (n + q) = 0 := by
        unfold yrm9
        rw [e0, Int.mul_zero]
        exact Int.zero_emod _
      have hs : ysI (yfl9 dep (ysI e (n + q)) e) (n + q + 1) = ysI (yfl9 dep (ysI e (n + q)) e) (n + q) := by
        show _ + yfl9 dep (ysI e (n + q)) e (n + q) = _
        rw [hf]
        omega
      have hrl : 0 ≤ yrm9 dep (ysI e (n + q)) e l := Int.emod_nonneg _ (by
        have := ysI_0 (g := e) (n := n + q) (fun i _ => he i)
        omega)
      have hn : ¬ yah (yrm9 dep (ysI e (n + q)) e) (n + q) l := fun z => by
        rcases z with z | z
        · rw [hr] at z
          omega
        · omega
      have hc : zcnt (fun i => decide (yah (yrm9 dep (ysI e (n + q)) e) i l)) (n + q + 1) = zcnt (fun i => decide (yah (yrm9 dep (ysI e (n + q)) e) i l)) (n + q) := by
        show _ + (if decide _ = true then 1 else 0) = _
        rw [if_neg (fun y => hn (of_decide_eq_true y))]
        rfl
      rw [hs, hc]
