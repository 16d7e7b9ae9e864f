/-! THE PURE PART: longs. -/
theorem i64_add {x y : Int64} (h1 : -9223372036854775808 ≤ x.toInt + y.toInt) (h2 : x.toInt + y.toInt ≤ 9223372036854775807) : (x + y).toInt = x.toInt + y.toInt := by
  rw [Int64.toInt_add]
  exact Int.bmod_eq_of_le (by omega) (by omega)
theorem i64_sub {x y : Int64} (h1 : -9223372036854775808 ≤ x.toInt - y.toInt) (h2 : x.toInt - y.toInt ≤ 9223372036854775807) : (x - y).toInt = x.toInt - y.toInt := by
  rw [Int64.toInt_sub]
  exact Int.bmod_eq_of_le (by omega) (by omega)
theorem i64_mul {x y : Int64} (h1 : -9223372036854775808 ≤ x.toInt * y.toInt) (h2 : x.toInt * y.toInt ≤ 9223372036854775807) : (x * y).toInt = x.toInt * y.toInt := by
  rw [Int64.toInt_mul]
  exact Int.bmod_eq_of_le (by omega) (by omega)
theorem i64_div {x y : Int64} (h1 : 0 ≤ x.toInt) (h2 : 0 < y.toInt) : (x / y).toInt = x.toInt / y.toInt := by
  rw [Int64.toInt_div_of_ne_left]
  · exact Int.tdiv_eq_ediv_of_nonneg h1
  · intro e
    rw [e] at h1
    exact absurd h1 (by decide)
theorem i64_eq {x y : Int64} : x = y ↔ x.toInt = y.toInt := Int64.toInt_inj.symm
theorem i64_0 : (0 : Int64).toInt = 0 := by decide
theorem i64_1 : (Int64.ofNat 1).toInt = 1 := by decide
theorem i64_00 : (Int64.ofNat 0).toInt = 0 := by decide
theorem i64_1000 : (Int64.ofNat 1000).toInt = 1000 := by decide
theorem i64_of32 (x : Int32) : x.toInt64.toInt = x.toInt := Int32.toInt_toInt64 x
theorem i64_lt {x y : Int64} : x < y ↔ x.toInt < y.toInt := Int64.lt_iff_toInt_lt
theorem cmp_gt {x y : Int64} : (0 < lg_cmp x y) ↔ y.toInt < x.toInt := by
  unfold lg_cmp
  by_cases c : x > y
  · rw [if_pos c]
    exact ⟨fun _ => i64_lt.mp c, fun _ => by decide⟩
  · rw [if_neg c]
    have c2 : ¬ y.toInt < x.toInt := fun z => c (i64_lt.mpr z)
    by_cases e : x = y
    · rw [if_pos e]
      exact ⟨fun z => absurd z (by decide), fun z => absurd z c2⟩
    · rw [if_neg e]
      exact ⟨fun z => absurd z (by decide), fun z => absurd z c2⟩
theorem cmp_le {x y : Int64} : (lg_cmp x y ≤ 0) ↔ x.toInt ≤ y.toInt := by
  have h := cmp_gt (x := x) (y := y)
  rw [i32_lt, i32_0] at h
  rw [i32_le, i32_0]
  omega
theorem cmp_eq {x y : Int64} : (lg_cmp x y = 0) ↔ x.toInt = y.toInt := by
  unfold lg_cmp
  by_cases c : x > y
  · rw [if_pos c]
    have c := i64_lt.mp c
    exact ⟨fun z => absurd z (by decide), fun z => by omega⟩
  · rw [if_neg c]
    by_cases e : x = y
    · rw [if_pos e]
      exact ⟨fun _ => by rw [e], fun _ => rfl⟩
    · rw [if_neg e]
      exact ⟨fun z => absurd z (by decide), fun z => absurd (i64_eq.mpr z) e⟩
theorem cmp_ge {x y : Int64} : (0 ≤ lg_cmp x y) ↔ y.toInt ≤ x.toInt := by
  have h1 := cmp_gt (x := x) (y := y)
  have h2 := cmp_eq (x := x) (y := y)
  rw [i32_lt, i32_0] at h1
  rw [i32_eq, i32_0] at h2
  rw [i32_le, i32_0]
  omega
theorem i64_rem {x y : Int64} (h1 : 0 ≤ x.toInt) (h2 : 0 < y.toInt) : (x - x / y * y).toInt = x.toInt % y.toInt := by
  have hx := Int64.toInt_lt x
  have e1 := i64_div h1 h2
  have h3 : 0 ≤ x.toInt / y.toInt := Int.ediv_nonneg h1 (Int.le_of_lt h2)
  have h4 : x.toInt / y.toInt * y.toInt ≤ x.toInt := Int.ediv_mul_le _ (Int.ne_of_gt h2)
  have h5 : 0 ≤ x.toInt / y.toInt * y.toInt := Int.mul_nonneg h3 (Int.le_of_lt h2)
  have e2 : (x / y * y).toInt = x.toInt / y.toInt * y.toInt := by
    rw [i64_mul (by rw [e1]; omega) (by rw [e1]; omega), e1]
  rw [i64_sub (by rw [e2]; omega) (by rw [e2]; omega), e2]
  have := Int.mul_ediv_add_emod x.toInt y.toInt
  rw [Int.mul_comm] at this
  omega
/-! charges and their sums stay small -/
theorem zchg_rg {val : Nat → Int32} : ∀ {cl : List (Bool × List Int32)} {to : Int32}, 0 ≤ to.toInt ∧ to.toInt ≤ 99999 → 0 ≤ (zchg val to cl).toInt ∧ (zchg val to cl).toInt ≤ 99999
  | [], _, h => h
  | (b, l) :: r, to, h => by
    show 0 ≤ (if b = true then zchg val (zmx 0 (zmn 99999 (zvl val l))) r else if zvl val l = 0 then zchg val to r else 0).toInt ∧ (if b = true then zchg val (zmx 0 (zmn 99999 (zvl val l))) r else if zvl val l = 0 then zchg val to r else 0).toInt ≤ 99999
    by_cases c : b = true
    · rw [if_pos c]
      refine zchg_rg ?_
      rw [zmx_int, zmn_int, i32_0]
      have e : (99999 : Int32).toInt = 99999 := by decide
      omega
    · rw [if_neg c]
      by_cases c2 : zvl val l = 0
      · rw [if_pos c2]
        exact zchg_rg h
      · rw [if_neg c2, i32_0]
        omega
theorem ych_rg {V : Nat → Nat → Int32} (hB : PB V) (C : Nat → List (Bool × List Int32)) (k : Int32) (b : Nat) {x : ZP} (hx : zPok V x) (g : Int32) : 0 ≤ (ych V C k b x g).toInt ∧ (ych V C k b x g).toInt ≤ 99999 := by
  have q := (hB.2.2.2.2.2.1.2.2.1 x.1 hx.1).1.2.2
  have e10 : (10 : Int32).toInt = 10 := by decide
  have e : ((10 : Int32) * V 66 x.1).toInt = 10 * (V 66 x.1).toInt := by
    rw [i32_mul (by rw [e10]; omega) (by rw [e10]; omega), e10]
  unfold ych
  by_cases c : x.2.2.2 = true
  · rw [if_pos c, i32_0]
    omega
  · rw [if_neg c]
    split
    · omega
    · exact zchg_rg (by omega)
theorem ysm_rg {V : Nat → Nat → Int32} (hB : PB V) (C : Nat → List (Bool × List Int32)) (k : Int32) (b l m : Nat) (u : Int32) : ∀ (r : List ZP) (G : Nat → Int32) (s : Int64), (∀ x, x ∈ r → zPok V x) → 0 ≤ s.toInt → s.toInt + 99999 * r.length ≤ 1000000000000000 → s.toInt ≤ (ysm V C k b l m u G r s).toInt ∧ (ysm V C k b l m u G r s).toInt ≤ s.toInt + 99999 * r.length
  | [], _, s, _, _, _ => by
    show s.toInt ≤ s.toInt ∧ s.toInt ≤ s.toInt + 99999 * ((0 : Nat) : Int)
    omega
  | x :: r, G, s, hx, h0, h1 => by
    have hlen : ((x :: r).length : Int) = r.length + 1 := by
      rw [List.length_cons]
      omega
    have hr := ych_rg hB C k b (hx x List.mem_cons_self) (G (zcell V x))
    have e := i64_of32 (ych V C k b x (G (zcell V x)))
    show s.toInt ≤ (ysm V C k b l m u (zgn V x G) r (if yis V k b l m u x then s + (ych V C k b x (G (zcell V x))).toInt64 else s)).toInt ∧ _
    by_cases c : yis V k b l m u x
    · rw [if_pos c]
      have ea : (s + (ych V C k b x (G (zcell V x))).toInt64).toInt = s.toInt + (ych V C k b x (G (zcell V x))).toInt := by
        rw [i64_add (by rw [e]; omega) (by rw [e]; omega), e]
      have ih := ysm_rg hB C k b l m u r (zgn V x G) (s + (ych V C k b x (G (zcell V x))).toInt64) (fun y hy => hx y (List.mem_cons_of_mem _ hy)) (by omega) (by omega)
      have ed : ysm V C k b l m u G (x :: r) s = ysm V C k b l m u (zgn V x G) r (s + (ych V C k b x (G (zcell V x))).toInt64) := by
        show ysm V C k b l m u (zgn V x G) r (if yis V k b l m u x then _ else s) = _
        rw [if_pos c]
      rw [ed]
      omega
    · rw [if_neg c]
      have ih := ysm_rg hB C k b l m u r (zgn V x G) s (fun y hy => hx y (List.mem_cons_of_mem _ hy)) h0 (by omega)
      have ed : ysm V C k b l m u G (x :: r) s = ysm V C k b l m u (zgn V x G) r s := by
        show ysm V C k b l m u (zgn V x G) r (if yis V k b l m u x then _ else s) = _
        rw [if_neg c]
      rw [ed]
      omega
theorem ybo_rg {V : Nat → Nat → Int32} (hB : PB V) (C : Nat → List (Bool × List Int32)) (k : Int32) (l m : Nat) (u : Int32) (b : Nat) : 0 ≤ (ybo V C k l m u b).toInt ∧ (ybo V C k l m u b).toInt ≤ 719992800 := by
  have h := ytk_len hB k b
  have q := ysm_rg hB C k b l m u (ytk V k b) (fun _ => 0) 0 (fun x hx => (ytk_ok hB k b x hx).1) (by rw [i64_0]; omega) (by rw [i64_0]; omega)
  rw [i64_0] at q
  unfold ybo
  omega
theorem yto_rg {V : Nat → Nat → Int32} (hB : PB V) (C : Nat → List (Bool × List Int32)) (k pr : Int32) (l m : Nat) (u : Int32) : ∀ (j b : Nat) (s : Int64), j ≤ 24 → 0 ≤ s.toInt → s.toInt + 719992800 * j ≤ 17279827200 → s.toInt ≤ (yto V C k pr l m u j b s).toInt ∧ (yto V C k pr l m u j b s).toInt ≤ s.toInt + 719992800 * j
  | 0, _, s, _, _, _ => by
    show s.toInt ≤ s.toInt ∧ s.toInt ≤ s.toInt + 719992800 * ((0 : Nat) : Int)
    omega
  | j + 1, b, s, hj, h0, h1 => by
    have q := ybo_rg hB C k l m u b
    have hd : yto V C k pr l m u (j + 1) b s = yto V C k pr l m u j (b + 1) (if yask V pr b = true then s + ybo V C k l m u b else s) := rfl
    rw [hd]
    by_cases c : yask V pr b = true
    · rw [if_pos c]
      have ea : (s + ybo V C k l m u b).toInt = s.toInt + (ybo V C k l m u b).toInt := i64_add (by omega) (by omega)
      have ih := yto_rg hB C k pr l m u j (b + 1) (s + ybo V C k l m u b) (by omega) (by omega) (by omega)
      omega
    · rw [if_neg c]
      have ih := yto_rg hB C k pr l m u j (b + 1) s (by omega) h0 (by omega)
      omega
theorem yrat_rg {V : Nat → Nat → Int32} (h : PRat V) (l m k : Int32) : ∀ i, i ≤ nv (V 61 23) → 1 ≤ (yrat V l m k i).toInt ∧ (yrat V l m k i).toInt ≤ 99999
  | 0, _ => by
    show 1 ≤ (1000 : Int32).toInt ∧ (1000 : Int32).toInt ≤ 99999
    decide
  | i + 1, hi => by
    have ih := yrat_rg h l m k i (by omega)
    unfold yrat
    split
    · exact (h.2.2 i (by omega)).2.2.2.2
    · exact ih
theorem ydu_rg {V : Nat → Nat → Int32} (hB : PB V) (hR : PRat V) (C : Nat → List (Bool × List Int32)) (k : Int32) (p l m : Nat) : 0 ≤ (ydu V C k p l m).toInt ∧ (ydu V C k p l m).toInt ≤ 1727965440173 := by
  have hF := hB.2.2.1
  have n7 := nv_int hF.2.2.1.2.1
  have h24 := hF.2.2.1.2.2
  have q := yto_rg hB C k (Int32.ofNat p) l m 0 (nv (V 61 7)) 0 0 (by omega) (by rw [i64_0]; omega) (by rw [i64_0]; omega)
  rw [i64_0] at q
  have r := yrat_rg hR (Int32.ofNat l) (Int32.ofNat m) k (nv (V 61 23)) (Nat.le_refl _)
  have e := i64_of32 (yrat V (Int32.ofNat l) (Int32.ofNat m) k (nv (V 61 23)))
  unfold ydu
  have a1 : 0 ≤ (yto V C k (Int32.ofNat p) l m 0 (nv (V 61 7)) 0 0).toInt * (yrat V (Int32.ofNat l) (Int32.ofNat m) k (nv (V 61 23))).toInt := Int.mul_nonneg (by omega) (by omega)
  have a2 : (yto V C k (Int32.ofNat p) l m 0 (nv (V 61 7)) 0 0).toInt * (yrat V (Int32.ofNat l) (Int32.ofNat m) k (nv (V 61 23))).toInt ≤ 17279827200 * 99999 := Int.mul_le_mul (by omega) (by omega) (by omega) (by omega)
  have em : (yto V C k (Int32.ofNat p) l m 0 (nv (V 61 7)) 0 0 * (yrat V (Int32.ofNat l) (Int32.ofNat m) k (nv (V 61 23))).toInt64).toInt = (yto V C k (Int32.ofNat p) l m 0 (nv (V 61 7)) 0 0).toInt * (yrat V (Int32.ofNat l) (Int32.ofNat m) k (nv (V 61 23))).toInt := by
    rw [i64_mul (by rw [e]; omega) (by rw [e]; omega), e]
  rw [i64_div (by omega) (by rw [i64_1000]; omega), em, i64_1000]
  omega
/-- what a provider owes a land -/
noncomputable def ydb (V : Nat → Nat → Int32) (C : Nat → List (Bool × List Int32)) (k : Int32) (p l : Nat) : Int64 := Int64.ofNat 0 + ydu V C k p l 0 + ydu V C k p l 1 + ydu V C k p l 2
theorem ydb_rg {V : Nat → Nat → Int32} (hB : PB V) (hR : PRat V) (C : Nat → List (Bool × List Int32)) (k : Int32) (p l : Nat) : 0 ≤ (ydb V C k p l).toInt ∧ (ydb V C k p l).toInt ≤ 5183896320519 := by
  have q0 := ydu_rg hB hR C k p l 0
  have q1 := ydu_rg hB hR C k p l 1
  have q2 := ydu_rg hB hR C k p l 2
  have e0 : (Int64.ofNat 0 + ydu V C k p l 0).toInt = (ydu V C k p l 0).toInt := by
    rw [i64_add (by rw [i64_00]; omega) (by rw [i64_00]; omega), i64_00]
    omega
  have e1 : (Int64.ofNat 0 + ydu V C k p l 0 + ydu V C k p l 1).toInt = (ydu V C k p l 0).toInt + (ydu V C k p l 1).toInt := by
    rw [i64_add (by omega) (by omega), e0]
  have e2 : (Int64.ofNat 0 + ydu V C k p l 0 + ydu V C k p l 1 + ydu V C k p l 2).toInt = (ydu V C k p l 0).toInt + (ydu V C k p l 1).toInt + (ydu V C k p l 2).toInt := by
    rw [i64_add (by omega) (by omega), e1]
  unfold ydb
  omega
theorem ysm_0 {V : Nat → Nat → Int32} (hB : PB V) (C : Nat → List (Bool × List Int32)) (k : Int32) (b l m : Nat) (u : Int32) (hl : nv (V 61 3) ≤ l) : ∀ (r : List ZP) (G : Nat → Int32) (s : Int64), (∀ x, x ∈ r → zPok V x) → ysm V C k b l m u G r s = s
  | [], _, _, _ => rfl
  | x :: r, G, s, hx => by
    have q := (hB.2.2.2.2.2.1.2.2.1 x.1 (hx x List.mem_cons_self).1).2.2.1
    have n1 := nv_int q.1
    have n3 := nv_int hB.2.1.2.1
    have c : ¬ yis V k b l m u x := fun z => by
      have := z.1.1
      omega
    show ysm V C k b l m u (zgn V x G) r (if yis V k b l m u x then _ else s) = s
    rw [if_neg c]
    exact ysm_0 hB C k b l m u hl r _ s (fun y hy => hx y (List.mem_cons_of_mem _ hy))
theorem ydb_0 {V : Nat → Nat → Int32} (hB : PB V) (C : Nat → List (Bool × List Int32)) (k : Int32) (p l : Nat) (hl : nv (V 61 3) ≤ l) : ydb V C k p l = 0 := by
  have h : ∀ m, ydu V C k p l m = 0 := by
    intro m
    have h1 : ∀ (j b : Nat), yto V C k (Int32.ofNat p) l m 0 j b 0 = 0 := by
      intro j
      induction j with
      | zero =>
        intro b
        rfl
      | succ j ih =>
        intro b
        have hb : ybo V C k l m 0 b = 0 := ysm_0 hB C k b l m 0 hl _ _ 0 (fun x hx => (ytk_ok hB k b x hx).1)
        show yto V C k (Int32.ofNat p) l m 0 j (b + 1) (if yask V (Int32.ofNat p) b = true then 0 + ybo V C k l m 0 b else 0) = 0
        rw [hb]
        have : (if yask V (Int32.ofNat p) b = true then (0 : Int64) + 0 else 0) = 0 := by split <;> rfl
        rw [this]
        exact ih (b + 1)
    unfold ydu
    rw [h1, Int64.zero_mul]
    rfl
  unfold ydb
  rw [h, h, h]
  rfl
