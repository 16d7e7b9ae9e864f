/-! THE PURE PART: the model's share of a land. -/
theorem zjup {J : Nat → Nat → Int64} {a b k j : Nat} {v : Int64} (h : b ≠ a ∨ j ≠ k) : zup J a k v b j = J b j := by
  unfold zup
  by_cases c : b = a
  · rw [if_pos c]
    have h : j ≠ k := h.resolve_left (fun z => z c)
    rw [if_neg h, c]
  · rw [if_neg c]
theorem owe_m (xs : Nat → Int32) (L d : Nat) {V : Nat → Nat → Int32} (X : XH) {C : Nat → List (Bool × List Int32)} (k a2 : Int32) (p i : Nat) (al : Int64) (hB : PB V) (hK : PBlk V) (hRt : PRat V) (hT : PTm V X C k) (hp : p < 6) (hi : i < 9) : ∀ (j m : Nat) (J : Nat → Nat → Int64) (M : Nat → Nat → Int32), m + j = 3 → yMH V k M → J 119 i = ydp V C k p i m → ∃ M' J', zgo xs L (d + 7 + 5) 205 9 [(0, .ref 61), (1, .int (Int32.ofNat p)), (2, .int a2), (3, .int k), (4, .long al), (6, .int (Int32.ofNat i)), (7, .int (Int32.ofNat m))] (zmk M J X) = zgo xs L (d + 7 + 5) 205 5 [(0, .ref 61), (1, .int (Int32.ofNat p)), (2, .int a2), (3, .int k), (4, .long (al + ydb V C k p i)), (6, .int (Int32.ofNat (i + 1)))] (zmk M' J' X) ∧ zfr8 yfr [76, 77] M M' ∧ J' 119 i = ydb V C k p i ∧ ∀ a x, a ≠ 119 ∨ x ≠ i → J' a x = J a x
  | 0, m, J, M, hm, hM, hJ => by
    have hm : m = 3 := by omega
    subst hm
    have zi : zix 2 9 2 (Int32.ofNat i) := zix_nat rfl hi (by omega)
    refine ⟨M, J, ?_, zfr8_rfl, hJ, fun _ _ _ => rfl⟩
    rw [zgo_q, S205_9 xs L (d + 7), if_pos (by decide), if_pos zi, zth_go, nat_succ, i32_clamp (n := i) (by omega), hJ]
    rfl
  | j + 1, m, J, M, hm, hM, hJ => by
    have zi : zix 2 9 2 (Int32.ofNat i) := zix_nat rfl hi (by omega)
    obtain ⟨M1, q1, q2⟩ := dueOf_m xs L (d + 7 + 5) (by omega) J X k p i m hB hK hRt hT hp hi (by omega) hM
    obtain ⟨M', J', r1, r2, r3, r4⟩ := owe_m xs L d X k a2 p i al hB hK hRt hT hp hi j (m + 1) (zup J 119 i (J 119 i + ydu V C k p i m)) M1 (by omega) (yMH_fr hM q2) (by
      rw [zup_at, hJ]
      rfl)
    refine ⟨M', J', ?_, zfr8_tr q2 r2 (fun _ h => h) (fun _ h => h), r3, fun a x h => (r4 a x h).trans (zjup h)⟩
    rw [zgo_q, S205_9 xs L (d + 7), if_neg (fun z => by
      have := (nat_le (a := 3) (b := m) (by omega) (by omega)).mp (of_decide_eq_true z)
      omega), if_pos zi, q1, zcl_l, T205_9_14_686 xs L (d + 7), if_pos zi, zth_go, nat_succ, i32_clamp (n := i) (by omega)]
    exact r1
theorem owe_l (xs : Nat → Int32) (L d : Nat) {V : Nat → Nat → Int32} (X : XH) {C : Nat → List (Bool × List Int32)} (k a2 : Int32) (p n : Nat) (hB : PB V) (hK : PBlk V) (hRt : PRat V) (hT : PTm V X C k) (hp : p < 6) (hn : n = nv (V 61 3)) (hn9 : n ≤ 9) : ∀ (j i : Nat) (J : Nat → Nat → Int64) (M : Nat → Nat → Int32), i + j = n → yMH V k M → (∀ x, x < i → J 119 x = ydb V C k p x) → ∃ M' J', zgo xs L (d + 7 + 5) 205 5 [(0, .ref 61), (1, .int (Int32.ofNat p)), (2, .int a2), (3, .int k), (4, .long (yal V C k p i)), (6, .int (Int32.ofNat i))] (zmk M J X) = zgo xs L (d + 7 + 5) 205 5 [(0, .ref 61), (1, .int (Int32.ofNat p)), (2, .int a2), (3, .int k), (4, .long (yal V C k p n)), (6, .int (Int32.ofNat n))] (zmk M' J' X) ∧ zfr8 yfr [76, 77] M M' ∧ (∀ x, x < n → J' 119 x = ydb V C k p x) ∧ ∀ a, a ≠ 119 → J' a = J a
  | 0, i, J, M, hi, hM, hJ => by
    have hi : i = n := by omega
    subst hi
    exact ⟨M, J, rfl, zfr8_rfl, hJ, fun _ _ => rfl⟩
  | j + 1, i, J, M, hi, hM, hJ => by
    have hL := hB.2.1
    have e3 : M 61 3 = Int32.ofNat n := by rw [hM.2.1 3 (by decide), hn, nv_of hL.2.1]
    have zi : zix 2 9 2 (Int32.ofNat i) := zix_nat rfl (by omega) (by omega)
    obtain ⟨M1, J1, q1, q2, q3, q4⟩ := owe_m xs L d X k a2 p i (yal V C k p i) hB hK hRt hT hp (by omega) 3 0 (zup J 119 i (Int64.ofNat 0)) M (by omega) hM zup_at
    obtain ⟨M', J', r1, r2, r3, r4⟩ := owe_l xs L d X k a2 p n hB hK hRt hT hp hn hn9 j (i + 1) J1 M1 (by omega) (yMH_fr hM q2) (fun x hx => by
      by_cases c : x = i
      · rw [c, q3]
      · rw [q4 119 x (Or.inr c), zjup (Or.inr c)]
        exact hJ x (by omega))
    refine ⟨M', J', ?_, zfr8_tr q2 r2 (fun _ h => h) (fun _ h => h), r3, fun a ha => (r4 a ha).trans (funext fun x => (q4 a x (Or.inl ha)).trans (zjup (Or.inl ha)))⟩
    rw [zgo_q, S205_5 xs L (d + 7), e3, if_neg (fun z => by
      have := (nat_le (by omega) (by omega)).mp (of_decide_eq_true z)
      omega), if_pos zi, zth_go, i32_clamp (n := i) (by omega)]
    exact q1.trans r1
/-- what a share is made of -/
theorem get_l (xs : Nat → Int32) (L d : Nat) {V : Nat → Nat → Int32} (X : XH) {C : Nat → List (Bool × List Int32)} (M : Nat → Nat → Int32) (k a2 : Int32) (p n : Nat) (hB : PB V) (hRt : PRat V) (hp : p < 6) (h3 : M 61 3 = Int32.ofNat n) (hn9 : n ≤ 9) (dep : Int32) (h68 : M 68 p = dep) (hdep : 0 ≤ dep.toInt ∧ dep.toInt ≤ 1000000) (hA : dep.toInt < ysI (yee V C k p) n) : ∀ (j i : Nat) (J : Nat → Nat → Int64) (left : Int64), i + j = n → (∀ x, x < n → J 119 x = ydb V C k p x) → left.toInt = dep.toInt - ysI (yfl9 dep.toInt (ysI (yee V C k p) n) (yee V C k p)) i → (∀ x, x < i → (J 120 x).toInt = yfl9 dep.toInt (ysI (yee V C k p) n) (yee V C k p) x ∧ (J 121 x).toInt = yrm9 dep.toInt (ysI (yee V C k p) n) (yee V C k p) x) → ∃ J' left', zgo xs L (d + 5) 205 12 [(0, .ref 61), (1, .int (Int32.ofNat p)), (2, .int a2), (3, .int k), (4, .long (yal V C k p n)), (6, .long left), (8, .int (Int32.ofNat i))] (zmk M J X) = zgo xs L (d + 5) 205 14 [(0, .ref 61), (1, .int (Int32.ofNat p)), (2, .int a2), (3, .int k), (4, .long (yal V C k p n)), (6, .long left'), (8, .int (Int32.ofNat n))] (zmk M J' X) ∧ left'.toInt = dep.toInt - ysI (yfl9 dep.toInt (ysI (yee V C k p) n) (yee V C k p)) n ∧ (∀ x, x < n → (J' 120 x).toInt = yfl9 dep.toInt (ysI (yee V C k p) n) (yee V C k p) x ∧ (J' 121 x).toInt = yrm9 dep.toInt (ysI (yee V C k p) n) (yee V C k p) x) ∧ ∀ a, a ≠ 120 → a ≠ 121 → J' a = J a
  | 0, i, J, left, hi, hJ, hl, hg => by
    have hi : i = n := by omega
    subst hi
    refine ⟨J, left, ?_, hl, hg, fun _ _ _ => rfl⟩
    rw [zgo_q, S205_12, h3, if_pos (decide_eq_true ((nat_le (by omega) (by omega)).mpr (Nat.le_refl _)))]
    rfl
  | j + 1, i, J, left, hi, hJ, hl, hg => by
    have zi : zix 2 9 2 (Int32.ofNat i) := zix_nat rfl (by omega) (by omega)
    have zp : zix 0 6 0 (Int32.ofNat p) := zix_nat rfl hp (by omega)
    have ha := yal_int hB hRt C k p n hn9
    have hal0 : ¬ yal V C k p n = 0 := fun z => by
      rw [z, i64_0] at ha
      omega
    have e68 : M 68 (Int32.ofNat p).toNatClampNeg = dep := by rw [i32_clamp (by omega), h68]
    have e119 : J 119 (Int32.ofNat i).toNatClampNeg = ydb V C k p i := by rw [i32_clamp (by omega), hJ i (by omega)]
    have q := ydb_rg hB hRt C k p i
    have eD := i64_of32 dep
    have h1 : 0 ≤ dep.toInt * (ydb V C k p i).toInt := Int.mul_nonneg hdep.1 q.1
    have h2 : dep.toInt * (ydb V C k p i).toInt ≤ 1000000 * 5183896320519 := Int.mul_le_mul hdep.2 q.2 q.1 (by omega)
    have hpm : (dep.toInt64 * ydb V C k p i).toInt = dep.toInt * (ydb V C k p i).toInt := by
      rw [i64_mul (by rw [eD]; omega) (by rw [eD]; omega), eD]
    have hfl : (dep.toInt64 * ydb V C k p i / yal V C k p n).toInt = yfl9 dep.toInt (ysI (yee V C k p) n) (yee V C k p) i := by
      rw [i64_div (by rw [hpm]; omega) (by omega), hpm, ha.1]
      rfl
    have hrm : (dep.toInt64 * ydb V C k p i - dep.toInt64 * ydb V C k p i / yal V C k p n * yal V C k p n).toInt = yrm9 dep.toInt (ysI (yee V C k p) n) (yee V C k p) i := by
      rw [i64_rem (by rw [hpm]; omega) (by omega), hpm, ha.1]
      rfl
    have hf0 : ∀ x, 0 ≤ yfl9 dep.toInt (ysI (yee V C k p) n) (yee V C k p) x := fun x => Int.ediv_nonneg (Int.mul_nonneg hdep.1 (ydb_rg hB hRt C k p x).1) (by omega)
    have hfu : yfl9 dep.toInt (ysI (yee V C k p) n) (yee V C k p) i ≤ 5183896320519000000 := by
      have e : yfl9 dep.toInt (ysI (yee V C k p) n) (yee V C k p) i = dep.toInt * (ydb V C k p i).toInt / ysI (yee V C k p) n := rfl
      have := Int.ediv_le_self (ysI (yee V C k p) n) h1
      omega
    have hs0 := ysI_0 (g := yfl9 dep.toInt (ysI (yee V C k p) n) (yee V C k p)) (n := i) (fun x _ => hf0 x)
    have hf0i := hf0 i
    have hle : ysI (yfl9 dep.toInt (ysI (yee V C k p) n) (yee V C k p)) i ≤ dep.toInt := by
      have h9 := (left_rg (n := n) (e := yee V C k p) (by omega) rfl (by omega) hdep.1).1
      have hmono : ∀ q n', ysI (yfl9 dep.toInt (ysI (yee V C k p) n) (yee V C k p)) n' ≤ ysI (yfl9 dep.toInt (ysI (yee V C k p) n) (yee V C k p)) (n' + q) := by
        intro q
        induction q with
        | zero =>
          intro n'
          exact Int.le_refl _
        | succ q ih =>
          intro n'
          have a := ih n'
          have b := hf0 (n' + q)
          show _ ≤ ysI _ (n' + q) + yfl9 _ _ _ (n' + q)
          omega
      have := hmono (n - i) i
      rw [show i + (n - i) = n by omega] at this
      omega
    obtain ⟨J', left', r1, r2, r3, r4⟩ := get_l xs L d X M k a2 p n hB hRt hp h3 hn9 dep h68 hdep hA j (i + 1) (zup (zup J 120 i (dep.toInt64 * ydb V C k p i / yal V C k p n)) 121 i (dep.toInt64 * ydb V C k p i - dep.toInt64 * ydb V C k p i / yal V C k p n * yal V C k p n)) (left - dep.toInt64 * ydb V C k p i / yal V C k p n) (by omega) hJ (by
      rw [i64_sub (by rw [hfl]; omega) (by rw [hfl]; omega), hfl, hl]
      show _ = _ - (ysI _ i + _)
      omega) (fun x hx => by
      by_cases c : x = i
      · subst c
        refine ⟨?_, ?_⟩
        · show (zup J 120 x _ 120 x).toInt = _
          rw [zup_at, hfl]
        · rw [zup_at, hrm]
      · refine ⟨?_, ?_⟩
        · rw [zjup (Or.inr c), zjup (Or.inr c)]
          exact (hg x (by omega)).1
        · rw [zjup (Or.inr c), zjup (Or.inr c)]
          exact (hg x (by omega)).2)
    refine ⟨J', left', ?_, r2, r3, fun a a1 a2 => (r4 a a1 a2).trans (funext fun x => (zjup (Or.inl a2)).trans (zjup (Or.inl a1)))⟩
    rw [zgo_q, S205_12, h3, if_neg (fun z => by
      have := (nat_le (by omega) (by omega)).mp (of_decide_eq_true z)
      omega), if_pos zp, if_pos zi, if_neg hal0, if_pos zi, if_pos zp, if_pos zi, if_neg hal0, if_pos zi, if_pos zi, e68, e119, zth_go, i32_clamp (n := i) (by omega), zup_at, nat_succ]
    exact r1
/-- the greatest of what is over, the first of like ones -/
theorem best_l (xs : Nat → Int32) (L d : Nat) (X : XH) (M : Nat → Nat → Int32) (J : Nat → Nat → Int64) (k a1 a2 : Int32) (al left : Int64) (n : Nat) (h3 : M 61 3 = Int32.ofNat n) (hn9 : n ≤ 9) : ∀ (j i b : Nat), i + j = n → b < i → (∀ x, x < i → (J 121 x).toInt ≤ (J 121 b).toInt ∧ ((J 121 x).toInt = (J 121 b).toInt → b ≤ x)) → ∃ b', b' < n ∧ (∀ x, x < n → (J 121 x).toInt ≤ (J 121 b').toInt ∧ ((J 121 x).toInt = (J 121 b').toInt → b' ≤ x)) ∧ zgo xs L (d + 5) 205 17 [(0, .ref 61), (1, .int a1), (2, .int a2), (3, .int k), (4, .long al), (6, .long left), (8, .int (Int32.ofNat b)), (9, .int (Int32.ofNat i))] (zmk M J X) = zgo xs L (d + 5) 205 14 [(0, .ref 61), (1, .int a1), (2, .int a2), (3, .int k), (4, .long al), (6, .long (left - Int64.ofNat 1)), (8, .int (Int32.ofNat b'))] (zmk M (zup (zup J 120 b' (J 120 b' + Int64.ofNat 1)) 121 b' ((-1 : Int32).toInt64)) X)
  | 0, i, b, hi, hb, hx => by
    have hi : i = n := by omega
    subst hi
    have zb : zix 2 9 2 (Int32.ofNat b) := zix_nat rfl (by omega) (by omega)
    refine ⟨b, hb, hx, ?_⟩
    rw [zgo_q, S205_17, h3, if_pos (decide_eq_true ((nat_le (by omega) (by omega)).mpr (Nat.le_refl _))), if_pos zb, if_pos zb, if_pos zb, zth_go, i32_clamp (n := b) (by omega)]
  | j + 1, i, b, hi, hb, hx => by
    have zb : zix 2 9 2 (Int32.ofNat b) := zix_nat rfl (by omega) (by omega)
    have zi : zix 2 9 2 (Int32.ofNat i) := zix_nat rfl (by omega) (by omega)
    have S := zgo_q xs L (d + 5) 205 17 [(0, .ref 61), (1, .int a1), (2, .int a2), (3, .int k), (4, .long al), (6, .long left), (8, .int (Int32.ofNat b)), (9, .int (Int32.ofNat i))] (zmk M J X)
    rw [S205_17, h3, if_neg (fun z => by
      have := (nat_le (by omega) (by omega)).mp (of_decide_eq_true z)
      omega), if_pos zi, if_pos zb, i32_clamp (n := i) (by omega), i32_clamp (n := b) (by omega)] at S
    by_cases c : (J 121 i).toInt ≤ (J 121 b).toInt
    · rw [if_pos (decide_eq_true (cmp_le.mpr c)), zth_go, nat_succ] at S
      obtain ⟨b', q1, q2, q3⟩ := best_l xs L d X M J k a1 a2 al left n h3 hn9 j (i + 1) b (by omega) (by omega) (fun x hx2 => by
        by_cases e : x = i
        · subst e
          exact ⟨c, fun _ => by omega⟩
        · exact hx x (by omega))
      exact ⟨b', q1, q2, S.trans q3⟩
    · rw [if_neg (fun z => c (cmp_le.mp (of_decide_eq_true z))), zth_go, nat_succ] at S
      obtain ⟨b', q1, q2, q3⟩ := best_l xs L d X M J k a1 a2 al left n h3 hn9 j (i + 1) i (by omega) (by omega) (fun x hx2 => by
        by_cases e : x = i
        · subst e
          exact ⟨Int.le_refl _, fun _ => Nat.le_refl _⟩
        · have := hx x (by omega)
          exact ⟨by omega, fun z => by omega⟩)
      exact ⟨b', q1, q2, S.trans q3⟩
theorem sel_l (xs : Nat → Int32) (L d : Nat) (X : XH) (M : Nat → Nat → Int32) (k a1 : Int32) (al : Int64) (n l : Nat) (hl : l < n) (h3 : M 61 3 = Int32.ofNat n) (hn9 : n ≤ 9) (f r : Nat → Int) (hf : ∀ x, x < n → 0 ≤ f x ∧ f x ≤ 5183896320519000000) (hr : ∀ x, x < n → 0 ≤ r x) : ∀ (q t w : Nat) (J : Nat → Nat → Int64) (ch : Nat → Bool) (left : Int64), t + q ≤ n → left.toInt = q → zcnt ch n = t → yclo r n ch → (∀ x, x < n → (J 120 x).toInt = f x + (if ch x = true then 1 else 0) ∧ (J 121 x).toInt = if ch x = true then -1 else r x) → ∃ J' v, zgo xs L (d + 5) 205 14 [(0, .ref 61), (1, .int a1), (2, .int (Int32.ofNat l)), (3, .int k), (4, .long al), (6, .long left), (8, .int (Int32.ofNat w))] (zmk M J X) = some (.inr (some (.long v)), zmk M J' X) ∧ v.toInt = f l + (if zcnt (fun i => decide (yah r i l)) n < t + q then 1 else 0) ∧ ∀ a, a ≠ 120 → a ≠ 121 → J' a = J a
  | 0, t, w, J, ch, left, ht, hleft, hc, hcl, hJ => by
    have zl : zix 2 9 2 (Int32.ofNat l) := zix_nat rfl (by omega) (by omega)
    refine ⟨J, J 120 l, ?_, ?_, fun _ _ _ => rfl⟩
    · rw [zgo_q, S205_14, if_pos (decide_eq_true (cmp_le.mpr (by rw [i64_00]; omega))), if_pos zl, i32_clamp (n := l) (by omega)]
      rfl
    · rw [(hJ l hl).1]
      have e := clo_rank hcl hl
      rw [hc] at e
      by_cases c : ch l = true
      · rw [if_pos c, if_pos (by have := e.mp c; omega)]
      · rw [if_neg c, if_neg (fun z => c (e.mpr (by omega)))]
  | q + 1, t, w, J, ch, left, ht, hleft, hc, hcl, hJ => by
    obtain ⟨b, b1, b2, b3⟩ := best_l xs L d X M J k a1 (Int32.ofNat l) al left n h3 hn9 (n - 1) 1 0 (by omega) (by decide) (fun x hx => by
      have e : x = 0 := by omega
      subst e
      exact ⟨Int.le_refl _, fun _ => Nat.le_refl _⟩)
    -- the best has not been taken yet
    have hun : ∃ x, x < n ∧ ch x = false := by
      by_cases c : ∃ x, x < n ∧ ch x = false
      · exact c
      · exfalso
        have := zcnt_full (p := ch) (n := n) (fun i hi => by
          by_cases e : ch i = true
          · exact e
          · exact absurd ⟨i, hi, by simpa using e⟩ c)
        omega
    have hbf : ch b = false := by
      by_cases e : ch b = true
      · exfalso
        obtain ⟨x, x1, x2⟩ := hun
        have h1 := (b2 x x1).1
        rw [(hJ x x1).2, (hJ b b1).2, if_pos e, if_neg (by rw [x2]; decide)] at h1
        have := hr x x1
        omega
      · simpa using e
    have hrb : (J 121 b).toInt = r b := by
      rw [(hJ b b1).2, if_neg (by rw [hbf]; decide)]
    have hcl2 := clo_step hcl b1 (fun i hi hci hne => by
      have h1 := b2 i hi
      rw [hrb, (hJ i hi).2, if_neg (by rw [hci]; decide)] at h1
      by_cases e : r i = r b
      · exact Or.inr ⟨e, by
          have := h1.2 e
          omega⟩
      · exact Or.inl (by omega))
    have hcn := zcnt_add hbf b1
    have hfb := hf b b1
    obtain ⟨J', v, r1, r2, r3⟩ := sel_l xs L d X M k a1 al n l hl h3 hn9 f r hf hr q (t + 1) b (zup (zup J 120 b (J 120 b + Int64.ofNat 1)) 121 b ((-1 : Int32).toInt64)) (fun i => decide (i = b) || ch i) (left - Int64.ofNat 1) (by omega) (by
      rw [i64_sub (by rw [i64_1]; omega) (by rw [i64_1]; omega), i64_1]
      omega) (by rw [hcn, hc]) hcl2 (fun x hx => by
      by_cases e : x = b
      · subst e
        have h1 := (hJ x hx).1
        rw [if_neg (by rw [hbf]; decide)] at h1
        rw [decide_eq_true (rfl : x = x), Bool.true_or, if_pos rfl, if_pos rfl]
        refine ⟨?_, ?_⟩
        · show (zup J 120 x _ 120 x).toInt = _
          rw [zup_at, i64_add (by rw [i64_1]; omega) (by rw [i64_1]; omega), i64_1]
          omega
        · rw [zup_at]
          decide
      · rw [decide_eq_false e, Bool.false_or, zjup (Or.inr e), zjup (Or.inr e), zjup (Or.inr e), zjup (Or.inr e)]
        exact hJ x hx)
    refine ⟨J', v, ?_, by rw [r2, Nat.add_right_comm]; rfl, fun a c1 c2 => (r3 a c1 c2).trans (funext fun x => (zjup (Or.inl c2)).trans (zjup (Or.inl c1)))⟩
    rw [zgo_q, S205_14, if_neg (fun z => by
      have z := cmp_le.mp (of_decide_eq_true z)
      rw [i64_00] at z
      omega), zth_go]
    exact b3.trans r1
/-- the model's share, once it knows all -/
theorem falls_m (xs : Nat → Int32) (L d : Nat) {V : Nat → Nat → Int32} (J : Nat → Nat → Int64) (X : XH) {C : Nat → List (Bool × List Int32)} (M : Nat → Nat → Int32) (k : Int32) (p l : Nat) (hB : PB V) (hK : PBlk V) (hRt : PRat V) (hT : PTm V X C k) (hM : yMH V k M) (hp : p < nv (V 61 5)) (hl : l < nv (V 61 3)) : ∃ M' J' v, zgo xs L (d + 7 + 5) 205 5 [(0, .ref 61), (1, .int (Int32.ofNat p)), (2, .int (Int32.ofNat l)), (3, .int k), (4, .long (Int64.ofNat 0)), (6, .int 0)] (zmk M J X) = some (.inr (some (.long v)), zmk M' J' X) ∧ v.toInt = yshr (V 68 p).toInt (yee V C k p) (nv (V 61 3)) l ∧ zfr8 yfr [76, 77] M M' ∧ ∀ a, a ≠ 119 → a ≠ 120 → a ≠ 121 → J' a = J a := by
  have hL := hB.2.1
  have hF := hB.2.2.1
  have n3 := nv_int hL.2.1
  have l9 := hL.2.2
  have n5 := nv_int hF.1.2.1
  have p6 := hF.1.2.2
  have hdep := hF.2.2.2.2.2.2.2.2.1 p hp
  obtain ⟨M1, J1, q1, q2, q3, q4⟩ := owe_l xs L d X k (Int32.ofNat l) p (nv (V 61 3)) hB hK hRt hT (by omega) rfl (by omega) (nv (V 61 3)) 0 J M (Nat.zero_add _) hM (fun x hx => absurd hx (Nat.not_lt_zero x))
  have hM1 := yMH_fr hM q2
  have e3 : M1 61 3 = Int32.ofNat (nv (V 61 3)) := by rw [hM1.2.1 3 (by decide), nv_of hL.2.1]
  have e68 : M1 68 p = V 68 p := by rw [hM1.1 68 (by decide) (by decide) (by decide)]
  have e68' : M1 68 (Int32.ofNat p).toNatClampNeg = V 68 p := by rw [i32_clamp (by omega), e68]
  have zp : zix 0 6 0 (Int32.ofNat p) := zix_nat rfl (by omega) (by omega)
  have zl : zix 2 9 2 (Int32.ofNat l) := zix_nat rfl (by omega) (by omega)
  have ha := yal_int hB hRt C k p (nv (V 61 3)) (by omega)
  have S := zgo_q xs L (d + 7 + 5) 205 5 [(0, .ref 61), (1, .int (Int32.ofNat p)), (2, .int (Int32.ofNat l)), (3, .int k), (4, .long (yal V C k p (nv (V 61 3)))), (6, .int (Int32.ofNat (nv (V 61 3))))] (zmk M1 J1 X)
  rw [S205_5 xs L (d + 7), e3, if_pos (decide_eq_true ((nat_le (by omega) (by omega)).mpr (Nat.le_refl _))), if_pos zp, e68'] at S
  have eD := i64_of32 (V 68 p)
  unfold yshr
  by_cases c : ysI (yee V C k p) (nv (V 61 3)) ≤ (V 68 p).toInt
  · rw [if_neg (fun z => by
      have z := cmp_gt.mp (of_decide_eq_true z)
      omega), if_pos zl, i32_clamp (n := l) (by omega), q3 l hl] at S
    rw [if_pos c]
    exact ⟨M1, J1, _, q1.trans S, rfl, q2, fun a a1 _ _ => q4 a a1⟩
  · rw [if_pos (decide_eq_true (cmp_gt.mpr (by omega))), if_pos zp, zth_go] at S
    rw [if_neg c]
    have hR := left_rg (n := nv (V 61 3)) (e := yee V C k p) (by omega) rfl (by omega) hdep.1
    obtain ⟨J2, left, r1, r2, r3, r4⟩ := get_l xs L (d + 7) X (C := C) M1 k (Int32.ofNat l) p (nv (V 61 3)) hB hRt (by omega) e3 (by omega) (V 68 p) e68 hdep (by omega) (nv (V 61 3)) 0 J1 ((V 68 p).toInt64) (Nat.zero_add _) q3 (by
      show _ = (V 68 p).toInt - 0
      omega) (fun x hx => absurd hx (Nat.not_lt_zero x))
    have hf : ∀ x, x < nv (V 61 3) → 0 ≤ yfl9 (V 68 p).toInt (ysI (yee V C k p) (nv (V 61 3))) (yee V C k p) x ∧ yfl9 (V 68 p).toInt (ysI (yee V C k p) (nv (V 61 3))) (yee V C k p) x ≤ 5183896320519000000 := fun x _ => by
      have q := ydb_rg hB hRt C k p x
      have h1 : 0 ≤ (V 68 p).toInt * (ydb V C k p x).toInt := Int.mul_nonneg hdep.1 q.1
      have h2 : (V 68 p).toInt * (ydb V C k p x).toInt ≤ 1000000 * 5183896320519 := Int.mul_le_mul hdep.2 q.2 q.1 (by omega)
      have e : yfl9 (V 68 p).toInt (ysI (yee V C k p) (nv (V 61 3))) (yee V C k p) x = (V 68 p).toInt * (ydb V C k p x).toInt / ysI (yee V C k p) (nv (V 61 3)) := rfl
      have := Int.ediv_le_self (ysI (yee V C k p) (nv (V 61 3))) h1
      exact ⟨Int.ediv_nonneg h1 (by omega), by omega⟩
    have hrr : ∀ x, x < nv (V 61 3) → 0 ≤ yrm9 (V 68 p).toInt (ysI (yee V C k p) (nv (V 61 3))) (yee V C k p) x := fun x _ => Int.emod_nonneg _ (by omega)
    obtain ⟨R, hRn⟩ := Int.eq_ofNat_of_zero_le hR.1
    have hz0 : zcnt (fun _ => false) (nv (V 61 3)) = 0 := by
      have : ∀ n, zcnt (fun _ => false) n = 0 := by
        intro n
        induction n with
        | zero => rfl
        | succ n ih =>
          show zcnt (fun _ => false) n + 0 = 0
          rw [ih]
      exact this _
    obtain ⟨J', v, s1, s2, s3⟩ := sel_l xs L (d + 7) X M1 k (Int32.ofNat p) (yal V C k p (nv (V 61 3))) (nv (V 61 3)) l hl e3 (by omega) _ _ hf hrr R 0 (nv (V 61 3)) J2 (fun _ => false) left (by omega) (by omega) hz0 (fun i j _ _ h _ => by cases h) (fun x hx => by
      have h := r3 x hx
      rw [if_neg (by decide), if_neg (by decide), h.1, h.2]
      exact ⟨by omega, rfl⟩)
    refine ⟨M1, J', v, q1.trans (S.trans (r1.trans s1)), ?_, q2, fun a a1 a2 a3 => (s3 a a2 a3).trans ((r4 a a2 a3).trans (q4 a a1))⟩
    rw [s2, hRn, Nat.zero_add]
    by_cases e : zcnt (fun i => decide (yah (yrm9 (V 68 p).toInt (ysI (yee V C k p) (nv (V 61 3))) (yee V C k p)) i l)) (nv (V 61 3)) < R
    · rw [if_pos e, if_pos (by omega)]
    · rw [if_neg e, if_neg (by omega)]
