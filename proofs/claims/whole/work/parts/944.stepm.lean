/-! THE PURE PART: the model's next token. -/
def yby (T : Nat → Int32) (n k : Nat) : Int32 := if n ≤ k then -1 else T k
theorem byte_m (xs : Nat → Int32) (L D : Nat) (hD : 6 ≤ D) (M : Nat → Nat → Int32) (J : Nat → Nat → Int64) (X : XH) (T : Nat → Int32) (n k : Nat) (hT : M 104 = T) (h59 : M 61 59 = Int32.ofNat n) (hn : n ≤ 400) (hk : k ≤ n) : zev xs L D 162 [.ref 61, .int (Int32.ofNat k)] (zmk M J X) = some (.inr (some (.int (yby T n k))), zmk M J X) := by
  obtain ⟨d, rfl⟩ := Nat.exists_eq_add_of_le hD
  rw [Nat.add_comm 6 d]
  refine (zcS (S162_0 xs L d M J X _)).trans ?_
  unfold yby
  rw [h59]
  by_cases c : n ≤ k
  · rw [if_pos (decide_eq_true ((nat_le (by omega) (by omega)).mpr c)), if_pos c]
    rfl
  · rw [if_neg (fun z => c ((nat_le (by omega) (by omega)).mp (of_decide_eq_true z))), if_neg c, if_pos (zix_nat rfl (by omega) (by omega)), i32_clamp (by omega), hT]
    rfl
/-- only fields K of the model have changed -/
def yf61 (K : List Nat) (M M' : Nat → Nat → Int32) : Prop := (∀ a, a ≠ 61 → M' a = M a) ∧ ∀ k, k ∉ K → M' 61 k = M 61 k
theorem yf61_rfl {K : List Nat} {H : Nat → Nat → Int32} : yf61 K H H := ⟨fun _ _ => rfl, fun _ _ => rfl⟩
theorem yf61_up {K : List Nat} {H H' : Nat → Nat → Int32} {k : Nat} {v : Int32} (h : yf61 K H H') (hk : k ∈ K) : yf61 K H (zup H' 61 k v) := by
  refine ⟨fun a ha => (if_neg ha).trans (h.1 a ha), fun j hj => ?_⟩
  have : j ≠ k := fun e => hj (e ▸ hk)
  exact (zup_k this).trans (h.2 j hj)
theorem yf61_tr {K K2 : List Nat} {H H' H2 : Nat → Nat → Int32} (h : yf61 K H H') (g : yf61 K2 H' H2) (s : ∀ k, k ∈ K2 → k ∈ K) : yf61 K H H2 := ⟨fun a ha => (g.1 a ha).trans (h.1 a ha), fun k hk => (g.2 k (fun z => hk (s k z))).trans (h.2 k hk)⟩
/-- a token's kind in the model -/
def ykn (t : Int32) : Int32 := if t = 256 then 0 else if t = 257 then 4 else if t = 258 ∨ t = 259 then 2 else if (299 : Int32) ≤ t then 1 else 3
/-- what a token leaves in the model -/
def ysm9 (M M' : Nat → Nat → Int32) (x : Int32 × Int32 × Nat × Nat) : Prop := yf61 [58, 60, 61, 62, 63, 64] M M' ∧ M' 61 63 = Int32.ofNat x.2.2.1 ∧ M' 61 58 = Int32.ofNat x.2.2.2 ∧ M' 61 64 = Int32.ofNat x.2.2.2 ∧ M' 61 60 = ykn x.1 ∧ (ykn x.1 = 3 → M' 61 61 = x.1) ∧ (x.1 = 258 → M' 61 62 = x.2.1)
theorem word_m (xs : Nat → Int32) (L d : Nat) (J : Nat → Nat → Int64) (X : XH) (T : Nat → Int32) (n : Nat) (hn : n ≤ 400) (a : Int32) : ∀ (f b : Nat) (M : Nat → Nat → Int32), b + f = n → M 104 = T → M 61 59 = Int32.ofNat n → M 61 58 = Int32.ofNat b → ∃ M', zgo xs L (d + 1 + 5) 161 10 [(0, .ref 61), (1, .int a)] (zmk M J X) = some (.inr none, zmk M' J X) ∧ yf61 [58, 60, 64] M M' ∧ M' 61 58 = Int32.ofNat (yspn yP2 T f b) ∧ M' 61 64 = Int32.ofNat (yspn yP2 T f b) ∧ M' 61 60 = 1
  | 0, b, M, hb, hT, h59, h58 => by
    have e : yspn yP2 T 0 b = b := rfl
    have e2 : yby T n b = -1 := if_pos (by omega)
    rw [e, zgo_q, S161_10 xs L (d + 1), h58, byte_m xs L (d + 1 + 5) (by omega) M J X T n b hT h59 hn (by omega), zci_i, T161_10_4_696 xs L (d + 1), e2, if_pos (show decide ((zbi (¬ (-1 : Int32) < 97 ∧ ¬ (122 : Int32) < -1)) = 0) = true by decide)]
    exact ⟨_, rfl, yf61_up (yf61_up yf61_rfl (by decide)) (by decide), (zup_k (by decide)).trans ((zup_k (by decide)).trans h58), zup_at.trans h58, (zup_k (by decide)).trans zup_at⟩
  | f + 1, b, M, hb, hT, h59, h58 => by
    have e2 : yby T n b = T b := if_neg (by omega)
    have S := zgo_q xs L (d + 1 + 5) 161 10 [(0, .ref 61), (1, .int a)] (zmk M J X)
    rw [S161_10 xs L (d + 1), h58, byte_m xs L (d + 1 + 5) (by omega) M J X T n b hT h59 hn (by omega), zci_i, T161_10_4_696 xs L (d + 1), e2] at S
    by_cases c : ¬ T b < 97 ∧ ¬ 122 < T b
    · have e : yspn yP2 T (f + 1) b = yspn yP2 T f (b + 1) := if_pos (decide_eq_true c)
      rw [if_neg (fun z => (zbi_eq0.mp (of_decide_eq_true z)) c), h58, zth_go, nat_succ] at S
      obtain ⟨M', q1, q2, q3⟩ := word_m xs L d J X T n hn a f (b + 1) (zup M 61 58 (Int32.ofNat (b + 1))) (by omega) hT ((zup_k (by decide)).trans h59) zup_at
      rw [e]
      exact ⟨M', S.trans q1, yf61_tr (yf61_up yf61_rfl (by decide)) q2 (fun _ h => h), q3⟩
    · have e : yspn yP2 T (f + 1) b = b := if_neg (fun z => c (of_decide_eq_true z))
      rw [if_pos (decide_eq_true (zbi_eq0.mpr c))] at S
      rw [e]
      exact ⟨_, S, yf61_up (yf61_up yf61_rfl (by decide)) (by decide), (zup_k (by decide)).trans ((zup_k (by decide)).trans h58), zup_at.trans h58, (zup_k (by decide)).trans zup_at⟩
/-- a number as the model reads it -/
def ynm (T : Nat → Int32) (p : Nat) : Nat → Int32
  | 0 => 0
  | k + 1 => zmn 1000000 (((10 : Int32) * ynm T p k + T (p + k)) - 48)
theorem num_m (xs : Nat → Int32) (L d : Nat) (J : Nat → Nat → Int64) (X : XH) (T : Nat → Int32) (n p : Nat) (hn : n ≤ 400) (a : Int32) : ∀ (f b : Nat) (M : Nat → Nat → Int32), b + f = n → p ≤ b → M 104 = T → M 61 59 = Int32.ofNat n → M 61 58 = Int32.ofNat b → M 61 62 = ynm T p (b - p) → ∃ M', zgo xs L (d + 1 + 5) 161 13 [(0, .ref 61), (1, .int a)] (zmk M J X) = some (.inr none, zmk M' J X) ∧ yf61 [58, 60, 62, 64] M M' ∧ M' 61 58 = Int32.ofNat (yspn yP3 T f b) ∧ M' 61 64 = Int32.ofNat (yspn yP3 T f b) ∧ M' 61 60 = 2 ∧ M' 61 62 = ynm T p (yspn yP3 T f b - p)
  | 0, b, M, hb, hp, hT, h59, h58, h62 => by
    have e : yspn yP3 T 0 b = b := rfl
    have e2 : yby T n b = -1 := if_pos (by omega)
    rw [e, zgo_q, S161_13 xs L (d + 1), h58, byte_m xs L (d + 1 + 5) (by omega) M J X T n b hT h59 hn (by omega), zci_i, T161_13_4_696 xs L (d + 1), e2, if_pos (show decide ((zbi (¬ (-1 : Int32) < 48 ∧ ¬ (57 : Int32) < -1)) = 0) = true by decide)]
    exact ⟨_, rfl, yf61_up (yf61_up yf61_rfl (by decide)) (by decide), (zup_k (by decide)).trans ((zup_k (by decide)).trans h58), zup_at.trans h58, (zup_k (by decide)).trans zup_at, (zup_k (by decide)).trans ((zup_k (by decide)).trans h62)⟩
  | f + 1, b, M, hb, hp, hT, h59, h58, h62 => by
    have e2 : yby T n b = T b := if_neg (by omega)
    have S := zgo_q xs L (d + 1 + 5) 161 13 [(0, .ref 61), (1, .int a)] (zmk M J X)
    rw [S161_13 xs L (d + 1), h58, byte_m xs L (d + 1 + 5) (by omega) M J X T n b hT h59 hn (by omega), zci_i, T161_13_4_696 xs L (d + 1), e2] at S
    by_cases c : ¬ T b < 48 ∧ ¬ 57 < T b
    · have e : yspn yP3 T (f + 1) b = yspn yP3 T f (b + 1) := if_pos (decide_eq_true c)
      rw [if_neg (fun z => (zbi_eq0.mp (of_decide_eq_true z)) c), h58, byte_m xs L (d + 1 + 5) (by omega) M J X T n b hT h59 hn (by omega), zci_i, T161_13_16_684 xs L (d + 1), e2, h58, h62, zth_go, nat_succ] at S
      obtain ⟨M', q1, q2, q3⟩ := num_m xs L d J X T n p hn a f (b + 1) (zup (zup M 61 62 (zmn 1000000 (((10 : Int32) * ynm T p (b - p) + T b) - 48))) 61 58 (Int32.ofNat (b + 1))) (by omega) (by omega) hT ((zup_k (by decide)).trans ((zup_k (by decide)).trans h59)) zup_at (by
        rw [zup_k (by decide), zup_at, show b + 1 - p = b - p + 1 by omega]
        show _ = zmn 1000000 (((10 : Int32) * ynm T p (b - p) + T (p + (b - p))) - 48)
        rw [show p + (b - p) = b by omega])
      rw [e]
      exact ⟨M', S.trans q1, yf61_tr (yf61_up (yf61_up yf61_rfl (by decide)) (by decide)) q2 (fun _ h => h), q3⟩
    · have e : yspn yP3 T (f + 1) b = b := if_neg (fun z => c (of_decide_eq_true z))
      rw [if_pos (decide_eq_true (zbi_eq0.mpr c))] at S
      rw [e]
      exact ⟨_, S, yf61_up (yf61_up yf61_rfl (by decide)) (by decide), (zup_k (by decide)).trans ((zup_k (by decide)).trans h58), zup_at.trans h58, (zup_k (by decide)).trans zup_at, (zup_k (by decide)).trans ((zup_k (by decide)).trans h62)⟩
theorem ynm_nv {T : Nat → Int32} {p : Nat} : ∀ k, k ≤ 5 → (∀ i, i < k → yP3 (T (p + i)) = true) → ynm T p k = ynv T p k ∧ 0 ≤ (ynv T p k).toInt ∧ (ynv T p k).toInt < 10 ^ k
  | 0, _, _ => ⟨rfl, (by decide : 0 ≤ (0 : Int32).toInt ∧ (0 : Int32).toInt < 10 ^ 0)⟩
  | k + 1, hk, h => by
    obtain ⟨i1, i2, i3⟩ := ynm_nv k (by omega) (fun i hi => h i (by omega))
    have hc := of_decide_eq_true (h k (by omega))
    have c1 : ¬ (T (p + k)).toInt < 48 := fun z => hc.1 (i32_lt.mpr (by
      have : (48 : Int32).toInt = 48 := by decide
      omega))
    have c2 : ¬ 57 < (T (p + k)).toInt := fun z => hc.2 (i32_lt.mpr (by
      have : (57 : Int32).toInt = 57 := by decide
      omega))
    have hb : (10 : Int) ^ k ≤ 10000 := by
      have : k = 0 ∨ k = 1 ∨ k = 2 ∨ k = 3 ∨ k = 4 := by omega
      rcases this with e | e | e | e | e <;> subst e <;> decide
    have hs : (10 : Int) ^ (k + 1) = 10 ^ k * 10 := Int.pow_succ 10 k
    have t10 : (10 : Int32).toInt = 10 := by decide
    have t48 : (48 : Int32).toInt = 48 := by decide
    have m1 : (ynv T p k * 10).toInt = (ynv T p k).toInt * 10 := by
      rw [i32_mul (by rw [t10]; omega) (by rw [t10]; omega), t10]
    have m2 : (ynv T p k * 10 + T (p + k)).toInt = (ynv T p k).toInt * 10 + (T (p + k)).toInt := by
      rw [i32_add (by omega) (by omega), m1]
    have m3 : ((ynv T p k * 10 + T (p + k)) - 48).toInt = (ynv T p k).toInt * 10 + (T (p + k)).toInt - 48 := by
      rw [i32_sub (by omega) (by omega), m2, t48]
    have ev : ynv T p (k + 1) = (ynv T p k * 10 + T (p + k)) - 48 := rfl
    have em : ynm T p (k + 1) = zmn 1000000 (((10 : Int32) * ynm T p k + T (p + k)) - 48) := rfl
    have t6 : (1000000 : Int32).toInt = 1000000 := by decide
    refine ⟨?_, ?_, ?_⟩
    · rw [em, ev, i1, Int32.mul_comm 10]
      apply i32_eq.mpr
      rw [zmn_int, m3, t6]
      omega
    · rw [ev, m3]
      omega
    · rw [ev, m3, hs]
      omega
