/-! THE PURE PART: tokens of a text; numbers in the class. -/
def yP1 (c : Int32) : Bool := decide (c = 32 ∨ c = 10)
def yP2 (c : Int32) : Bool := decide (¬ c < 97 ∧ ¬ 122 < c)
def yP3 (c : Int32) : Bool := decide (¬ c < 48 ∧ ¬ 57 < c)
def yspn (P : Int32 → Bool) (T : Nat → Int32) : Nat → Nat → Nat
  | 0, b => b
  | f + 1, b => if P (T b) = true then yspn P T f (b + 1) else b
theorem yspn_rg (P : Int32 → Bool) (T : Nat → Int32) : ∀ f b, b ≤ yspn P T f b ∧ yspn P T f b ≤ b + f
  | 0, b => ⟨Nat.le_refl _, Nat.le_refl _⟩
  | f + 1, b => by
    have ih := yspn_rg P T f (b + 1)
    show b ≤ (if P (T b) = true then yspn P T f (b + 1) else b) ∧ (if P (T b) = true then yspn P T f (b + 1) else b) ≤ b + (f + 1)
    split <;> omega
/-- a number's value as it is read -/
def ynv (T : Nat → Int32) (p : Nat) : Nat → Int32
  | 0 => 0
  | k + 1 => (ynv T p k * 10 + T (p + k)) - 48
/-- a word as its place among the words -/
def yws : List (List Int32) := [[116, 111, 108, 108], [102, 114, 101, 101], [108, 97, 116, 101], [100, 111, 117, 98, 108, 101], [97, 110, 100], [111, 114], [110, 111, 116], [97, 120, 108, 101, 115], [102, 117, 109, 101, 115], [107, 109], [104, 111, 117, 114], [119, 101, 101, 107, 100, 97, 121], [115, 111, 114, 116], [103, 111, 110, 101], [103, 117, 101, 115, 115, 101, 100]]
def ymt (T : Nat → Int32) : Nat → List Int32 → Bool
  | _, [] => true
  | p, c :: w => decide (c = T p) && ymt T (p + 1) w
def yrow9 (T : Nat → Int32) (p l : Nat) (w : List Int32) : Bool := decide (w.length = l) && ymt T p w
/-- the token of a word, the words from the i-th on still to come, x the token so far -/
def ywd (T : Nat → Int32) (p l : Nat) : Nat → List (List Int32) → Int32 → Int32
  | _, [], x => x
  | i, w :: ws, x => ywd T p l (i + 1) ws (if yrow9 T p l w = true then (300 : Int32) + Int32.ofNat i else x)
def ywc (T : Nat → Int32) (p l : Nat) : Int32 := ywd T p l 0 yws 299
def ysgn (c : Int32) : Bool := decide (c = 59 ∨ c = 40 ∨ c = 41 ∨ ¬ zrank c ≤ 0)
/-- the token at a place with no blank: itself, its number, where it begins and ends -/
def ylxE (T : Nat → Int32) (n p : Nat) : Int32 × Int32 × Nat × Nat := if n ≤ p then (256, 0, p, p) else if yP2 (T p) = true then (ywc T p (yspn yP2 T (n - p) p - p), 0, p, yspn yP2 T (n - p) p) else if yP3 (T p) = true then (if yspn yP3 T (n - p) p - p ≤ 5 then 258 else 259, ynv T p (yspn yP3 T (n - p) p - p), p, yspn yP3 T (n - p) p) else (if ysgn (T p) = true then T p else 257, 0, p, p + 1)
def ylx (T : Nat → Int32) (n b : Nat) : Int32 × Int32 × Nat × Nat := ylxE T n (yspn yP1 T (n - b) b)
/-- only fields K of the reader have changed -/
def yf35 (K : List Nat) (H H' : Nat → Nat → Int32) : Prop := (∀ a, a ≠ 35 → H' a = H a) ∧ ∀ k, k ∉ K → H' 35 k = H 35 k
theorem yf35_rfl {K : List Nat} {H : Nat → Nat → Int32} : yf35 K H H := ⟨fun _ _ => rfl, fun _ _ => rfl⟩
theorem yf35_up {K : List Nat} {H H' : Nat → Nat → Int32} {k : Nat} {v : Int32} (h : yf35 K H H') (hk : k ∈ K) : yf35 K H (zup H' 35 k v) := by
  refine ⟨fun a ha => (if_neg ha).trans (h.1 a ha), fun j hj => ?_⟩
  have : j ≠ k := fun e => hj (e ▸ hk)
  exact (zup_k this).trans (h.2 j hj)
theorem yf35_tr {K K2 : List Nat} {H H' H2 : Nat → Nat → Int32} (h : yf35 K H H') (g : yf35 K2 H' H2) (s : ∀ k, k ∈ K2 → k ∈ K) : yf35 K H H2 := ⟨fun a ha => (g.1 a ha).trans (h.1 a ha), fun k hk => (g.2 k (fun z => hk (s k z))).trans (h.2 k hk)⟩
theorem nat_sub2 {a b : Nat} (ha : a < 2147483648) (h : b ≤ a) : Int32.ofNat a - Int32.ofNat b = Int32.ofNat (a - b) := by
  apply i32_eq.mpr
  have e1 : (Int32.ofNat a).toInt = a := i32_toInt ha
  have e2 : (Int32.ofNat b).toInt = b := i32_toInt (by omega)
  rw [i32_sub (by omega) (by omega), e1, e2, i32_toInt (by omega)]
  omega
theorem num_c (xs : Nat → Int32) (L d : Nat) (J : Nat → Nat → Int64) (X : XH) (T : Nat → Int32) (n p : Nat) (hn : n ≤ 400) : ∀ (f b : Nat) (H : Nat → Nat → Int32), b + f = n → p ≤ b → H 36 = T → H 35 2 = Int32.ofNat n → H 35 4 = Int32.ofNat b → H 35 3 = Int32.ofNat p → H 35 6 = ynv T p (b - p) → ∃ H', zgo xs L (d + 5) 51 2 [(0, .ref 35)] (zmk H J X) = some (.inr none, zmk H' J X) ∧ yf35 [4, 5, 6] H H' ∧ H' 35 4 = Int32.ofNat (yspn yP3 T f b) ∧ H' 35 5 = (if yspn yP3 T f b - p ≤ 5 then 258 else 259) ∧ H' 35 6 = ynv T p (yspn yP3 T f b - p)
  | 0, b, H, hb, hp, hT, h2, h4, h3, h6 => by
    have e : yspn yP3 T 0 b = b := rfl
    rw [e, zgo_q, S51_2 xs L d, h2, h4, if_pos (decide_eq_true ((nat_le (by omega) (by omega)).mpr (by omega))), h3, nat_sub2 (by omega) hp]
    by_cases c : b - p ≤ 5
    · rw [if_pos (decide_eq_true (show Int32.ofNat (b - p) ≤ (5 : Int32) from (nat_le (b := 5) (by omega) (by omega)).mpr c))]
      refine ⟨_, rfl, yf35_up yf35_rfl (by decide), (zup_k (by decide)).trans h4, ?_, (zup_k (by decide)).trans h6⟩
      rw [if_pos c]
      exact zup_at
    · rw [if_neg (show ¬ decide (Int32.ofNat (b - p) ≤ (5 : Int32)) = true from fun z => c ((nat_le (b := 5) (by omega) (by omega)).mp (of_decide_eq_true z)))]
      refine ⟨_, rfl, yf35_up yf35_rfl (by decide), (zup_k (by decide)).trans h4, ?_, (zup_k (by decide)).trans h6⟩
      rw [if_neg c]
      exact zup_at
  | f + 1, b, H, hb, hp, hT, h2, h4, h3, h6 => by
    have ea : zat H 36 400 (Int32.ofNat b) = T b := by rw [zat_nat (by omega) (by omega), hT]
    have S := zgo_q xs L (d + 5) 51 2 [(0, .ref 35)] (zmk H J X)
    rw [S51_2 xs L d, h2, h4, if_neg (fun z => by
      have := (nat_le (by omega) (by omega)).mp (of_decide_eq_true z)
      omega), ea, h3, nat_sub2 (by omega) hp] at S
    by_cases c : ¬ T b < 48 ∧ ¬ 57 < T b
    · have e : yspn yP3 T (f + 1) b = yspn yP3 T f (b + 1) := if_pos (decide_eq_true c)
      rw [e]
      rw [if_neg (fun z => (zbi_eq0.mp (of_decide_eq_true z)) c), zth_go, nat_succ] at S
      obtain ⟨H', q1, q2, q3⟩ := num_c xs L d J X T n p hn f (b + 1) (zup (zup H 35 6 ((H 35 6 * 10 + T b) - 48)) 35 4 (Int32.ofNat (b + 1))) (by omega) (by omega) hT ((zup_k (by decide)).trans ((zup_k (by decide)).trans h2)) zup_at ((zup_k (by decide)).trans ((zup_k (by decide)).trans h3)) (by
        rw [zup_k (by decide), zup_at, h6, show b + 1 - p = b - p + 1 by omega]
        show _ = (ynv T p (b - p) * 10 + T (p + (b - p))) - 48
        rw [show p + (b - p) = b by omega])
      exact ⟨H', S.trans q1, yf35_tr (yf35_up (yf35_up yf35_rfl (by decide)) (by decide)) q2 (fun _ h => h), q3⟩
    · have e : yspn yP3 T (f + 1) b = b := if_neg (fun z => c (of_decide_eq_true z))
      rw [e]
      rw [if_pos (decide_eq_true (zbi_eq0.mpr c))] at S
      by_cases c5 : b - p ≤ 5
      · rw [if_pos (decide_eq_true (show Int32.ofNat (b - p) ≤ (5 : Int32) from (nat_le (b := 5) (by omega) (by omega)).mpr c5))] at S
        refine ⟨_, S, yf35_up yf35_rfl (by decide), (zup_k (by decide)).trans h4, ?_, (zup_k (by decide)).trans h6⟩
        rw [if_pos c5]
        exact zup_at
      · rw [if_neg (show ¬ decide (Int32.ofNat (b - p) ≤ (5 : Int32)) = true from fun z => c5 ((nat_le (b := 5) (by omega) (by omega)).mp (of_decide_eq_true z)))] at S
        refine ⟨_, S, yf35_up yf35_rfl (by decide), (zup_k (by decide)).trans h4, ?_, (zup_k (by decide)).trans h6⟩
        rw [if_neg c5]
        exact zup_at
