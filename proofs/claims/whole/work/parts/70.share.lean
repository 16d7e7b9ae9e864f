/-! THE PURE PART: the greatest remainders. -/
def ysI (g : Nat → Int) : Nat → Int
  | 0 => 0
  | n + 1 => ysI g n + g n
theorem ysI_cg {g h : Nat → Int} : ∀ {n : Nat}, (∀ i, i < n → g i = h i) → ysI g n = ysI h n
  | 0, _ => rfl
  | n + 1, e => by
    show ysI g n + g n = ysI h n + h n
    rw [ysI_cg (fun i hi => e i (by omega)), e n (by omega)]
theorem ysI_mul (a : Int) (g : Nat → Int) : ∀ n, ysI (fun i => a * g i) n = a * ysI g n
  | 0 => (Int.mul_zero a).symm
  | n + 1 => by
    show ysI (fun i => a * g i) n + a * g n = a * (ysI g n + g n)
    rw [ysI_mul a g n, Int.mul_add]
theorem ysI_add (g h : Nat → Int) : ∀ n, ysI (fun i => g i + h i) n = ysI g n + ysI h n
  | 0 => rfl
  | n + 1 => by
    show ysI (fun i => g i + h i) n + (g n + h n) = ysI g n + g n + (ysI h n + h n)
    rw [ysI_add g h n]
    omega
theorem ysI_0 {g : Nat → Int} : ∀ {n : Nat}, (∀ i, i < n → 0 ≤ g i) → 0 ≤ ysI g n
  | 0, _ => Int.le_refl 0
  | n + 1, h => by
    have := ysI_0 (g := g) (n := n) (fun i hi => h i (by omega))
    have := h n (by omega)
    show 0 ≤ ysI g n + g n
    omega
theorem ysI_le {g : Nat → Int} {c : Int} : ∀ {n : Nat}, (∀ i, i < n → g i ≤ c) → ysI g n ≤ n * c
  | 0, _ => by
    show (0 : Int) ≤ ((0 : Nat) : Int) * c
    rw [show ((0 : Nat) : Int) = 0 from rfl, Int.zero_mul]
    exact Int.le_refl 0
  | n + 1, h => by
    have h1 := ysI_le (g := g) (n := n) (fun i hi => h i (by omega))
    have h2 := h n (by omega)
    show ysI g n + g n ≤ ((n + 1 : Nat) : Int) * c
    rw [show ((n + 1 : Nat) : Int) = (n : Int) + 1 from rfl, Int.add_mul, Int.one_mul]
    omega
theorem ysI_one {g : Nat → Int} : ∀ {n i : Nat}, (∀ i, i < n → 0 ≤ g i) → i < n → g i ≤ ysI g n
  | 0, i, _, hi => absurd hi (Nat.not_lt_zero i)
  | n + 1, i, h, hi => by
    have h0 := ysI_0 (g := g) (n := n) (fun j hj => h j (by omega))
    have hn := h n (by omega)
    show g i ≤ ysI g n + g n
    by_cases c : i = n
    · rw [c]
      omega
    · have := ysI_one (g := g) (n := n) (fun j hj => h j (by omega)) (show i < n by omega)
      omega
/-- shares, remainders, what is left -/
def yfl9 (dep A : Int) (e : Nat → Int) (j : Nat) : Int := dep * e j / A
def yrm9 (dep A : Int) (e : Nat → Int) (j : Nat) : Int := dep * e j % A
theorem left_rg {dep A : Int} {e : Nat → Int} {n : Nat} (hn : 0 < n) (hA : A = ysI e n) (h0 : 0 < A) (hd : 0 ≤ dep) : 0 ≤ dep - ysI (yfl9 dep A e) n ∧ dep - ysI (yfl9 dep A e) n < n := by
  have h1 : ysI (fun j => dep * e j) n = A * ysI (yfl9 dep A e) n + ysI (yrm9 dep A e) n := by
    rw [← ysI_mul, ← ysI_add]
    refine ysI_cg (fun i _ => ?_)
    exact (Int.mul_ediv_add_emod (dep * e i) A).symm
  rw [ysI_mul, ← hA] at h1
  have h2 : 0 ≤ ysI (yrm9 dep A e) n := ysI_0 (fun i _ => Int.emod_nonneg _ (by omega))
  have h3 : ysI (yrm9 dep A e) n ≤ n * (A - 1) := ysI_le (fun i _ => by
    have : yrm9 dep A e i < A := Int.emod_lt_of_pos _ h0
    omega)
  have h4 : A * (dep - ysI (yfl9 dep A e) n) = ysI (yrm9 dep A e) n := by
    rw [Int.mul_sub, Int.mul_comm A dep, h1]
    omega
  have hnc : (0 : Int) < n := by omega
  generalize dep - ysI (yfl9 dep A e) n = R at h4 ⊢
  constructor
  · by_cases c : 0 ≤ R
    · exact c
    · exfalso
      have : A * R < 0 := Int.mul_neg_of_pos_of_neg h0 (by omega)
      omega
  · by_cases c : R < n
    · exact c
    · exfalso
      have h5 : A * n ≤ A * R := Int.mul_le_mul_of_nonneg_left (by omega) (by omega)
      rw [Int.mul_sub, Int.mul_one] at h3
      rw [Int.mul_comm A n] at h5
      omega
/-- one of greater remainder, of like ones of lesser number -/
abbrev yah (r : Nat → Int) (i j : Nat) : Prop := r j < r i ∨ (r j = r i ∧ i < j)
theorem zcnt_cg {p q : Nat → Bool} : ∀ {n : Nat}, (∀ i, i < n → p i = q i) → zcnt p n = zcnt q n
  | 0, _ => rfl
  | n + 1, h => by
    show zcnt p n + (if p n = true then 1 else 0) = zcnt q n + (if q n = true then 1 else 0)
    rw [zcnt_cg (fun i hi => h i (by omega)), h n (by omega)]
theorem zcnt_mono2 {p q : Nat → Bool} : ∀ {n : Nat}, (∀ i, i < n → p i = true → q i = true) → zcnt p n ≤ zcnt q n
  | 0, _ => Nat.le_refl 0
  | n + 1, h => by
    have ih := zcnt_mono2 (p := p) (q := q) (n := n) (fun i hi => h i (by omega))
    show zcnt p n + (if p n = true then 1 else 0) ≤ zcnt q n + (if q n = true then 1 else 0)
    by_cases e : p n = true
    · rw [if_pos e, if_pos (h n (by omega) e)]
      omega
    · rw [if_neg e]
      omega
theorem zcnt_lt2 {p q : Nat → Bool} {x : Nat} (h1 : q x = true) (h2 : ¬ p x = true) : ∀ {n : Nat}, (∀ i, i < n → p i = true → q i = true) → x < n → zcnt p n < zcnt q n
  | 0, _, hx => absurd hx (Nat.not_lt_zero x)
  | n + 1, h, hx => by
    show zcnt p n + (if p n = true then 1 else 0) < zcnt q n + (if q n = true then 1 else 0)
    by_cases e : x = n
    · have := zcnt_mono2 (p := p) (q := q) (n := n) (fun i hi => h i (by omega))
      subst e
      rw [if_neg h2, if_pos h1]
      omega
    · have := zcnt_lt2 h1 h2 (n := n) (fun i hi => h i (by omega)) (by omega)
      by_cases e2 : p n = true
      · rw [if_pos e2, if_pos (h n (by omega) e2)]
        omega
      · rw [if_neg e2]
        omega
theorem zcnt_add {p : Nat → Bool} {x : Nat} (hx : p x = false) : ∀ {n : Nat}, x < n → zcnt (fun i => decide (i = x) || p i) n = zcnt p n + 1
  | 0, h => absurd h (Nat.not_lt_zero x)
  | n + 1, h => by
    show zcnt (fun i => decide (i = x) || p i) n + (if (decide (n = x) || p n) = true then 1 else 0) = zcnt p n + (if p n = true then 1 else 0) + 1
    by_cases e : x = n
    · subst e
      have e1 : zcnt (fun i => decide (i = x) || p i) x = zcnt p x := zcnt_cg (fun i hi => by
        show (decide (i = x) || p i) = p i
        rw [decide_eq_false (by omega)]
        rfl)
      rw [e1, hx, decide_eq_true rfl]
      rfl
    · rw [zcnt_add hx (n := n) (by omega), decide_eq_false (show ¬ n = x by omega)]
      show _ + (if p n = true then 1 else 0) = _
      omega
theorem zcnt_full {p : Nat → Bool} : ∀ {n : Nat}, (∀ i, i < n → p i = true) → zcnt p n = n
  | 0, _ => rfl
  | n + 1, h => by
    show zcnt p n + (if p n = true then 1 else 0) = n + 1
    rw [zcnt_full (fun i hi => h i (by omega)), if_pos (h n (by omega))]
/-- those that have got one more so far -/
def yclo (r : Nat → Int) (n : Nat) (ch : Nat → Bool) : Prop := ∀ i j, i < n → j < n → ch j = true → yah r i j → ch i = true
theorem clo_rank {r : Nat → Int} {n l : Nat} {ch : Nat → Bool} (h : yclo r n ch) (hl : l < n) : (ch l = true ↔ zcnt (fun i => decide (yah r i l)) n < zcnt ch n) := by
  constructor
  · intro c
    refine zcnt_lt2 (x := l) c (fun z => ?_) (fun i hi z => h i l hi hl c (of_decide_eq_true z)) hl
    have z := of_decide_eq_true z
    rcases z with z | z <;> omega
  · intro c
    by_cases d : ch l = true
    · exact d
    · exfalso
      have : zcnt ch n ≤ zcnt (fun i => decide (yah r i l)) n := zcnt_mono2 (fun i hi z => decide_eq_true (by
        by_cases g : r l < r i
        · exact Or.inl g
        · by_cases g2 : r l = r i
          · by_cases g3 : i < l
            · exact Or.inr ⟨g2, g3⟩
            · have g4 : l ≠ i := fun e => d (e ▸ z)
              exact absurd (h l i hl hi z (Or.inr ⟨g2.symm, by omega⟩)) d
          · exact absurd (h l i hl hi z (Or.inl (by omega))) d))
      omega
theorem clo_step {r : Nat → Int} {n b : Nat} {ch : Nat → Bool} (h : yclo r n ch) (hb : b < n) (hbest : ∀ i, i < n → ch i = false → i ≠ b → yah r b i) : yclo r n (fun i => decide (i = b) || ch i) := by
  intro i j hi hj hc ha
  show (decide (i = b) || ch i) = true
  by_cases e : i = b
  · rw [decide_eq_true e]
    rfl
  · rw [decide_eq_false e]
    show ch i = true
    have hc : (decide (j = b) || ch j) = true := hc
    by_cases e2 : j = b
    · subst e2
      by_cases d : ch i = true
      · exact d
      · have := hbest i hi (by simpa using d) e
        rcases this with q | q <;> rcases ha with a | a <;> omega
    · rw [decide_eq_false e2] at hc
      exact h i j hi hj hc ha
