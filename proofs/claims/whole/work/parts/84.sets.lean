/-! THE PURE PART: sets of twelve as numbers. -/
def ypc : Nat → Nat → Nat
  | 0, _ => 0
  | k + 1, s => s % 2 + ypc k (s / 2)
def yrv : Nat → Nat → Nat
  | 0, _ => 0
  | k + 1, s => s % 2 * 2 ^ k + yrv k (s / 2)
def ylw : Nat → Nat → Nat
  | 0, _ => 0
  | k + 1, s => if s % 2 = 1 then 1 else 2 * ylw k (s / 2)
theorem yrv_lt : ∀ k s, yrv k s < 2 ^ k
  | 0, _ => Nat.one_pos
  | k + 1, s => by
    have ih := yrv_lt k (s / 2)
    have e : yrv (k + 1) s = s % 2 * 2 ^ k + yrv k (s / 2) := rfl
    have e2 : 2 ^ (k + 1) = 2 ^ k * 2 := Nat.pow_succ 2 k
    rcases Nat.mod_two_eq_zero_or_one s with h | h
    · rw [h, Nat.zero_mul] at e
      omega
    · rw [h, Nat.one_mul] at e
      omega
theorem yrv_inj : ∀ k s t, s < 2 ^ k → t < 2 ^ k → yrv k s = yrv k t → s = t
  | 0, s, t, hs, ht, _ => by
    have : (2 : Nat) ^ 0 = 1 := rfl
    omega
  | k + 1, s, t, hs, ht, h => by
    have e2 : 2 ^ (k + 1) = 2 ^ k * 2 := Nat.pow_succ 2 k
    have a1 := yrv_lt k (s / 2)
    have a2 := yrv_lt k (t / 2)
    have e : yrv (k + 1) s = s % 2 * 2 ^ k + yrv k (s / 2) := rfl
    have e' : yrv (k + 1) t = t % 2 * 2 ^ k + yrv k (t / 2) := rfl
    have ih := yrv_inj k (s / 2) (t / 2) (by omega) (by omega)
    rcases Nat.mod_two_eq_zero_or_one s with h1 | h1 <;> rcases Nat.mod_two_eq_zero_or_one t with h2 | h2 <;> rw [h1] at e <;> rw [h2] at e' <;> simp only [Nat.zero_mul, Nat.one_mul, Nat.zero_add] at e e'
    · have := ih (by omega)
      omega
    · omega
    · omega
    · have := ih (by omega)
      omega
/-- the first road in which two sets differ is in the one -/
theorem ytie : ∀ k s t, s < 2 ^ k → t < 2 ^ k → (s &&& ylw k (s ^^^ t) ≠ 0 ↔ yrv k t < yrv k s)
  | 0, s, t, hs, ht => by
    have : (2 : Nat) ^ 0 = 1 := rfl
    have h1 : s = 0 := by omega
    have h2 : t = 0 := by omega
    subst h1
    subst h2
    decide
  | k + 1, s, t, hs, ht => by
    have e2 : 2 ^ (k + 1) = 2 ^ k * 2 := Nat.pow_succ 2 k
    have a1 := yrv_lt k (s / 2)
    have a2 := yrv_lt k (t / 2)
    have e : yrv (k + 1) s = s % 2 * 2 ^ k + yrv k (s / 2) := rfl
    have e' : yrv (k + 1) t = t % 2 * 2 ^ k + yrv k (t / 2) := rfl
    have el : ylw (k + 1) (s ^^^ t) = if (s ^^^ t) % 2 = 1 then 1 else 2 * ylw k ((s ^^^ t) / 2) := rfl
    have ih := ytie k (s / 2) (t / 2) (by omega) (by omega)
    have hx := @Nat.xor_mod_two_eq_one s t
    have h1 : s &&& 1 = s % 2 := Nat.and_one_is_mod s
    rw [Nat.xor_div_two] at el
    have hev : ∀ w, (s &&& 2 * w ≠ 0 ↔ s / 2 &&& w ≠ 0) := fun w => by
      have d := @Nat.and_div_two s (2 * w)
      have m := @Nat.and_mod_two_eq_one s (2 * w)
      rw [Nat.mul_div_cancel_left w (by decide)] at d
      rcases Nat.mod_two_eq_zero_or_one (s &&& 2 * w) with q | q
      · constructor <;> intro z <;> omega
      · have := (m.mp q).2
        omega
    rcases Nat.mod_two_eq_zero_or_one s with q1 | q1 <;> rcases Nat.mod_two_eq_zero_or_one t with q2 | q2 <;> rw [q1] at e <;> rw [q2] at e' <;> simp only [Nat.zero_mul, Nat.one_mul, Nat.zero_add] at e e'
    · rw [if_neg (fun z => by
        have := hx.mp z
        omega)] at el
      rw [el, hev, ih]
      omega
    · rw [if_pos (hx.mpr (by omega))] at el
      rw [el, h1]
      omega
    · rw [if_pos (hx.mpr (by omega))] at el
      rw [el, h1]
      omega
    · rw [if_neg (fun z => by
        have := hx.mp z
        omega)] at el
      rw [el, hev, ih]
      omega
theorem ypc_sub : ∀ k s a, s < 2 ^ k → ypc k (s &&& a) < ypc k s ∨ s &&& a = s
  | 0, s, a, hs => by
    have : (2 : Nat) ^ 0 = 1 := rfl
    have h1 : s = 0 := by omega
    subst h1
    exact Or.inr (Nat.zero_and _)
  | k + 1, s, a, hs => by
    have e2 : 2 ^ (k + 1) = 2 ^ k * 2 := Nat.pow_succ 2 k
    have ih := ypc_sub k (s / 2) (a / 2) (by omega)
    have e : ypc (k + 1) s = s % 2 + ypc k (s / 2) := rfl
    have e' : ypc (k + 1) (s &&& a) = (s &&& a) % 2 + ypc k ((s &&& a) / 2) := rfl
    have d := @Nat.and_div_two s a
    have m := @Nat.and_mod_two_eq_one s a
    rw [d] at e'
    rcases ih with ih | ih
    · left
      rcases Nat.mod_two_eq_zero_or_one (s &&& a) with q | q
      · omega
      · have := (m.mp q).1
        omega
    · rw [ih] at e' d
      rcases Nat.mod_two_eq_zero_or_one (s &&& a) with q | q
      · rcases Nat.mod_two_eq_zero_or_one s with q1 | q1
        · right
          omega
        · left
          omega
      · have := (m.mp q).1
        right
        omega
/-- no road outside a -/
theorem ynot_32 (s a : Nat) (hs : s < 4096) : s &&& (a ^^^ 4294967295) = 0 ↔ s &&& a = s := by
  have hb : ∀ i, s.testBit i = true → i < 32 := fun i h => by
    by_cases c : i < 32
    · exact c
    · have h32 : 2 ^ 32 ≤ 2 ^ i := Nat.pow_le_pow_right (by decide) (by omega)
      have h33 : 2 ^ 32 = 4294967296 := rfl
      rw [Nat.testBit_lt_two_pow (by omega)] at h
      exact absurd h Bool.false_ne_true
  have hx : ∀ i, i < 32 → (4294967295 : Nat).testBit i = true := fun i hi => by
    have e := Nat.testBit_two_pow_sub_one 32 i
    rw [show 2 ^ 32 - 1 = 4294967295 from rfl, decide_eq_true hi] at e
    exact e
  constructor
  · intro h
    apply Nat.eq_of_testBit_eq
    intro i
    have hi := congrArg (fun x => Nat.testBit x i) h
    simp only [Nat.testBit_and, Nat.testBit_xor, Nat.zero_testBit] at hi
    rw [Nat.testBit_and]
    cases q : s.testBit i
    · rfl
    · rw [q, hx i (hb i q)] at hi
      cases r : a.testBit i
      · rw [r] at hi
        exact absurd hi (by decide)
      · rfl
  · intro h
    apply Nat.eq_of_testBit_eq
    intro i
    have hi := congrArg (fun x => Nat.testBit x i) h
    simp only [Nat.testBit_and] at hi
    rw [Nat.testBit_and, Nat.testBit_xor, Nat.zero_testBit]
    cases q : s.testBit i
    · rfl
    · rw [q] at hi
      rw [hx i (hb i q)]
      cases r : a.testBit i
      · rw [r] at hi
        exact absurd hi (by decide)
      · rfl
theorem ynot_i (s a : Nat) (hs : s < 4096) : Int32.ofNat s &&& (Int32.ofNat a ^^^ (-1)) = 0 ↔ s &&& a = s := by
  have e : Int32.ofNat s &&& (Int32.ofNat a ^^^ (-1)) = Int32.ofNat (s &&& (a ^^^ 4294967295)) := by
    rw [show (-1 : Int32) = Int32.ofNat 4294967295 from rfl, i32_xor, i32_and]
  have hl : s &&& (a ^^^ 4294967295) ≤ s := Nat.and_le_left
  rw [e, ← ynot_32 s a hs]
  exact ⟨fun z => i32_nat_inj (b := 0) (by omega) (by decide) z, fun z => by
    rw [z]
    rfl⟩
theorem yall_12 (P : Nat → Prop) (h : ∀ i, i < 64 → ∀ j, j < 64 → P (64 * i + j)) : ∀ s, s < 4096 → P s := fun s hs => by
  have := h (s / 64) (by omega) (s % 64) (by omega)
  rw [show 64 * (s / 64) + s % 64 = s by omega] at this
  exact this
theorem zbc_12 : ∀ i, i < 64 → ∀ j, j < 64 → zbc (Int32.ofNat (64 * i + j)) = Int32.ofNat (ypc 12 (64 * i + j)) := by decide +kernel
theorem zbc_pc (s : Nat) (h : s < 4096) : zbc (Int32.ofNat s) = Int32.ofNat (ypc 12 s) := yall_12 (fun s => zbc (Int32.ofNat s) = Int32.ofNat (ypc 12 s)) zbc_12 s h
theorem low_12 : ∀ i, i < 64 → ∀ j, j < 64 → Int32.ofNat (64 * i + j) &&& (-Int32.ofNat (64 * i + j)) = Int32.ofNat (ylw 12 (64 * i + j)) := by decide +kernel
theorem low_lw (s : Nat) (h : s < 4096) : Int32.ofNat s &&& (-Int32.ofNat s) = Int32.ofNat (ylw 12 s) := yall_12 (fun s => Int32.ofNat s &&& (-Int32.ofNat s) = Int32.ofNat (ylw 12 s)) low_12 s h
theorem ypc_le : ∀ k s, ypc k s ≤ k
  | 0, _ => Nat.le_refl _
  | k + 1, s => by
    have := ypc_le k (s / 2)
    show s % 2 + ypc k (s / 2) ≤ k + 1
    omega
theorem ypc_0 : ∀ k s, s < 2 ^ k → ypc k s = 0 → s = 0
  | 0, s, h, _ => by
    have : (2 : Nat) ^ 0 = 1 := rfl
    omega
  | k + 1, s, h, e => by
    have e2 : 2 ^ (k + 1) = 2 ^ k * 2 := Nat.pow_succ 2 k
    have e' : s % 2 + ypc k (s / 2) = 0 := e
    have := ypc_0 k (s / 2) (by omega) (by omega)
    omega
