/-! THE PURE PART: the best set of so many roads. -/
def ysn (A W : Nat → Nat) : Nat → Nat → Nat
  | 0, _ => 0
  | j + 1, s => ysn A W j s + (if A j &&& s = 0 then 0 else W j)
def yor (A : Nat → Nat) : Nat → Nat
  | 0 => 0
  | j + 1 => yor A j ||| A j
theorem yor_lt {A : Nat → Nat} {k : Nat} : ∀ m, (∀ j, j < m → A j < 2 ^ k) → yor A m < 2 ^ k
  | 0, _ => Nat.two_pow_pos k
  | m + 1, h => Nat.or_lt_two_pow (yor_lt m (fun j hj => h j (by omega))) (h m (by omega))
theorem yor_sub {A : Nat → Nat} : ∀ m j, j < m → A j &&& yor A m = A j
  | 0, j, h => absurd h (Nat.not_lt_zero j)
  | m + 1, j, h => by
    show A j &&& (yor A m ||| A m) = A j
    by_cases c : j = m
    · subst c
      apply Nat.eq_of_testBit_eq
      intro i
      rw [Nat.testBit_and, Nat.testBit_or]
      cases A j |>.testBit i <;> simp
    · have ih := yor_sub (A := A) m j (by omega)
      apply Nat.eq_of_testBit_eq
      intro i
      have hi := congrArg (fun x => Nat.testBit x i) ih
      simp only [Nat.testBit_and] at hi
      rw [Nat.testBit_and, Nat.testBit_or]
      cases q : A j |>.testBit i
      · rfl
      · rw [q] at hi
        simp only [Bool.true_and] at hi
        rw [hi]
        rfl
theorem ysn_sub {A W : Nat → Nat} (s a : Nat) : ∀ m, (∀ j, j < m → A j &&& a = A j) → ysn A W m (s &&& a) = ysn A W m s
  | 0, _ => rfl
  | m + 1, h => by
    have ih := ysn_sub (W := W) s a m (fun j hj => h j (by omega))
    have e : A m &&& (s &&& a) = A m &&& s := by rw [Nat.and_comm s a, ← Nat.and_assoc, h m (by omega)]
    show ysn A W m (s &&& a) + (if A m &&& (s &&& a) = 0 then 0 else W m) = _
    rw [ih, e]
    rfl
theorem ysn_pos {A W : Nat → Nat} (s : Nat) : ∀ m, (∀ j, j < m → 1 ≤ W j) → ysn A W m s = 0 → yor A m &&& s = 0
  | 0, _, _ => Nat.zero_and s
  | m + 1, h, e => by
    have e : ysn A W m s + (if A m &&& s = 0 then 0 else W m) = 0 := e
    have ih := ysn_pos (A := A) s m (fun j hj => h j (by omega)) (by omega)
    have hw := h m (by omega)
    show (yor A m ||| A m) &&& s = 0
    rw [Nat.and_or_distrib_right, ih, Nat.zero_or]
    by_cases c : A m &&& s = 0
    · exact c
    · rw [if_neg c] at e
      omega
theorem ysn_le {A W : Nat → Nat} (s : Nat) : ∀ m, (∀ j, j < m → W j ≤ 999) → ysn A W m s ≤ 999 * m
  | 0, _ => Nat.zero_le _
  | m + 1, h => by
    have ih := ysn_le (A := A) s m (fun j hj => h j (by omega))
    have hw := h m (by omega)
    have e : ysn A W (m + 1) s = ysn A W m s + (if A m &&& s = 0 then 0 else W m) := rfl
    rw [e]
    split <;> omega
theorem ysn_0 (A W : Nat → Nat) : ∀ m, ysn A W m 0 = 0
  | 0 => rfl
  | m + 1 => by
    show ysn A W m 0 + (if A m &&& 0 = 0 then 0 else W m) = 0
    rw [ysn_0 A W m, Nat.and_zero, if_pos rfl]
/-- the order of sets -/
def yky (A W : Nat → Nat) (m s : Nat) : Nat := (ysn A W m s * 16 + (15 - ypc 12 s)) * 4096 + yrv 12 s
theorem yky_lt {A W : Nat → Nat} {m s t : Nat} : yky A W m s ≤ yky A W m t ↔ (ysn A W m s < ysn A W m t ∨ (ysn A W m s = ysn A W m t ∧ (ypc 12 t < ypc 12 s ∨ (ypc 12 s = ypc 12 t ∧ yrv 12 s ≤ yrv 12 t)))) := by
  unfold yky
  have h1 := ypc_le 12 s
  have h2 := ypc_le 12 t
  have h3 := yrv_lt 12 s
  have h4 := yrv_lt 12 t
  have : 2 ^ 12 = 4096 := rfl
  omega
theorem yky_inj {A W : Nat → Nat} {m s t : Nat} (hs : s < 4096) (ht : t < 4096) (h1 : yky A W m s ≤ yky A W m t) (h2 : yky A W m t ≤ yky A W m s) : s = t := by
  have q1 := yky_lt.mp h1
  have q2 := yky_lt.mp h2
  exact yrv_inj 12 s t hs ht (by omega)
/-- the best of at most z roads among the sets of roads of ways -/
def yisB (A W : Nat → Nat) (m z s : Nat) : Prop := s < 4096 ∧ s &&& yor A m = s ∧ ypc 12 s ≤ z ∧ ∀ t, t < 4096 → t &&& yor A m = t → ypc 12 t ≤ z → yky A W m t ≤ yky A W m s
theorem yisB_all {A W : Nat → Nat} {m z s : Nat} (h : yisB A W m z s) : ∀ t, t < 4096 → ypc 12 t ≤ z → yky A W m t ≤ yky A W m s := fun t ht hz => by
  have e := ysn_sub (A := A) (W := W) t (yor A m) m (fun j hj => yor_sub m j hj)
  have hl : t &&& yor A m ≤ t := Nat.and_le_left
  rcases ypc_sub 12 t (yor A m) ht with q | q
  · have := h.2.2.2 (t &&& yor A m) (by omega) (by rw [Nat.and_assoc, Nat.and_self]) (by omega)
    refine Nat.le_trans (yky_lt.mpr (Or.inr ⟨e.symm, Or.inl q⟩)) this
  · exact h.2.2.2 t ht q hz
/-- what the first pass gives: every set above s looked at -/
def yQ1 (A W : Nat → Nat) (m s : Nat) (B : Nat → Nat) : Prop := B 0 = 0 ∧ ∀ z, 1 ≤ z → z ≤ 12 → (B z = 0 ∧ ∀ t, t < 4096 → t &&& yor A m = t → s < t → ypc 12 t ≠ z) ∨ (s < B z ∧ B z < 4096 ∧ B z &&& yor A m = B z ∧ ypc 12 (B z) = z ∧ ∀ t, t < 4096 → t &&& yor A m = t → s < t → ypc 12 t = z → yky A W m t ≤ yky A W m (B z))
def ybet (A W : Nat → Nat) (m s t : Nat) : Prop := ysn A W m t < ysn A W m s ∨ (ysn A W m s = ysn A W m t ∧ yrv 12 t < yrv 12 s)
/-- what the first pass keeps: every set below s looked at -/
def yQ2 (A W : Nat → Nat) (m s : Nat) (B : Nat → Nat) : Prop := B 0 = 0 ∧ ∀ z, 1 ≤ z → z ≤ 12 → (B z = 0 ∧ ∀ t, t < s → t &&& yor A m = t → 0 < t → ypc 12 t ≠ z) ∨ (0 < B z ∧ B z < 4096 ∧ B z &&& yor A m = B z ∧ ypc 12 (B z) = z ∧ ∀ t, t < s → t &&& yor A m = t → 0 < t → ypc 12 t = z → yky A W m t ≤ yky A W m (B z))
theorem yQ2_one (A W : Nat → Nat) (m : Nat) : yQ2 A W m 1 (fun _ => 0) := ⟨rfl, fun z z1 z2 => Or.inl ⟨rfl, fun t t1 t2 t3 _ => by omega⟩⟩
theorem yQ2_end {A W : Nat → Nat} {m : Nat} {B : Nat → Nat} (h : yQ2 A W m 4096 B) : yQ1 A W m 0 B := by
  refine ⟨h.1, fun z z1 z2 => ?_⟩
  rcases h.2 z z1 z2 with ⟨u1, u2⟩ | ⟨u1, u2, u3, u4, u5⟩
  · exact Or.inl ⟨u1, fun t t1 t2 t3 => u2 t t1 t2 t3⟩
  · exact Or.inr ⟨u1, u2, u3, u4, fun t t1 t2 t3 t4 => u5 t t1 t2 t3 t4⟩
theorem yQ2_step {A W : Nat → Nat} {m s : Nat} {B B' : Nat → Nat} (hW : ∀ j, j < m → 1 ≤ W j) (hs : s < 4096) (h0 : 1 ≤ s) (h : yQ2 A W m s B) (hB : (s &&& yor A m = s ∧ ybet A W m s (B (ypc 12 s)) ∧ B' = fun i => if i = ypc 12 s then s else B i) ∨ ((¬ s &&& yor A m = s ∨ ¬ ybet A W m s (B (ypc 12 s))) ∧ B' = B)) : yQ2 A W m (s + 1) B' := by
  have hz1 : ypc 12 s ≠ 0 := fun z => absurd (ypc_0 12 s hs z) (by omega)
  have hz2 := ypc_le 12 s
  have hnx : ∀ t, t < s + 1 → t = s ∨ t < s := fun t ht => by omega
  have hsn : s &&& yor A m = s → 1 ≤ ysn A W m s := fun hs2 => by
    by_cases c : ysn A W m s = 0
    · have := ysn_pos s m hW c
      rw [Nat.and_comm] at this
      omega
    · omega
  obtain ⟨b0, hb⟩ := h
  rcases hB with ⟨hs2, c, e⟩ | ⟨c, e⟩
  · subst e
    refine ⟨(if_neg (Ne.symm hz1)).trans b0, fun z z1 z2 => ?_⟩
    by_cases cz : z = ypc 12 s
    · subst cz
      right
      simp only [if_true]
      refine ⟨h0, hs, hs2, trivial, fun t t1 t2 t3 t4 => ?_⟩
      rcases hnx t t1 with q | q
      · rw [q]
        exact Nat.le_refl _
      · rcases hb _ z1 z2 with ⟨u1, u2⟩ | ⟨u1, u2, u3, u4, u5⟩
        · exact absurd t4 (u2 t q t2 t3)
        · refine Nat.le_trans (u5 t q t2 t3 t4) (yky_lt.mpr ?_)
          rcases c with c | c
          · exact Or.inl c
          · exact Or.inr ⟨c.1.symm, Or.inr ⟨u4, by omega⟩⟩
    · simp only [if_neg cz]
      rcases hb z z1 z2 with ⟨u1, u2⟩ | ⟨u1, u2, u3, u4, u5⟩
      · refine Or.inl ⟨u1, fun t t1 t2 t3 t4 => ?_⟩
        rcases hnx t t1 with q | q
        · rw [q] at t4
          exact cz t4.symm
        · exact u2 t q t2 t3 t4
      · refine Or.inr ⟨u1, u2, u3, u4, fun t t1 t2 t3 t4 => ?_⟩
        rcases hnx t t1 with q | q
        · rw [q] at t4
          exact absurd t4.symm cz
        · exact u5 t q t2 t3 t4
  · subst e
    refine ⟨b0, fun z z1 z2 => ?_⟩
    rcases hb z z1 z2 with ⟨u1, u2⟩ | ⟨u1, u2, u3, u4, u5⟩
    · refine Or.inl ⟨u1, fun t t1 t2 t3 t4 => ?_⟩
      rcases hnx t t1 with q | q
      · rw [q] at t4 t2
        rcases c with c | c
        · exact c t2
        · apply c
          rw [t4, u1]
          left
          rw [ysn_0]
          exact hsn t2
      · exact u2 t q t2 t3 t4
    · refine Or.inr ⟨u1, u2, u3, u4, fun t t1 t2 t3 t4 => ?_⟩
      rcases hnx t t1 with q | q
      · rw [q] at t4 t2
        rw [q]
        refine yky_lt.mpr ?_
        rcases c with c | c
        · exact absurd t2 c
        · rw [t4] at c
          unfold ybet at c
          omega
      · exact u5 t q t2 t3 t4
/-- the second pass: sets of at most z -/
theorem yisB_0 (A W : Nat → Nat) (m : Nat) : yisB A W m 0 0 := by
  refine ⟨by decide, Nat.zero_and _, Nat.le_refl _, fun t t1 t2 t3 => ?_⟩
  rw [ypc_0 12 t t1 (by omega)]
  exact Nat.le_refl _
theorem yisB_step {A W : Nat → Nat} {m z : Nat} {B : Nat → Nat} {f : Nat} (h : yQ1 A W m 0 B) (hz : z < 12) (hf : yisB A W m z f) : (ysn A W m (B (z + 1)) ≤ ysn A W m f → yisB A W m (z + 1) f) ∧ (ysn A W m f < ysn A W m (B (z + 1)) → yisB A W m (z + 1) (B (z + 1))) := by
  obtain ⟨f1, f2, f3, f4⟩ := hf
  obtain ⟨b0, hb⟩ := h
  have pos : ∀ t, t < 4096 → ypc 12 t = z + 1 → 0 < t := fun t ht e => by
    rcases Nat.eq_zero_or_pos t with q | q
    · rw [q] at e
      have : ypc 12 0 = 0 := by decide
      omega
    · exact q
  refine ⟨fun c => ⟨f1, f2, by omega, fun t t1 t2 t3 => ?_⟩, fun c => ?_⟩
  · by_cases q : ypc 12 t ≤ z
    · exact f4 t t1 t2 q
    · have q : ypc 12 t = z + 1 := by omega
      rcases hb (z + 1) (by omega) (by omega) with ⟨u1, u2⟩ | ⟨u1, u2, u3, u4, u5⟩
      · exact absurd q (u2 t t1 t2 (pos t t1 q))
      · have := yky_lt.mp (u5 t t1 t2 (pos t t1 q) q)
        refine yky_lt.mpr ?_
        omega
  · rcases hb (z + 1) (by omega) (by omega) with ⟨u1, u2⟩ | ⟨u1, u2, u3, u4, u5⟩
    · rw [u1, ysn_0] at c
      exact absurd c (Nat.not_lt_zero _)
    · refine ⟨u2, u3, by omega, fun t t1 t2 t3 => ?_⟩
      by_cases q : ypc 12 t ≤ z
      · have := yky_lt.mp (f4 t t1 t2 q)
        refine yky_lt.mpr ?_
        omega
      · have q : ypc 12 t = z + 1 := by omega
        exact u5 t t1 t2 (pos t t1 q) q
