/-! THE PURE PART: what unwinding does, and when two states are alike. -/
def ytop (r : Int32) : List Int32 → Prop
  | [] => True
  | t :: _ => zrank t < r
theorem yun_top {r : Int32} {w : List Int32} (u : List Int32) (h : ytop r w) : yun r w u = (u, w) := by
  cases w with
  | nil => rfl
  | cons t w => exact if_pos h
theorem yun_cons {r t : Int32} {w u : List Int32} (h : ¬ zrank t < r) : yun r (t :: w) u = yun r w (u ++ [-t]) := if_neg h
theorem ytop_mono {r s : Int32} {w : List Int32} (h : ytop r w) (hs : r.toInt ≤ s.toInt) : ytop s w := by
  cases w with
  | nil => trivial
  | cons t w =>
    have h : zrank t < r := h
    have h := i32_lt.mp h
    exact i32_lt.mpr (by omega)
theorem yun_yun {r s : Int32} (hs : r.toInt ≤ s.toInt) : ∀ (w u : List Int32), yun r (yun s w u).2 (yun s w u).1 = yun r w u
  | [], u => rfl
  | t :: w, u => by
    by_cases c : zrank t < s
    · have e : yun s (t :: w) u = (u, t :: w) := if_pos c
      rw [e]
    · have e : yun s (t :: w) u = yun s w (u ++ [-t]) := if_neg c
      have c2 : ¬ zrank t < r := fun z => c (i32_lt.mpr (by
        have := i32_lt.mp z
        omega))
      rw [e, yun_yun hs w (u ++ [-t]), yun_cons c2]
/-- two states alike for all that unwinds down to a rank no higher -/
def yEq (ρ : Int32) (W U w u : List Int32) : Prop := ∀ r : Int32, r.toInt ≤ ρ.toInt → yun r W U = yun r w u
theorem yEq_rfl {ρ : Int32} {w u : List Int32} : yEq ρ w u w u := fun _ _ => rfl
theorem yEq_tr {ρ : Int32} {a b c d e f : List Int32} (h : yEq ρ a b c d) (g : yEq ρ c d e f) : yEq ρ a b e f := fun r hr => (h r hr).trans (g r hr)
theorem yEq_le {ρ σ : Int32} {a b c d : List Int32} (h : yEq ρ a b c d) (hs : σ.toInt ≤ ρ.toInt) : yEq σ a b c d := fun r hr => h r (by omega)
/-- an operator that waits on top of w is written down once something no tighter comes -/
theorem yEq_op {σ t : Int32} {w u : List Int32} (h : σ.toInt ≤ (zrank t).toInt) : yEq σ (t :: w) u w (u ++ [-t]) := fun r hr => yun_cons (fun z => by
  have := i32_lt.mp z
  omega)
/-- what an operator finds -/
theorem yEq_top {ρ r : Int32} {W U w u : List Int32} (h : yEq ρ W U w u) (hr : r.toInt ≤ ρ.toInt) (ht : ytop r w) : yun r W U = (u, w) := (h r hr).trans (yun_top u ht)
/-- the same steps on a higher pile -/
theorem zrp_off {lim : Nat} (k : Nat) : ∀ (l : List Int32) (h h' : Nat), zrp lim h l h' → zrp (lim + k) (h + k) l (h' + k)
  | [], h, h', q => by
    have q : h = h' := q
    rw [q]
    rfl
  | w :: l, h, h', q => by
    rcases q with ⟨c, d, e⟩ | ⟨c, d, e⟩ | ⟨c, d, e⟩
    · have ih := zrp_off k l (h + 1) h' e
      rw [show h + 1 + k = h + k + 1 by omega] at ih
      exact Or.inl ⟨c, by omega, ih⟩
    · exact Or.inr (Or.inl ⟨c, by omega, zrp_off k l h h' e⟩)
    · have ih := zrp_off k l (h - 1) h' e
      rw [show h - 1 + k = h + k - 1 by omega] at ih
      exact Or.inr (Or.inr ⟨c, by omega, ih⟩)
/-- one step that pushes, one that turns, one that joins -/
theorem zrp_push {w : Int32} (h : zkd9 w = 0 ∨ zkd9 w = 1) : zrp 1 0 [w] 1 := Or.inl ⟨h, by decide, rfl⟩
theorem zrp_not {lim : Nat} {l : List Int32} {w : Int32} (h : zkd9 w = 2) (q : zrp lim 0 l 1) : zrp lim 0 (l ++ [w]) 1 := zrp_app q (Or.inr (Or.inl ⟨h, Nat.le_refl _, rfl⟩))
theorem zrp_two {lim : Nat} {l r : List Int32} {w : Int32} (h : zkd9 w = 3) (q : zrp lim 0 l 1) (g : zrp lim 0 r 1) : zrp (lim + 1) 0 (l ++ r ++ [w]) 1 := by
  have g2 := zrp_off 1 r 0 1 g
  rw [Nat.zero_add] at g2
  exact zrp_app (zrp_app (zrp_mono (Nat.le_succ lim) q) g2) (Or.inr (Or.inr ⟨h, Nat.le_refl _, rfl⟩))
theorem zmcs_app : ∀ (a b : List Int32), zmcs (a ++ b) = zmcs a ++ zmcs b
  | [], _ => rfl
  | w :: a, b => by
    show zmc w ++ zmcs (a ++ b) = zmc w ++ zmcs a ++ zmcs b
    rw [zmcs_app a b, List.append_assoc]
