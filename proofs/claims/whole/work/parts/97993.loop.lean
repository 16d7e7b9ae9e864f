/-! THE PURE PART: the law's loop. -/
theorem yloop (xs : Nat → Int32) (L : Nat) (hL : L ≤ 3584) : ∀ (k p : Nat) (I : Nat → Nat → Int32) (J : Nat → Nat → Int64) (X : XH) (C : Nat → List (Bool × List Int32)), p ≤ 3584 → L < p + 7 + 7 * k → PALL I J X C → ∃ h', zgo xs L 60 239 2 (yLO p) (zmk I J X) = some (.inr (some (.int 1)), h') ∧ hc h' ≤ X.2.2.2.1 + 2 * k ∧ hs h' ≤ X.2.2.2.2 + 410 * k
  | 0, p, I, J, X, C, hp, hk, _ => by
    have H := law_2 xs L 60 p (zmk I J X) hL (by omega)
    rw [if_pos (by omega)] at H
    exact ⟨_, H, Nat.le_refl _, Nat.le_refl _⟩
  | k + 1, p, I, J, X, C, hp, hk, q => by
    by_cases c : L < p + 7
    · have H := law_2 xs L 60 p (zmk I J X) hL (by omega)
      rw [if_pos c] at H
      exact ⟨_, H, (show X.2.2.2.1 ≤ X.2.2.2.1 + 2 * (k + 1) by omega), (show X.2.2.2.2 ≤ X.2.2.2.2 + 410 * (k + 1) by omega)⟩
    · obtain ⟨I2, J2, X2, C2, e, q2, r1, r2⟩ := st_all xs L p (by omega) hL I J X q
      obtain ⟨h', e2, b1, b2⟩ := yloop xs L hL k (p + 7) I2 J2 X2 C2 (by omega) (by omega) q2
      exact ⟨h', e.trans e2, by omega, by omega⟩
