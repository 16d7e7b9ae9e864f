/-! THE CORE MACHINE of the claim. -/
/-- the core machine: method m on arguments, at most d calls deep -/
noncomputable def zev (xs : Nat → Int32) (L : Nat) : Nat → Cal
  | 0, _, _, _ => none
  | d + 1, m, as, h => if (as.map fun v => v.category).sum ≤ zML m then zlim (zev xs L d, zH m, xs, L) (zC m) 0 (lv_args 0 as) h else none
