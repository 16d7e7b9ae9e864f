/-! THE PURE PART: the roads' tables as both sides make them. -/
theorem zgo_q (xs : Nat → Int32) (L d m b : Nat) (lo : LV) (h : AH) : zgo xs L d m b lo h = zth xs L d m (zseg (zE xs L d m) (zC m) 700 (zC m b) lo [] h) := zgo_eq xs L d m b lo h
theorem zcS {xs : Nat → Int32} {L d m : Nat} {as : List Value} {lo : LV} {h : AH} {o : Option Out} (hS : zseg (zE xs L d m) (zC m) 700 (zC m 0) lo [] h = o) (hlo : lv_args 0 as = lo := by rfl) (hl : (as.map fun (v : Value) => v.category).sum ≤ zML m := by exact Nat.le_of_ble_eq_true rfl) : zev xs L (d + 1) m as h = zth xs L d m o := by
  rw [zev_eq xs L d m as h hl, hlo, ← hS]
  rfl
theorem le24 : (24 : Int32) ≤ Int32.ofNat 24 := (nat_le (a := 24) (b := 24) (by omega) (by omega)).mpr (Nat.le_refl _)
theorem idx24 (a b : Nat) : Int32.ofNat a * (24 : Int32) + Int32.ofNat b = Int32.ofNat (24 * a + b) := by
  show Int32.ofNat a * Int32.ofNat 24 + Int32.ofNat b = _
  rw [nat_mul, nat_add, Nat.mul_comm]
theorem idx24b (a b : Nat) : (24 : Int32) * Int32.ofNat a + Int32.ofNat b = Int32.ofNat (24 * a + b) := by
  show Int32.ofNat 24 * Int32.ofNat a + Int32.ofNat b = _
  rw [nat_mul, nat_add]
/-- the costs with one edge more, as cells -/
def zshN (f : Nat → Int32) (p q : Nat) (w : Int32) : Nat → Int32 := fun k => zmn ((f (24 * (k / 24) + p) + w) + f (24 * q + k % 24)) (f k)
theorem zshN_int {f : Nat → Int32} {p q : Nat} {w : Int32} (hp : p < 24) (hq : q < 24) (hw : 0 < w.toInt ∧ w.toInt ≤ 63937) (hT : ∀ c, c < 576 → 0 ≤ (f c).toInt ∧ (f c).toInt ≤ 1000000000) {a b : Nat} (ha : a < 24) (hb : b < 24) : (zshN f p q w (24 * a + b)).toInt = min (f (24 * a + b)).toInt ((f (24 * a + p)).toInt + w.toInt + (f (24 * q + b)).toInt) := by
  unfold zshN
  rw [show (24 * a + b) / 24 = a by omega, show (24 * a + b) % 24 = b by omega, zmn_int]
  have h1 := hT (24 * a + p) (by omega)
  have h2 := hT (24 * q + b) (by omega)
  have e1 : (f (24 * a + p) + w).toInt = (f (24 * a + p)).toInt + w.toInt := i32_add (by omega) (by omega)
  have e2 : (f (24 * a + p) + w + f (24 * q + b)).toInt = (f (24 * a + p)).toInt + w.toInt + (f (24 * q + b)).toInt := by
    rw [i32_add (by omega) (by omega), e1]
  rw [e2]
  omega
theorem zshN_q {f : Nat → Int32} {p q : Nat} {w : Int32} (hp : p < 24) (hq : q < 24) (hw : 0 < w.toInt ∧ w.toInt ≤ 63937) (hT : ∀ c, c < 576 → 0 ≤ (f c).toInt ∧ (f c).toInt ≤ 1000000000) {b : Nat} (hb : b < 24) : zshN f p q w (24 * q + b) = f (24 * q + b) := by
  apply i32_eq.mpr
  rw [zshN_int hp hq hw hT hq hb]
  have h1 := hT (24 * q + p) (by omega)
  omega
theorem shorten_in (xs : Nat → Int32) (L d : Nat) (I : Nat → Nat → Int32) (J : Nat → Nat → Int64) (X : XH) (f : Nat → Int32) (p q : Nat) (w : Int32) (hp : p < 24) (hq : q < 24) (hw : 0 < w.toInt ∧ w.toInt ≤ 63937) (hT : ∀ c, c < 576 → 0 ≤ (f c).toInt ∧ (f c).toInt ≤ 1000000000) (a : Nat) (ha : a < 24) : ∀ (k b : Nat), b + k = 24 → zgo xs L (d + 5) 31 5 [(0, .ref 1), (1, .int (Int32.ofNat p)), (2, .int (Int32.ofNat q)), (3, .int w), (4, .int (Int32.ofNat a)), (5, .int (f (24 * a + p) + w)), (6, .int (Int32.ofNat b))] (zmk (zov I 8 (zpre (zshN f p q w) f (24 * a + b))) J X) = zgo xs L (d + 5) 31 2 [(0, .ref 1), (1, .int (Int32.ofNat p)), (2, .int (Int32.ofNat q)), (3, .int w), (4, .int (Int32.ofNat (a + 1)))] (zmk (zov I 8 (zpre (zshN f p q w) f (24 * (a + 1)))) J X)
  | 0, b, hb => by
    have hb : b = 24 := by omega
    subst hb
    rw [zgo_q, S31_5, if_pos (decide_eq_true le24), zth_go, nat_succ]
    rfl
  | k + 1, b, hb => by
    have hv : zmn ((f (24 * a + p) + w) + zpre (zshN f p q w) f (24 * a + b) (24 * q + b)) (zpre (zshN f p q w) f (24 * a + b) (24 * a + b)) = zshN f p q w (24 * a + b) := by
      have h1 : zpre (zshN f p q w) f (24 * a + b) (24 * q + b) = f (24 * q + b) := by
        by_cases c : 24 * q + b < 24 * a + b
        · rw [zpre_lt c, zshN_q hp hq hw hT (by omega)]
        · rw [zpre_ge (by omega)]
      rw [h1, zpre_ge (Nat.le_refl _)]
      unfold zshN
      rw [show (24 * a + b) / 24 = a by omega, show (24 * a + b) % 24 = b by omega]
    rw [zgo_q, S31_5, if_neg (fun z => by
      have := (nat_le (a := 24) (b := b) (by omega) (by omega)).mp (of_decide_eq_true z)
      omega), zth_go, nat_succ, idx24, idx24, zat_nat (by omega) (by omega), zat_nat (by omega) (by omega), zov_at, zput_nat (by omega) (by omega), zup_zov, hv, zpre_succ]
    exact shorten_in xs L d I J X f p q w hp hq hw hT a ha k (b + 1) (by omega)
theorem shorten_out (xs : Nat → Int32) (L d : Nat) (I : Nat → Nat → Int32) (J : Nat → Nat → Int64) (X : XH) (f : Nat → Int32) (p q : Nat) (w : Int32) (hp : p < 24) (hq : q < 24) (hw : 0 < w.toInt ∧ w.toInt ≤ 63937) (hT : ∀ c, c < 576 → 0 ≤ (f c).toInt ∧ (f c).toInt ≤ 1000000000) : ∀ (k a : Nat), a + k = 24 → zgo xs L (d + 5) 31 2 [(0, .ref 1), (1, .int (Int32.ofNat p)), (2, .int (Int32.ofNat q)), (3, .int w), (4, .int (Int32.ofNat a))] (zmk (zov I 8 (zpre (zshN f p q w) f (24 * a))) J X) = some (.inr none, zmk (zov I 8 (zpre (zshN f p q w) f 576)) J X)
  | 0, a, ha => by
    have ha : a = 24 := by omega
    subst ha
    rw [zgo_q, S31_2, if_pos (decide_eq_true le24)]
    rfl
  | k + 1, a, ha => by
    rw [zgo_q, S31_2, if_neg (fun z => by
      have := (nat_le (a := 24) (b := a) (by omega) (by omega)).mp (of_decide_eq_true z)
      omega), zth_go, idx24, zat_nat (by omega) (by omega), zov_at, zpre_ge (by omega)]
    exact (shorten_in xs L d I J X f p q w hp hq hw hT a (by omega) 24 0 (by omega)).trans (shorten_out xs L d I J X f p q w hp hq hw hT k (a + 1) (by omega))
theorem shorten_eq (xs : Nat → Int32) (L d : Nat) (I : Nat → Nat → Int32) (J : Nat → Nat → Int64) (X : XH) (p q : Nat) (w : Int32) (hp : p < 24) (hq : q < 24) (hw : 0 < w.toInt ∧ w.toInt ≤ 63937) (hT : ∀ c, c < 576 → 0 ≤ (I 8 c).toInt ∧ (I 8 c).toInt ≤ 1000000000) : zev xs L (d + 6) 31 [.ref 1, .int (Int32.ofNat p), .int (Int32.ofNat q), .int w] (zmk I J X) = some (.inr none, zmk (zov I 8 (zpre (zshN (I 8) p q w) (I 8) 576)) J X) := by
  refine (zcS (S31_0 xs L d I J X _ _ _)).trans ?_
  rw [zth_go]
  have := shorten_out xs L d I J X (I 8) p q w hp hq hw hT 24 0 (by omega)
  rw [show (24 * 0 : Nat) = 0 from rfl, zpre_0, zov_self] at this
  exact this
/-- the first number below n, from i on, of which p holds; -1: none -/
def zfst (p : Nat → Bool) : Nat → Nat → Int32
  | 0, _ => -1
  | k + 1, i => if p i = true then Int32.ofNat i else zfst p k (i + 1)
theorem zfst_congr {p q : Nat → Bool} : ∀ (k i : Nat), (∀ r, i ≤ r → r < i + k → p r = q r) → zfst p k i = zfst q k i
  | 0, _, _ => rfl
  | k + 1, i, h => by
    unfold zfst
    rw [h i (by omega) (by omega), zfst_congr k (i + 1) (fun r h1 h2 => h r (by omega) (by omega))]
theorem zfst_none {p : Nat → Bool} : ∀ (k i : Nat), (∀ r, i ≤ r → r < i + k → p r = false) → zfst p k i = -1
  | 0, _, _ => rfl
  | k + 1, i, h => by
    unfold zfst
    rw [h i (by omega) (by omega), zfst_none k (i + 1) (fun r h1 h2 => h r (by omega) (by omega))]
    rfl
theorem zfst_some {p : Nat → Bool} : ∀ (k i : Nat), (∃ r, i ≤ r ∧ r < i + k ∧ p r = true) → ∃ r, i ≤ r ∧ r < i + k ∧ p r = true ∧ zfst p k i = Int32.ofNat r
  | 0, i, h => by
    obtain ⟨r, h1, h2, _⟩ := h
    omega
  | k + 1, i, h => by
    obtain ⟨r, h1, h2, h3⟩ := h
    unfold zfst
    by_cases c : p i = true
    · exact ⟨i, by omega, by omega, c, if_pos c⟩
    · rw [if_neg c]
      have hne : r ≠ i := fun e => c (e ▸ h3)
      obtain ⟨s, g1, g2, g3, g4⟩ := zfst_some k (i + 1) ⟨r, by omega, by omega, h3⟩
      exact ⟨s, by omega, by omega, g3, g4⟩
/-- the class's first road from a towards b -/
def zfrC (I : Nat → Nat → Int32) (a b : Nat) (r : Nat) : Bool := decide (I 2 r = Int32.ofNat a ∧ I 7 r + I 8 (24 * nv (I 3 r) + b) = I 8 (24 * a + b))
theorem firstRoad_loop (xs : Nat → Int32) (L d : Nat) (I : Nat → Nat → Int32) (J : Nat → Nat → Int64) (X : XH) (n a b : Nat) (hn : I 1 1 = Int32.ofNat n) (hn2 : n ≤ 40) (ha : a < 24) (hb : b < 24) (hto : ∀ r, r < n → 0 ≤ (I 3 r).toInt ∧ (I 3 r).toInt ≤ 23) (hF : ¬ (1000000000 : Int32) ≤ I 8 (24 * a + b)) : ∀ (k i : Nat), i + k = n → zgo xs L (d + 5) 34 2 [(0, .ref 1), (1, .int (Int32.ofNat a)), (2, .int (Int32.ofNat b)), (3, .int (I 8 (24 * a + b))), (4, .int (Int32.ofNat i))] (zmk I J X) = some (.inr (some (.int (zfst (zfrC I a b) k i))), zmk I J X)
  | 0, i, hi => by
    have hi : i = n := by omega
    subst hi
    rw [zgo_q, S34_2, hn, if_pos (decide_eq_true ((nat_le (by omega) (by omega)).mpr (Nat.le_refl _)))]
    rfl
  | k + 1, i, hi => by
    have ih := firstRoad_loop xs L d I J X n a b hn hn2 ha hb hto hF k (i + 1) (by omega)
    have h3 := hto i (by omega)
    have e3 : zat I 3 40 (Int32.ofNat i) = Int32.ofNat (nv (I 3 i)) := by rw [zat_nat (by omega) (by omega), nv_of h3.1]
    have h4 := nv_int h3.1
    rw [zgo_q, S34_2, hn, if_neg (fun z => by
      have := (nat_le (by omega) (by omega)).mp (of_decide_eq_true z)
      omega), if_neg (fun z => hF (of_decide_eq_true z)), e3, idx24, zat_nat (by omega) (by omega), zat_nat (by omega) (by omega), zat_nat (by omega) (by omega), nat_succ]
    by_cases c1 : I 2 i = Int32.ofNat a
    · rw [if_neg (fun z => (of_decide_eq_true z) c1)]
      by_cases c2 : I 7 i + I 8 (24 * nv (I 3 i) + b) = I 8 (24 * a + b)
      · rw [if_neg (fun z => (of_decide_eq_true z) c2)]
        unfold zfst
        rw [if_pos (show zfrC I a b i = true from decide_eq_true ⟨c1, c2⟩)]
        rfl
      · rw [if_pos (decide_eq_true c2), zth_go, ih]
        conv => rhs; unfold zfst
        rw [if_neg (fun z => c2 (of_decide_eq_true (show decide _ = true from z)).2)]
    · rw [if_pos (decide_eq_true c1), zth_go, ih]
      conv => rhs; unfold zfst
      rw [if_neg (fun z => c1 (of_decide_eq_true (show decide _ = true from z)).1)]
theorem firstRoad_eq (xs : Nat → Int32) (L d : Nat) (I : Nat → Nat → Int32) (J : Nat → Nat → Int64) (X : XH) (n a b : Nat) (hn : I 1 1 = Int32.ofNat n) (hn2 : n ≤ 40) (ha : a < 24) (hb : b < 24) (hto : ∀ r, r < n → 0 ≤ (I 3 r).toInt ∧ (I 3 r).toInt ≤ 23) : zev xs L (d + 6) 34 [.ref 1, .int (Int32.ofNat a), .int (Int32.ofNat b)] (zmk I J X) = some (.inr (some (.int (if (1000000000 : Int32) ≤ I 8 (24 * a + b) then -1 else zfst (zfrC I a b) n 0))), zmk I J X) := by
  refine (zcS (S34_0 xs L d I J X _ _)).trans ?_
  rw [zth_go, idx24, zat_nat (by omega) (by omega)]
  by_cases hF : (1000000000 : Int32) ≤ I 8 (24 * a + b)
  · rw [if_pos hF, zgo_q, S34_2, hn]
    by_cases c : Int32.ofNat n ≤ (0 : Int32)
    · rw [if_pos (decide_eq_true c)]
      rfl
    · rw [if_neg (fun z => c (of_decide_eq_true z)), if_pos (decide_eq_true hF)]
      rfl
  · rw [if_neg hF]
    exact firstRoad_loop xs L d I J X n a b hn hn2 ha hb hto hF n 0 (by omega)
/-- the model's next road -/
def znrM (I : Nat → Nat → Int32) (a b : Nat) (r : Nat) : Bool := decide (I 73 r = 0 ∧ I 63 r = Int32.ofNat a ∧ I 110 (24 * a + b) = ((64 : Int32) * I 66 r + 1) + I 110 (24 * nv (I 64 r) + b))
theorem nextRoad_loop (xs : Nat → Int32) (L d : Nat) (I : Nat → Nat → Int32) (J : Nat → Nat → Int64) (X : XH) (n a b : Nat) (hn : I 61 4 = Int32.ofNat n) (hn2 : n ≤ 40) (ha : a < 24) (hb : b < 24) (hto : ∀ r, r < n → 0 ≤ (I 64 r).toInt ∧ (I 64 r).toInt ≤ 23) : ∀ (k i : Nat), i + k = n → zgo xs L (d + 5) 191 2 [(0, .ref 61), (1, .int (Int32.ofNat a)), (2, .int (Int32.ofNat b)), (3, .int (Int32.ofNat i))] (zmk I J X) = some (.inr (some (.int (zfst (znrM I a b) k i))), zmk I J X)
  | 0, i, hi => by
    have hi : i = n := by omega
    subst hi
    rw [zgo_q, S191_2, hn, if_pos (decide_eq_true ((nat_le (by omega) (by omega)).mpr (Nat.le_refl _)))]
    rfl
  | k + 1, i, hi => by
    have ih := nextRoad_loop xs L d I J X n a b hn hn2 ha hb hto k (i + 1) (by omega)
    have h3 := hto i (by omega)
    have e3 : I 64 (Int32.ofNat i).toNatClampNeg = Int32.ofNat (nv (I 64 i)) := by rw [i32_clamp (by omega), nv_of h3.1]
    have h4 := nv_int h3.1
    rw [zgo_q, S191_2, hn, if_neg (fun z => by
      have := (nat_le (by omega) (by omega)).mp (of_decide_eq_true z)
      omega), if_pos (zix_nat rfl (by omega) (by omega)), if_pos (zix_nat rfl (by omega) (by omega)), if_pos (zix_nat rfl (by omega) (by omega)), if_pos (zix_nat rfl (by omega) (by omega)), e3, idx24b, idx24b, if_pos (zix_nat rfl (by omega) (by omega)), if_pos (zix_nat rfl (by omega) (by omega)), nat_succ]
    rw [i32_clamp (n := i) (by omega), i32_clamp (n := 24 * a + b) (by omega), i32_clamp (n := 24 * nv (I 64 i) + b) (by omega)]
    by_cases c0 : I 73 i = 0
    · rw [if_neg (fun z => (of_decide_eq_true z) c0)]
      by_cases c1 : I 63 i = Int32.ofNat a
      · rw [if_pos (decide_eq_true c1)]
        by_cases c2 : I 110 (24 * a + b) = ((64 : Int32) * I 66 i + 1) + I 110 (24 * nv (I 64 i) + b)
        · rw [if_neg (fun z => (of_decide_eq_true z) c2)]
          unfold zfst
          rw [if_pos (show znrM I a b i = true from decide_eq_true ⟨c0, c1, c2⟩)]
          rfl
        · rw [if_pos (decide_eq_true c2), zth_go, ih]
          conv => rhs; unfold zfst
          rw [if_neg (fun z => c2 (of_decide_eq_true (show decide _ = true from z)).2.2)]
      · rw [if_neg (fun z => c1 (of_decide_eq_true z)), zth_go, ih]
        conv => rhs; unfold zfst
        rw [if_neg (fun z => c1 (of_decide_eq_true (show decide _ = true from z)).2.1)]
    · rw [if_pos (decide_eq_true c0), zth_go, ih]
      conv => rhs; unfold zfst
      rw [if_neg (fun z => c0 (of_decide_eq_true (show decide _ = true from z)).1)]
theorem nextRoad_eq (xs : Nat → Int32) (L d : Nat) (I : Nat → Nat → Int32) (J : Nat → Nat → Int64) (X : XH) (n a b : Nat) (hn : I 61 4 = Int32.ofNat n) (hn2 : n ≤ 40) (ha : a < 24) (hb : b < 24) (hto : ∀ r, r < n → 0 ≤ (I 64 r).toInt ∧ (I 64 r).toInt ≤ 23) : zev xs L (d + 6) 191 [.ref 61, .int (Int32.ofNat a), .int (Int32.ofNat b)] (zmk I J X) = some (.inr (some (.int (zfst (znrM I a b) n 0))), zmk I J X) := by
  refine (zcS (S191_0 xs L d I J X _ _)).trans ?_
  rw [zth_go]
  exact nextRoad_loop xs L d I J X n a b hn hn2 ha hb hto n 0 (by omega)
