/-! THE PURE PART: the model's table of least ways. -/
/-- roads as they must be -/
def zRds (I : Nat → Nat → Int32) (n : Nat) : Prop := n ≤ 40 ∧ ∀ r, r < n → (0 ≤ (I 63 r).toInt ∧ (I 63 r).toInt ≤ 23) ∧ (0 ≤ (I 64 r).toInt ∧ (I 64 r).toInt ≤ 23) ∧ (1 ≤ (I 66 r).toInt ∧ (I 66 r).toInt ≤ 999)
/-- the edges: the roads without a gantry -/
def zed (I : Nat → Nat → Int32) (n : Nat) : Nat → Nat → Int → Prop := fun a b w => ∃ r, r < n ∧ I 73 r = 0 ∧ nv (I 63 r) = a ∧ nv (I 64 r) = b ∧ w = 64 * (I 66 r).toInt + 1
theorem zed_Ed {I : Nat → Nat → Int32} {n : Nat} (h : zRds I n) : zEd (zed I n) := by
  intro a b w e
  obtain ⟨r, h1, _, h3, h4, h5⟩ := e
  have k := h.2 r h1
  have e1 := nv_int k.1.1
  have e2 := nv_int k.2.1.1
  exact ⟨by omega, by omega, by omega, by omega⟩
theorem zkm_int {x : Int32} (h : 1 ≤ x.toInt ∧ x.toInt ≤ 999) : ((64 : Int32) * x + 1).toInt = 64 * x.toInt + 1 := by
  have e : (64 : Int32).toInt = 64 := by decide
  have e1 : ((64 : Int32) * x).toInt = 64 * x.toInt := by
    rw [i32_mul (by rw [e]; omega) (by rw [e]; omega), e]
  rw [i32_add (by rw [e1, i32_1]; omega) (by rw [e1, i32_1]; omega), e1, i32_1]
def tb (f : Nat → Int32) : Nat → Nat → Int := fun a b => (f (24 * a + b)).toInt
def zf0 : Nat → Int32 := fun k => if k / 24 = k % 24 then 0 else 268435456
theorem zF2 : (268435456 : Int32).toInt = 268435456 := by decide
theorem far_a (xs : Nat → Int32) (L d : Nat) (I : Nat → Nat → Int32) (J : Nat → Nat → Int64) (X : XH) (g : Nat → Int32) (a : Nat) (ha : a < 24) : ∀ (k b : Nat), b + k = 24 → zgo xs L (d + 5) 188 6 [(0, .ref 61), (1, .int (Int32.ofNat a)), (2, .int (Int32.ofNat b))] (zmk (zov I 110 (zpre zf0 g (24 * a + b))) J X) = zgo xs L (d + 5) 188 2 [(0, .ref 61), (1, .int (Int32.ofNat (a + 1)))] (zmk (zov I 110 (zpre zf0 g (24 * (a + 1)))) J X)
  | 0, b, hb => by
    have hb : b = 24 := by omega
    subst hb
    rw [zgo_q, S188_6, if_pos (decide_eq_true le24), zth_go, nat_succ]
    rfl
  | k + 1, b, hb => by
    have ih := far_a xs L d I J X g a ha k (b + 1) (by omega)
    have z : zix 0 576 0 (Int32.ofNat (24 * a + b)) := zix_nat rfl (by omega) (by omega)
    rw [zgo_q, S188_6, if_neg (fun z => by
      have := (nat_le (a := 24) (b := b) (by omega) (by omega)).mp (of_decide_eq_true z)
      omega), idx24b, if_pos z, if_pos z, i32_clamp (by omega), nat_succ, zup_zov, zup_zov]
    by_cases c : a = b
    · rw [if_neg (fun z => (of_decide_eq_true z) (by rw [c])), zth_go]
      have hv : (0 : Int32) = zf0 (24 * a + b) := by
        unfold zf0
        rw [if_pos (by omega)]
      rw [hv, zpre_succ]
      exact ih
    · rw [if_pos (decide_eq_true (show ¬ Int32.ofNat a = Int32.ofNat b from fun z => c ((nat_eq (by omega) (by omega)).mp z))), zth_go]
      have hv : (268435456 : Int32) = zf0 (24 * a + b) := by
        unfold zf0
        rw [if_neg (by omega)]
      rw [hv, zpre_succ]
      exact ih
theorem far_b (xs : Nat → Int32) (L d : Nat) (I : Nat → Nat → Int32) (J : Nat → Nat → Int64) (X : XH) (g : Nat → Int32) : ∀ (k a : Nat), a + k = 24 → zgo xs L (d + 5) 188 2 [(0, .ref 61), (1, .int (Int32.ofNat a))] (zmk (zov I 110 (zpre zf0 g (24 * a))) J X) = zgo xs L (d + 5) 188 7 [(0, .ref 61), (1, .int (Int32.ofNat 0))] (zmk (zov I 110 (zpre zf0 g 576)) J X)
  | 0, a, ha => by
    have ha : a = 24 := by omega
    subst ha
    rw [zgo_q, S188_2, if_pos (decide_eq_true le24)]
    rfl
  | k + 1, a, ha => by
    rw [zgo_q, S188_2, if_neg (fun z => by
      have := (nat_le (a := 24) (b := a) (by omega) (by omega)).mp (of_decide_eq_true z)
      omega), zth_go]
    exact (far_a xs L d I J X g a (by omega) 24 0 (by omega)).trans (far_b xs L d I J X g k (a + 1) (by omega))
/-- the table with the first k roads -/
def zfr (I : Nat → Nat → Int32) (f : Nat → Int32) : Nat → Nat → Int32
  | 0 => f
  | k + 1 => if I 73 k = 0 then zset (zfr I f k) (24 * nv (I 63 k) + nv (I 64 k)) (zmn (zfr I f k (24 * nv (I 63 k) + nv (I 64 k))) ((64 : Int32) * I 66 k + 1)) else zfr I f k
theorem far_c (xs : Nat → Int32) (L d : Nat) (I : Nat → Nat → Int32) (J : Nat → Nat → Int64) (X : XH) (f : Nat → Int32) (n : Nat) (hn : I 61 4 = Int32.ofNat n) (hR : zRds I n) : ∀ (k i : Nat), i + k = n → zgo xs L (d + 5) 188 7 [(0, .ref 61), (1, .int (Int32.ofNat i))] (zmk (zov I 110 (zfr I f i)) J X) = zgo xs L (d + 5) 188 14 [(0, .ref 61), (1, .int (Int32.ofNat 0))] (zmk (zov I 110 (zfr I f n)) J X)
  | 0, i, hi => by
    have hi : i = n := by omega
    subst hi
    have h0 := hR.1
    rw [zgo_q, S188_7, zov_ne (show 61 ≠ 110 by decide), hn, if_pos (decide_eq_true ((nat_le (by omega) (by omega)).mpr (Nat.le_refl _)))]
    rfl
  | k + 1, i, hi => by
    have ih := far_c xs L d I J X f n hn hR k (i + 1) (by omega)
    have h0 := hR.1
    have h1 := hR.2 i (by omega)
    have n1 := nv_int h1.1.1
    have n2 := nv_int h1.2.1.1
    have zi : zix 0 40 0 (Int32.ofNat i) := zix_nat rfl (by omega) (by omega)
    have zj : zix 1 40 1 (Int32.ofNat i) := zix_nat rfl (by omega) (by omega)
    rw [zgo_q, S188_7]
    rw [zov_ne (show 61 ≠ 110 by decide), zov_ne (show 73 ≠ 110 by decide), zov_ne (show 63 ≠ 110 by decide), zov_ne (show 64 ≠ 110 by decide), zov_ne (show 66 ≠ 110 by decide), zov_at]
    rw [hn, if_neg (fun z => by
      have := (nat_le (by omega) (by omega)).mp (of_decide_eq_true z)
      omega), if_pos zi, if_pos zi, if_pos zj, nat_succ]
    have e63 : I 63 (Int32.ofNat i).toNatClampNeg = Int32.ofNat (nv (I 63 i)) := by rw [i32_clamp (by omega), nv_of h1.1.1]
    have e64 : I 64 (Int32.ofNat i).toNatClampNeg = Int32.ofNat (nv (I 64 i)) := by rw [i32_clamp (by omega), nv_of h1.2.1.1]
    have e73 : I 73 (Int32.ofNat i).toNatClampNeg = I 73 i := by rw [i32_clamp (by omega)]
    have e66 : I 66 (Int32.ofNat i).toNatClampNeg = I 66 i := by rw [i32_clamp (by omega)]
    rw [e63, e64, e73, e66, idx24b]
    have zk : zix 0 576 0 (Int32.ofNat (24 * nv (I 63 i) + nv (I 64 i))) := zix_nat rfl (by omega) (by omega)
    by_cases c : I 73 i = 0
    · rw [if_neg (fun z => (of_decide_eq_true z) c), if_pos zk, if_pos zi, if_pos zk, zth_go, i32_clamp (n := 24 * nv (I 63 i) + nv (I 64 i)) (by omega), zup_zov]
      have e : zfr I f (i + 1) = zset (zfr I f i) (24 * nv (I 63 i) + nv (I 64 i)) (zmn (zfr I f i (24 * nv (I 63 i) + nv (I 64 i))) ((64 : Int32) * I 66 i + 1)) := if_pos c
      rw [e] at ih
      exact ih
    · rw [if_pos (decide_eq_true c), zth_go]
      have e : zfr I f (i + 1) = zfr I f i := if_neg c
      rw [e] at ih
      exact ih
/-- what must hold of the table in all phases -/
def zHf (f : Nat → Int32) : Prop := (∀ c, c < 576 → 0 ≤ (f c).toInt ∧ (f c).toInt ≤ 268435456) ∧ ∀ m, m < 24 → (f (24 * m + m)).toInt = 0
def zfwN (f : Nat → Int32) (m : Nat) : Nat → Int32 := fun k => zmn (f k) (f (24 * (k / 24) + m) + f (24 * m + k % 24))
theorem zfwN_int {f : Nat → Int32} (hf : zHf f) {m a b : Nat} (hm : m < 24) (ha : a < 24) (hb : b < 24) : (zfwN f m (24 * a + b)).toInt = min (f (24 * a + b)).toInt ((f (24 * a + m)).toInt + (f (24 * m + b)).toInt) := by
  unfold zfwN
  have h1 := hf.1 (24 * a + m) (by omega)
  have h2 := hf.1 (24 * m + b) (by omega)
  rw [show (24 * a + b) / 24 = a by omega, show (24 * a + b) % 24 = b by omega, zmn_int, i32_add (by omega) (by omega)]
theorem zfwN_r {f : Nat → Int32} (hf : zHf f) {m a : Nat} (hm : m < 24) (ha : a < 24) : zfwN f m (24 * a + m) = f (24 * a + m) := by
  apply i32_eq.mpr
  rw [zfwN_int hf hm ha hm, hf.2 m hm]
  omega
theorem zfwN_c {f : Nat → Int32} (hf : zHf f) {m b : Nat} (hm : m < 24) (hb : b < 24) : zfwN f m (24 * m + b) = f (24 * m + b) := by
  apply i32_eq.mpr
  rw [zfwN_int hf hm hm hb, hf.2 m hm]
  omega
theorem far_d (xs : Nat → Int32) (L d : Nat) (I : Nat → Nat → Int32) (J : Nat → Nat → Int64) (X : XH) (f : Nat → Int32) (hf : zHf f) (m a : Nat) (hm : m < 24) (ha : a < 24) : ∀ (k b : Nat), b + k = 24 → zgo xs L (d + 5) 188 20 [(0, .ref 61), (1, .int (Int32.ofNat m)), (2, .int (Int32.ofNat a)), (3, .int (Int32.ofNat b))] (zmk (zov I 110 (zpre (zfwN f m) f (24 * a + b))) J X) = zgo xs L (d + 5) 188 17 [(0, .ref 61), (1, .int (Int32.ofNat m)), (2, .int (Int32.ofNat (a + 1)))] (zmk (zov I 110 (zpre (zfwN f m) f (24 * (a + 1)))) J X)
  | 0, b, hb => by
    have hb : b = 24 := by omega
    subst hb
    rw [zgo_q, S188_20, if_pos (decide_eq_true le24), zth_go, nat_succ]
    rfl
  | k + 1, b, hb => by
    have ih := far_d xs L d I J X f hf m a hm ha k (b + 1) (by omega)
    have hv : zmn (zpre (zfwN f m) f (24 * a + b) (24 * a + b)) (zpre (zfwN f m) f (24 * a + b) (24 * a + m) + zpre (zfwN f m) f (24 * a + b) (24 * m + b)) = zfwN f m (24 * a + b) := by
      have h1 : zpre (zfwN f m) f (24 * a + b) (24 * a + m) = f (24 * a + m) := by
        by_cases c : 24 * a + m < 24 * a + b
        · rw [zpre_lt c, zfwN_r hf hm ha]
        · rw [zpre_ge (by omega)]
      have h2 : zpre (zfwN f m) f (24 * a + b) (24 * m + b) = f (24 * m + b) := by
        by_cases c : 24 * m + b < 24 * a + b
        · rw [zpre_lt c, zfwN_c hf hm (by omega)]
        · rw [zpre_ge (by omega)]
      rw [h1, h2, zpre_ge (Nat.le_refl _)]
      unfold zfwN
      rw [show (24 * a + b) / 24 = a by omega, show (24 * a + b) % 24 = b by omega]
    rw [zgo_q, S188_20, if_neg (fun z => by
      have := (nat_le (a := 24) (b := b) (by omega) (by omega)).mp (of_decide_eq_true z)
      omega), idx24b, idx24b, idx24b, if_pos (zix_nat rfl (by omega) (by omega)), if_pos (zix_nat rfl (by omega) (by omega)), if_pos (zix_nat rfl (by omega) (by omega)), if_pos (zix_nat rfl (by omega) (by omega)), zth_go, nat_succ, i32_clamp (n := 24 * a + b) (by omega), i32_clamp (n := 24 * a + m) (by omega), i32_clamp (n := 24 * m + b) (by omega), zov_at, zup_zov, hv, zpre_succ]
    exact ih
theorem far_e (xs : Nat → Int32) (L d : Nat) (I : Nat → Nat → Int32) (J : Nat → Nat → Int64) (X : XH) (f : Nat → Int32) (hf : zHf f) (m : Nat) (hm : m < 24) : ∀ (k a : Nat), a + k = 24 → zgo xs L (d + 5) 188 17 [(0, .ref 61), (1, .int (Int32.ofNat m)), (2, .int (Int32.ofNat a))] (zmk (zov I 110 (zpre (zfwN f m) f (24 * a))) J X) = zgo xs L (d + 5) 188 14 [(0, .ref 61), (1, .int (Int32.ofNat (m + 1)))] (zmk (zov I 110 (zpre (zfwN f m) f 576)) J X)
  | 0, a, ha => by
    have ha : a = 24 := by omega
    subst ha
    rw [zgo_q, S188_17, if_pos (decide_eq_true le24), zth_go, nat_succ]
  | k + 1, a, ha => by
    rw [zgo_q, S188_17, if_neg (fun z => by
      have := (nat_le (a := 24) (b := a) (by omega) (by omega)).mp (of_decide_eq_true z)
      omega), zth_go]
    exact (far_d xs L d I J X f hf m a hm (by omega) 24 0 (by omega)).trans (far_e xs L d I J X f hf m hm k (a + 1) (by omega))
/-- the table behind m phases -/
def zfw (f : Nat → Int32) : Nat → Nat → Int32
  | 0 => f
  | m + 1 => zpre (zfwN (zfw f m) m) (zfw f m) 576
theorem zfw_int {f : Nat → Int32} (hf : zHf f) {m a b : Nat} (hm : m < 24) (ha : a < 24) (hb : b < 24) : tb (zpre (zfwN f m) f 576) a b = min (tb f a b) (tb f a m + tb f m b) := by
  show (zpre (zfwN f m) f 576 (24 * a + b)).toInt = _
  rw [zpre_lt (by omega), zfwN_int hf hm ha hb]
  rfl
theorem zHf_step {f : Nat → Int32} (hf : zHf f) {m : Nat} (hm : m < 24) : zHf (zpre (zfwN f m) f 576) := by
  refine ⟨fun c hc => ?_, fun k hk => ?_⟩
  · have e : c = 24 * (c / 24) + c % 24 := by omega
    have h1 := zfw_int hf hm (show c / 24 < 24 by omega) (show c % 24 < 24 by omega)
    have h1 : (zpre (zfwN f m) f 576 (24 * (c / 24) + c % 24)).toInt = min (f (24 * (c / 24) + c % 24)).toInt ((f (24 * (c / 24) + m)).toInt + (f (24 * m + c % 24)).toInt) := h1
    rw [← e] at h1
    have h2 := hf.1 c hc
    have h3 := hf.1 (24 * (c / 24) + m) (by omega)
    have h4 := hf.1 (24 * m + c % 24) (by omega)
    omega
  · have h1 := zfw_int hf hm hk hk
    have h1 : (zpre (zfwN f m) f 576 (24 * k + k)).toInt = min (f (24 * k + k)).toInt ((f (24 * k + m)).toInt + (f (24 * m + k)).toInt) := h1
    have h2 := hf.2 k hk
    have h3 := hf.1 (24 * k + m) (by omega)
    have h4 := hf.1 (24 * m + k) (by omega)
    omega
theorem zHf_fw {f : Nat → Int32} (hf : zHf f) : ∀ m, m ≤ 24 → zHf (zfw f m)
  | 0, _ => hf
  | m + 1, hm => zHf_step (zHf_fw hf m (by omega)) (by omega)
theorem far_f (xs : Nat → Int32) (L d : Nat) (I : Nat → Nat → Int32) (J : Nat → Nat → Int64) (X : XH) (f : Nat → Int32) (hf : zHf f) : ∀ (k m : Nat), m + k = 24 → zgo xs L (d + 5) 188 14 [(0, .ref 61), (1, .int (Int32.ofNat m))] (zmk (zov I 110 (zfw f m)) J X) = some (.inr none, zmk (zov I 110 (zfw f 24)) J X)
  | 0, m, hm => by
    have hm : m = 24 := by omega
    subst hm
    rw [zgo_q, S188_14, if_pos (decide_eq_true le24)]
    rfl
  | k + 1, m, hm => by
    rw [zgo_q, S188_14, if_neg (fun z => by
      have := (nat_le (a := 24) (b := m) (by omega) (by omega)).mp (of_decide_eq_true z)
      omega), zth_go]
    have h1 := far_e xs L d I J X (zfw f m) (zHf_fw hf m (by omega)) m (by omega) 24 0 (by omega)
    rw [show (24 * 0 : Nat) = 0 from rfl, zpre_0] at h1
    exact h1.trans (far_f xs L d I J X f hf k (m + 1) (by omega))
/-- the table before the roads -/
theorem zHf_0 (g : Nat → Int32) : zHf (zpre zf0 g 576) := by
  refine ⟨fun c hc => ?_, fun m hm => ?_⟩
  · rw [zpre_lt hc]
    unfold zf0
    split
    · rw [i32_0]
      omega
    · rw [zF2]
      omega
  · rw [zpre_lt (by omega)]
    unfold zf0
    rw [if_pos (by omega), i32_0]
/-- what holds with the first k roads -/
def zPw (I : Nat → Nat → Int32) (n k : Nat) (f : Nat → Int32) : Prop := zHf f ∧ (∀ a b, a < 24 → b < 24 → tb f a b < 268435456 → ∃ j, zWk (zed I n) j a b (tb f a b)) ∧ ∀ r, r < k → I 73 r = 0 → tb f (nv (I 63 r)) (nv (I 64 r)) ≤ 64 * (I 66 r).toInt + 1
theorem zPw_0 (I : Nat → Nat → Int32) (n : Nat) (g : Nat → Int32) : zPw I n 0 (zpre zf0 g 576) := by
  refine ⟨zHf_0 g, fun a b ha hb h => ⟨0, ?_⟩, fun r hr => absurd hr (Nat.not_lt_zero r)⟩
  have e : tb (zpre zf0 g 576) a b = (zf0 (24 * a + b)).toInt := by
    show (zpre zf0 g 576 (24 * a + b)).toInt = _
    rw [zpre_lt (by omega)]
  rw [e] at h ⊢
  unfold zf0 at h ⊢
  by_cases c : a = b
  · rw [if_pos (by omega), i32_0]
    exact ⟨c, rfl⟩
  · rw [if_neg (by omega), zF2] at h
    omega
theorem zPw_step {I : Nat → Nat → Int32} {n : Nat} (hR : zRds I n) (g : Nat → Int32) (hne : ∀ r, r < n → nv (I 63 r) ≠ nv (I 64 r)) : ∀ k, k ≤ n → zPw I n k (zfr I (zpre zf0 g 576) k)
  | 0, _ => zPw_0 I n g
  | k + 1, hk => by
    have ih := zPw_step hR g hne k (by omega)
    have h1 := hR.2 k (by omega)
    have n1 := nv_int h1.1.1
    have n2 := nv_int h1.2.1.1
    unfold zfr
    generalize zfr I (zpre zf0 g 576) k = f at ih ⊢
    obtain ⟨hf, hw, he⟩ := ih
    by_cases c : I 73 k = 0
    · rw [if_pos c]
      have hcell : ∀ a b, a < 24 → b < 24 → tb (zset f (24 * nv (I 63 k) + nv (I 64 k)) (zmn (f (24 * nv (I 63 k) + nv (I 64 k))) ((64 : Int32) * I 66 k + 1))) a b = if a = nv (I 63 k) ∧ b = nv (I 64 k) then min (tb f a b) (64 * (I 66 k).toInt + 1) else tb f a b := by
        intro a b ha hb
        unfold tb zset
        by_cases e : a = nv (I 63 k) ∧ b = nv (I 64 k)
        · rw [if_pos (by rw [e.1, e.2]), if_pos e, zmn_int, zkm_int h1.2.2, e.1, e.2]
        · rw [if_neg (by omega), if_neg e]
      refine ⟨⟨fun x hx => ?_, fun m hm => ?_⟩, fun a b ha hb h => ?_, fun r hr hg => ?_⟩
      · have h2 := hcell (x / 24) (x % 24) (by omega) (by omega)
        unfold tb at h2
        rw [show 24 * (x / 24) + x % 24 = x by omega] at h2
        rw [h2]
        have h3 := hf.1 x hx
        split <;> omega
      · have h2 := hcell m m hm hm
        have h3 := hf.2 m hm
        unfold tb at h2
        rw [h2]
        split
        · omega
        · exact h3
      · rw [hcell a b ha hb] at h ⊢
        by_cases e : a = nv (I 63 k) ∧ b = nv (I 64 k)
        · rw [if_pos e] at h ⊢
          by_cases e2 : tb f a b ≤ 64 * (I 66 k).toInt + 1
          · rw [show min (tb f a b) (64 * (I 66 k).toInt + 1) = tb f a b by omega] at h ⊢
            exact hw a b ha hb h
          · rw [show min (tb f a b) (64 * (I 66 k).toInt + 1) = 64 * (I 66 k).toInt + 1 by omega]
            refine ⟨1, b, 64 * (I 66 k).toInt + 1, ⟨k, by omega, c, e.1.symm, e.2.symm, rfl⟩, rfl, by omega⟩
        · rw [if_neg e] at h ⊢
          exact hw a b ha hb h
      · have h2 := hR.2 r (by omega)
        have m1 := nv_int h2.1.1
        have m2 := nv_int h2.2.1.1
        rw [hcell _ _ (by omega) (by omega)]
        by_cases e : r = k
        · subst e
          rw [if_pos ⟨rfl, rfl⟩]
          omega
        · have := he r (by omega) hg
          split <;> omega
    · rw [if_neg c]
      refine ⟨hf, hw, fun r hr hg => ?_⟩
      by_cases e : r = k
      · exact absurd (e ▸ hg) c
      · exact he r (by omega) hg
/-- the model's table -/
def zfar (I : Nat → Nat → Int32) (n : Nat) : Nat → Int32 := zfw (zfr I (zpre zf0 (I 110) 576) n) 24
theorem zfar_eq (xs : Nat → Int32) (L d : Nat) (I : Nat → Nat → Int32) (J : Nat → Nat → Int64) (X : XH) (n : Nat) (hn : I 61 4 = Int32.ofNat n) (hR : zRds I n) (hne : ∀ r, r < n → nv (I 63 r) ≠ nv (I 64 r)) : zev xs L (d + 6) 188 [.ref 61] (zmk I J X) = some (.inr none, zmk (zov I 110 (zfar I n)) J X) := by
  refine (zcS (S188_0 xs L d I J X)).trans ?_
  rw [zth_go]
  have h1 := far_b xs L d I J X (I 110) 24 0 (by omega)
  rw [show (24 * 0 : Nat) = 0 from rfl, zpre_0, zov_self] at h1
  refine h1.trans ?_
  refine (far_c xs L d I J X (zpre zf0 (I 110) 576) n hn hR n 0 (by omega)).trans ?_
  exact far_f xs L d I J X _ (zPw_step hR (I 110) hne n (Nat.le_refl n)).1 24 0 (by omega)
theorem zfw_FW {I : Nat → Nat → Int32} {n : Nat} (hR : zRds I n) {f : Nat → Int32} (hP : zPw I n n f) : ∀ m, m ≤ 24 → zFW (zed I n) 268435456 m (tb (zfw f m))
  | 0, _ => by
    obtain ⟨hf, hw, he⟩ := hP
    refine ⟨fun a b ha hb => ⟨(hf.1 _ (by omega)).1, (hf.1 _ (by omega)).2, hw a b ha hb⟩, fun a ha => hf.2 a ha, fun a x w e => ?_, fun a x w e hx => absurd hx (Nat.not_lt_zero x)⟩
    obtain ⟨r, h1, h2, h3, h4, h5⟩ := e
    subst h3 h4 h5
    exact he r h1 h2
  | m + 1, hm => by
    have ih := zFW_step (zed_Ed hR) (zfw_FW hR hP m (by omega)) (show m < 24 by omega)
    have hf := zHf_fw hP.1 m (by omega)
    have key : ∀ a b, a < 24 → b < 24 → tb (zfw f (m + 1)) a b = min (tb (zfw f m) a b) (tb (zfw f m) a m + tb (zfw f m) m b) := fun a b ha hb => zfw_int hf (by omega) ha hb
    obtain ⟨i1, i2, i3, i4⟩ := ih
    have hE := zed_Ed hR
    refine ⟨fun a b ha hb => ?_, fun a ha => ?_, fun a x w e => ?_, fun a x w e hx b hb => ?_⟩
    · rw [key a b ha hb]
      exact i1 a b ha hb
    · rw [key a a ha ha]
      exact i2 a ha
    · rw [key a x (hE _ _ _ e).1 (hE _ _ _ e).2.1]
      exact i3 a x w e
    · rw [key a b (hE _ _ _ e).1 hb, key x b (hE _ _ _ e).2.1 hb]
      exact i4 a x w e hx b hb
theorem zfar_OK {I : Nat → Nat → Int32} {n : Nat} (hR : zRds I n) (hne : ∀ r, r < n → nv (I 63 r) ≠ nv (I 64 r)) : zOKT (zed I n) 268435456 (tb (zfar I n)) := zFW_end (zed_Ed hR) (zfw_FW hR (zPw_step hR (I 110) hne n (Nat.le_refl n)) 24 (Nat.le_refl _))
