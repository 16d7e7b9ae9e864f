/-! THE PURE PART: a box's track as a list, both sides' common picture. -/
theorem i32_div {x y : Int32} (h1 : 0 ≤ x.toInt) (h2 : 0 < y.toInt) : (x / y).toInt = x.toInt / y.toInt := by
  rw [Int32.toInt_div_of_ne_left]
  · exact Int.tdiv_eq_ediv_of_nonneg h1
  · intro e
    rw [e] at h1
    exact absurd h1 (by decide)
theorem div_nat {x : Int32} (m : Nat) (h1 : 0 ≤ x.toInt) (h2 : 0 < m) (h3 : m < 2147483648) : x / Int32.ofNat m = Int32.ofNat (nv x / m) := by
  have e1 := nv_int h1
  have e2 := i32_toInt h3
  have := nv_lt x
  have h4 : nv x / m ≤ nv x := Nat.div_le_self _ _
  apply i32_eq.mpr
  rw [i32_div h1 (by omega), e2, i32_toInt (by omega), ← e1]
  exact (Int.natCast_ediv _ _).symm
theorem i32_neg {x : Int32} (h : -2147483648 < x.toInt) : (-x).toInt = -x.toInt := by
  have := i32_hi x
  rw [Int32.toInt_neg]
  exact Int.bmod_eq_of_le (by omega) (by omega)
/-- what holds of the two sides' common rows between calls -/
def PB (V : Nat → Nat → Int32) : Prop := PNow V ∧ PLand V ∧ PFleet V ∧ PSig V ∧ PDis V ∧ PRoad V ∧ PTx V
/-- is a signal that counts double -/
noncomputable def zDb (I : Nat → Nat → Int32) (k : Int32) (s : Nat) : Bool := zany (fun o => decide (zdp (zKm I k) s (znearM (zKm I k) (zKm I k 108 s) (zKm I k 76 s) k) o)) (nv (I 61 19)) 0
noncomputable def zWc (I : Nat → Nat → Int32) (k : Int32) (s : Nat) : Int32 := if zcfS I k s = 1 then zrnS I k s else -1
/-- a passage: its road, its minute, its signal or -1, whether it is double -/
abbrev ZP : Type := Nat × Int32 × Int32 × Bool
def zgp (t : Int32) (r : Nat) : ZP := (r, t, -1, false)
noncomputable def zsp (I : Nat → Nat → Int32) (k : Int32) (s : Nat) : ZP := (nv (zrnS I k s), I 76 s, Int32.ofNat s, zDb I k s)
/-- the roads of a least way, one after another -/
def ygl (I : Nat → Nat → Int32) (c : Nat) : Nat → Nat → List Nat
  | 0, _ => []
  | f + 1, a => if a = c then [] else nv (zfst (zfrC I a c) (nv (I 61 4)) 0) :: ygl I c f (nv (I 64 (nv (zfst (zfrC I a c) (nv (I 61 4)) 0))))
def zGs (I : Nat → Nat → Int32) (c : Nat) : Nat → List Nat → Prop
  | a, [] => a = c
  | a, r :: l => a ≠ c ∧ (I 8 (24 * a + c)).toInt < 1000000000 ∧ r < nv (I 61 4) ∧ nv (I 64 r) < 24 ∧ zfst (zfrC I a c) (nv (I 61 4)) 0 = Int32.ofNat r ∧ zGs I c (nv (I 64 r)) l
noncomputable def zEn (I : Nat → Nat → Int32) (k : Int32) (s : Nat) : Nat := nv (I 64 (nv (zrnS I k s)))
noncomputable def zBg (I : Nat → Nat → Int32) (k : Int32) (s : Nat) : Nat := nv (I 63 (nv (zrnS I k s)))
noncomputable def zbt (I : Nat → Nat → Int32) (k : Int32) (s u : Nat) : List Nat := if (I 76 u - I 76 s).toInt ≤ 180 ∧ (I 8 (24 * zEn I k s + zBg I k u)).toInt < 1000000000 then ygl I (zBg I k u) 24 (zEn I k s) else []
noncomputable def zbr (I : Nat → Nat → Int32) (k : Int32) (s u : Nat) : Nat := if (I 76 u - I 76 s).toInt ≤ 180 ∧ ¬ (I 8 (24 * zEn I k s + zBg I k u)).toInt < 1000000000 then 1 else 0
noncomputable def zrw (I : Nat → Nat → Int32) (k : Int32) : Option Nat → List Nat → List ZP
  | _, [] => []
  | none, s :: l => zsp I k s :: zrw I k (some s) l
  | some q, s :: l => (zbt I k q s).map (zgp (I 76 q)) ++ (zsp I k s :: zrw I k (some s) l)
noncomputable def zbk (I : Nat → Nat → Int32) (k : Int32) : Option Nat → List Nat → Nat
  | _, [] => 0
  | none, s :: l => zbk I k (some s) l
  | some q, s :: l => zbr I k q s + zbk I k (some s) l
/-- the signals of a box that count, from a place in the order on -/
noncomputable def zqs (I : Nat → Nat → Int32) (k b : Int32) (p : Nat) : Bool := decide (I 74 (nv (I 32 p)) = b ∧ zcfS I k (nv (I 32 p)) = 1)
noncomputable def ysg (I : Nat → Nat → Int32) (k b : Int32) : Nat → Nat → List Nat
  | 0, _ => []
  | j + 1, p => if zqs I k b p = true then nv (I 32 p) :: ysg I k b j (p + 1) else ysg I k b j (p + 1)
theorem ysg_fst (I : Nat → Nat → Int32) (k b : Int32) : ∀ (j p : Nat), (zfst (zqs I k b) j p = -1 ∧ ysg I k b j p = []) ∨ ∃ r, p ≤ r ∧ r < p + j ∧ zqs I k b r = true ∧ zfst (zqs I k b) j p = Int32.ofNat r ∧ ysg I k b j p = nv (I 32 r) :: ysg I k b (p + j - r - 1) (r + 1)
  | 0, p => Or.inl ⟨rfl, rfl⟩
  | j + 1, p => by
    by_cases c : zqs I k b p = true
    · right
      refine ⟨p, Nat.le_refl _, by omega, c, if_pos c, ?_⟩
      rw [show p + (j + 1) - p - 1 = j by omega]
      exact if_pos c
    · have e1 : zfst (zqs I k b) (j + 1) p = zfst (zqs I k b) j (p + 1) := if_neg c
      have e2 : ysg I k b (j + 1) p = ysg I k b j (p + 1) := if_neg c
      rw [e1, e2]
      rcases ysg_fst I k b j (p + 1) with h | ⟨r, h1, h2, h3, h4, h5⟩
      · exact Or.inl h
      · right
        refine ⟨r, by omega, by omega, h3, h4, ?_⟩
        rw [h5, show p + 1 + j - r - 1 = p + (j + 1) - r - 1 by omega]
theorem ygl_Gs {I : Nat → Nat → Int32} (hR : PRoad I) {c : Nat} (hc : c < 24) : ∀ (f a : Nat), a < 24 → (I 8 (24 * a + c)).toInt < 1000000000 → zrk (tb (I 8)) c (tb (I 8) a c) < f → zGs I c a (ygl I c f a) ∧ (ygl I c f a).length ≤ zrk (tb (I 8)) c (tb (I 8) a c)
  | 0, a, ha, hF, hk => absurd hk (Nat.not_lt_zero _)
  | f + 1, a, ha, hF, hk => by
    by_cases e : a = c
    · have q : ygl I c (f + 1) a = [] := if_pos e
      rw [q]
      exact ⟨e, Nat.zero_le _⟩
    · have hfar := zKm_far (k := 0) hR
      have h1 := far_same (M := zKm I 0) hR hfar ha hc
      obtain ⟨g1, r, g2, g3, g4, g5⟩ := first_same (M := zKm I 0) hR hfar rfl rfl rfl rfl ha hc e (h1.1.mp hF)
      have h2 := far_same (M := zKm I 0) hR hfar g4 hc
      have hn40 := hR.1.2.2
      have n4 := nv_int hR.1.2.1
      have er : zfst (zfrC I a c) (nv (I 61 4)) 0 = Int32.ofNat r := g1.trans g3
      have q : ygl I c (f + 1) a = r :: ygl I c f (nv (I 64 r)) := by
        have : ygl I c (f + 1) a = nv (zfst (zfrC I a c) (nv (I 61 4)) 0) :: ygl I c f (nv (I 64 (nv (zfst (zfrC I a c) (nv (I 61 4)) 0)))) := if_neg e
        rw [this, er, nv_nat (by omega)]
      have hlt2 : (zKm I 0 110 (24 * nv (I 64 r) + c)).toInt < 268435456 := by
        have := h1.1.mp hF
        omega
      have e1 := h1.2 (h1.1.mp hF)
      have e2 := h2.2 hlt2
      have hF2 : (I 8 (24 * nv (I 64 r) + c)).toInt < 1000000000 := h2.1.mpr hlt2
      have hlt : tb (I 8) (nv (I 64 r)) c < tb (I 8) a c := by
        show (I 8 (24 * nv (I 64 r) + c)).toInt < (I 8 (24 * a + c)).toInt
        omega
      have hrk := zrk_lt (T := tb (I 8)) (b := c) g4 hlt
      have ih := ygl_Gs hR hc f (nv (I 64 r)) g4 hF2 (by omega)
      rw [q]
      refine ⟨⟨e, hF, g2, g4, er, ih.1⟩, ?_⟩
      rw [List.length_cons]
      omega
theorem ygl_len {I : Nat → Nat → Int32} (hR : PRoad I) {c a : Nat} (hc : c < 24) (ha : a < 24) (hF : (I 8 (24 * a + c)).toInt < 1000000000) : zGs I c a (ygl I c 24 a) ∧ (ygl I c 24 a).length ≤ 23 := by
  have h := zrk_le (T := tb (I 8)) (b := c) ha
  have := ygl_Gs hR hc 24 a ha hF (by omega)
  exact ⟨this.1, by omega⟩
/-- a passage that can be -/
def zPok (I : Nat → Nat → Int32) (x : ZP) : Prop := x.1 < nv (I 61 4) ∧ 0 ≤ x.2.1.toInt ∧ x.2.1.toInt ≤ 129599
def zcell (I : Nat → Nat → Int32) (x : ZP) : Nat := 3 * nv (I 65 x.1) + nv x.2.1 / 43200
def zgn (I : Nat → Nat → Int32) (x : ZP) (g : Nat → Int32) : Nat → Int32 := if x.2.2.2 = true then g else zset g (zcell I x) (g (zcell I x) + I 66 x.1)
theorem zcell_ok {I : Nat → Nat → Int32} (hR : PRoad I) (hL : PLand I) {x : ZP} (h : zPok I x) : zcell I x < 27 ∧ I 65 x.1 = Int32.ofNat (nv (I 65 x.1)) ∧ I 65 x.1 * (3 : Int32) + x.2.1 / (43200 : Int32) = Int32.ofNat (zcell I x) ∧ (3 : Int32) * I 65 x.1 + x.2.1 / (43200 : Int32) = Int32.ofNat (zcell I x) := by
  obtain ⟨h1, h2, h3⟩ := h
  have q := (hR.2.2.1 x.1 h1).2.2.1
  have l9 := hL.2.2
  have e1 := nv_int q.1
  have e2 := nv_int h2
  have e3 : I 65 x.1 = Int32.ofNat (nv (I 65 x.1)) := (nv_of q.1).symm
  have e4 : x.2.1 / (43200 : Int32) = Int32.ofNat (nv x.2.1 / 43200) := div_nat 43200 h2 (by decide) (by decide)
  refine ⟨by unfold zcell; omega, e3, ?_, ?_⟩
  · rw [e4, e3]
    show Int32.ofNat (nv (I 65 x.1)) * Int32.ofNat 3 + _ = _
    rw [nat_mul, nat_add]
    unfold zcell
    rw [Nat.mul_comm]
  · rw [e4, e3]
    show Int32.ofNat 3 * Int32.ofNat (nv (I 65 x.1)) + _ = _
    rw [nat_mul, nat_add]
    unfold zcell
    rfl
