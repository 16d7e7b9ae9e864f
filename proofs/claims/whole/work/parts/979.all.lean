/-! THE PURE PART: all charges in a land, on both sides. -/
def yam (V : Nat → Nat → Int32) (C : Nat → List (Bool × List Int32)) (k : Int32) (b l : Nat) : (Nat → Int32) → List ZP → Int64 → Int64
  | _, [], s => s
  | G, x :: r, s => yam V C k b l (zgn V x G) r (if nv (V 65 x.1) = l then s + (ych V C k b x (G (zcell V x))).toInt64 else s)
theorem yam_add (V : Nat → Nat → Int32) (C : Nat → List (Bool × List Int32)) (k : Int32) (b l : Nat) : ∀ (r : List ZP) (G : Nat → Int32) (s t : Int64), yam V C k b l G r (s + t) = s + yam V C k b l G r t
  | [], _, _, _ => rfl
  | x :: r, G, s, t => by
    show yam V C k b l (zgn V x G) r (if nv (V 65 x.1) = l then s + t + _ else s + t) = s + yam V C k b l (zgn V x G) r (if nv (V 65 x.1) = l then t + _ else t)
    by_cases c : nv (V 65 x.1) = l
    · rw [if_pos c, if_pos c, Int64.add_assoc]
      exact yam_add V C k b l r _ s _
    · rw [if_neg c, if_neg c]
      exact yam_add V C k b l r _ s t
noncomputable def ymo (V : Nat → Nat → Int32) (C : Nat → List (Bool × List Int32)) (k : Int32) (l : Nat) : Nat → Nat → Int64 → Int64
  | 0, _, s => s
  | j + 1, b, s => ymo V C k l j (b + 1) (yam V C k b l (fun _ => 0) (ytk V k b) s)
theorem ymo_add (V : Nat → Nat → Int32) (C : Nat → List (Bool × List Int32)) (k : Int32) (l : Nat) : ∀ (j b : Nat) (s t : Int64), ymo V C k l j b (s + t) = s + ymo V C k l j b t
  | 0, _, _, _ => rfl
  | j + 1, b, s, t => by
    show ymo V C k l j (b + 1) (yam V C k b l (fun _ => 0) (ytk V k b) (s + t)) = s + ymo V C k l j (b + 1) (yam V C k b l (fun _ => 0) (ytk V k b) t)
    rw [yam_add]
    exact ymo_add V C k l j (b + 1) s _
theorem i64_six (a b c d e f a' b' c' d' e' f' : Int64) : (((a + a') + (b + b')) + ((c + c') + (d + d'))) + ((e + e') + (f + f')) = ((((a + b) + (c + d)) + (e + f))) + ((((a' + b') + (c' + d')) + (e' + f'))) := by
  ac_rfl
theorem ysm_z9 {V : Nat → Nat → Int32} {C : Nat → List (Bool × List Int32)} {k : Int32} {b l m : Nat} {u : Int32} {x : ZP} {r : List ZP} {G : Nat → Int32} : ysm V C k b l m u G (x :: r) 0 = (if yis V k b l m u x then (ych V C k b x (G (zcell V x))).toInt64 else 0) + ysm V C k b l m u (zgn V x G) r 0 := by
  show ysm V C k b l m u (zgn V x G) r (if yis V k b l m u x then 0 + _ else 0) = _
  rw [← ysm_add, Int64.add_zero]
  by_cases c : yis V k b l m u x
  · rw [if_pos c, if_pos c, Int64.zero_add]
  · rw [if_neg c, if_neg c]
theorem yam_six {V : Nat → Nat → Int32} {C : Nat → List (Bool × List Int32)} {k : Int32} {b l : Nat} (hK : PBlk V) : ∀ (r : List ZP) (G : Nat → Int32), (∀ x, x ∈ r → zPok V x) → ((ysm V C k b l 0 0 G r 0 + ysm V C k b l 0 1 G r 0) + (ysm V C k b l 1 0 G r 0 + ysm V C k b l 1 1 G r 0)) + (ysm V C k b l 2 0 G r 0 + ysm V C k b l 2 1 G r 0) = yam V C k b l G r 0
  | [], _, _ => by
    show ((0 : Int64) + 0 + (0 + 0)) + (0 + 0) = 0
    decide
  | x :: r, G, hx => by
    have hx1 := hx x List.mem_cons_self
    have ih := yam_six (C := C) (k := k) (b := b) (l := l) hK r (zgn V x G) (fun y hy => hx y (List.mem_cons_of_mem _ hy))
    have hmon : nv x.2.1 / 43200 < 3 := by
      have := nv_int hx1.2.1
      have := hx1.2.2
      omega
    have h01 : ybx V k b x = 0 ∨ ybx V k b x = 1 := yblk_01 hK (Int32.ofNat b) x.2.1 k (nv (V 61 22))
    have e : yam V C k b l G (x :: r) 0 = (if nv (V 65 x.1) = l then (ych V C k b x (G (zcell V x))).toInt64 else 0) + yam V C k b l (zgn V x G) r 0 := by
      show yam V C k b l (zgn V x G) r (if nv (V 65 x.1) = l then 0 + _ else 0) = _
      rw [← yam_add, Int64.add_zero]
      by_cases c : nv (V 65 x.1) = l
      · rw [if_pos c, if_pos c, Int64.zero_add]
      · rw [if_neg c, if_neg c]
    rw [e, ← ih, ysm_z9, ysm_z9, ysm_z9, ysm_z9, ysm_z9, ysm_z9, i64_six]
    refine congrArg (· + _) ?_
    generalize (ych V C k b x (G (zcell V x))).toInt64 = v
    by_cases cl : nv (V 65 x.1) = l
    · rw [if_pos cl]
      have key : ∀ m u, yis V k b l m u x ↔ (nv x.2.1 / 43200 = m ∧ ybx V k b x = u) := fun m u => ⟨fun z => ⟨z.1.2, z.2⟩, fun z => ⟨⟨cl, z.1⟩, z.2⟩⟩
      have n01 : ¬ (0 : Int32) = 1 := by decide
      have n10 : ¬ (1 : Int32) = 0 := by decide
      have : nv x.2.1 / 43200 = 0 ∨ nv x.2.1 / 43200 = 1 ∨ nv x.2.1 / 43200 = 2 := by omega
      rcases this with cm | cm | cm <;> rcases h01 with cu | cu <;> simp only [key, cm, cu, n01, n10, and_true, and_false, if_true, if_false] <;> simp
    · rw [if_neg cl]
      have n : ∀ m u, ¬ yis V k b l m u x := fun m u z => cl z.1.1
      rw [if_neg (n _ _), if_neg (n _ _), if_neg (n _ _), if_neg (n _ _), if_neg (n _ _), if_neg (n _ _)]
      decide
theorem ymo_six {V : Nat → Nat → Int32} {C : Nat → List (Bool × List Int32)} {k : Int32} {l : Nat} (hB : PB V) (hK : PBlk V) : ∀ (j b : Nat), ((yto V C k (-1) l 0 0 j b 0 + yto V C k (-1) l 0 1 j b 0) + (yto V C k (-1) l 1 0 j b 0 + yto V C k (-1) l 1 1 j b 0)) + (yto V C k (-1) l 2 0 j b 0 + yto V C k (-1) l 2 1 j b 0) = ymo V C k l j b 0
  | 0, _ => by
    show ((0 : Int64) + 0 + (0 + 0)) + (0 + 0) = 0
    decide
  | j + 1, b => by
    have ih := ymo_six (C := C) (k := k) (l := l) hB hK j (b + 1)
    have hy : yask V (-1) b = true := decide_eq_true (Or.inl rfl)
    have st : ∀ m u, yto V C k (-1) l m u (j + 1) b 0 = ybo V C k l m u b + yto V C k (-1) l m u j (b + 1) 0 := fun m u => by
      show yto V C k (-1) l m u j (b + 1) (if yask V (-1) b = true then 0 + ybo V C k l m u b else 0) = _
      rw [if_pos hy, Int64.zero_add]
      have ad : ∀ (j b : Nat) (s t : Int64), yto V C k (-1) l m u j b (s + t) = s + yto V C k (-1) l m u j b t := by
        intro j
        induction j with
        | zero => intro b s t; rfl
        | succ j ihj =>
          intro b s t
          have hy : yask V (-1) b = true := decide_eq_true (Or.inl rfl)
          show yto V C k (-1) l m u j (b + 1) (if yask V (-1) b = true then s + t + ybo V C k l m u b else s + t) = s + yto V C k (-1) l m u j (b + 1) (if yask V (-1) b = true then t + ybo V C k l m u b else t)
          rw [if_pos hy, if_pos hy, Int64.add_assoc]
          exact ihj (b + 1) s _
      have q := ad j (b + 1) (ybo V C k l m u b) 0
      rw [Int64.add_zero] at q
      exact q
    have e : ymo V C k l (j + 1) b 0 = yam V C k b l (fun _ => 0) (ytk V k b) 0 + ymo V C k l j (b + 1) 0 := by
      show ymo V C k l j (b + 1) (yam V C k b l (fun _ => 0) (ytk V k b) 0) = _
      rw [← ymo_add, Int64.add_zero]
    have s6 := yam_six (C := C) (k := k) (b := b) (l := l) hK (ytk V k b) (fun _ => 0) (fun x hx => (ytk_ok hB k b x hx).1)
    rw [e, ← ih, ← s6, st, st, st, st, st, st]
    exact i64_six _ _ _ _ _ _ _ _ _ _ _ _
/-- all charges in a land known at k -/
noncomputable def yal9 (V : Nat → Nat → Int32) (C : Nat → List (Bool × List Int32)) (k : Int32) (l : Nat) : Int64 := ymo V C k l (nv (V 61 7)) 0 0
theorem c27_eq (xs : Nat → Int32) (L D : Nat) (hD : 6 ≤ D) (I : Nat → Nat → Int32) (J : Nat → Nat → Int64) (X : XH) (l : Nat) (hl : l < 9) : zev xs L D 27 [.ref 53, .int (Int32.ofNat l)] (zmk I J X) = some (.inr (some (.int (((J 54 (3 * l) + J 55 (3 * l)) + (J 54 (3 * l + 1) + J 55 (3 * l + 1))) + (J 54 (3 * l + 2) + J 55 (3 * l + 2))).toInt32)), zmk I J X) := by
  obtain ⟨d, rfl⟩ := Nat.exists_eq_add_of_le hD
  rw [Nat.add_comm 6 d]
  have S := zcS (as := [.ref 53, .int (Int32.ofNat l)]) (S27_0 xs L d I J X (Int32.ofNat l))
  have e3 : Int32.ofNat l * (3 : Int32) = Int32.ofNat (3 * l) := by
    show Int32.ofNat l * Int32.ofNat 3 = _
    rw [nat_mul, Nat.mul_comm l 3]
  have e4 : (Int32.ofNat l + 1) * (3 : Int32) = Int32.ofNat (3 * l + 3) := by
    show (Int32.ofNat l + Int32.ofNat 1) * Int32.ofNat 3 = _
    rw [nat_add, nat_mul, show (l + 1) * 3 = 3 * l + 3 by omega]
  have step : ∀ (a2 : Int64) (i : Nat), i < 3 * l + 3 → zgo xs L (d + 5) 27 2 [(0, .ref 53), (1, .int (Int32.ofNat l)), (2, .long a2), (4, .int (Int32.ofNat i))] (zmk I J X) = zgo xs L (d + 5) 27 2 [(0, .ref 53), (1, .int (Int32.ofNat l)), (2, .long (a2 + (J 54 i + J 55 i))), (4, .int (Int32.ofNat (i + 1)))] (zmk I J X) := fun a2 i hi => by
    rw [zgo_q, S27_2 xs L d, e4, if_neg (fun z => by
      have := (nat_le (by omega) (by omega)).mp (of_decide_eq_true z)
      omega), zth_go, zlat_nat (by omega) (by omega), zlat_nat (by omega) (by omega), nat_succ]
  rw [zth_go, e3, step _ _ (by omega), step _ _ (by omega), step _ _ (by omega), zgo_q, S27_2 xs L d, e4, if_pos (decide_eq_true ((nat_le (by omega) (by omega)).mpr (by omega)))] at S
  refine S.trans ?_
  show some (Sum.inr (some (Value.int (Int64.ofNat 0 + (J 54 (3 * l) + J 55 (3 * l)) + (J 54 (3 * l + 1) + J 55 (3 * l + 1)) + (J 54 (3 * l + 2) + J 55 (3 * l + 2))).toInt32)), zmk I J X) = _
  rw [show Int64.ofNat 0 + (J 54 (3 * l) + J 55 (3 * l)) = J 54 (3 * l) + J 55 (3 * l) from Int64.zero_add _]
theorem c138_eq (xs : Nat → Int32) (L D : Nat) (hD : 13 ≤ D) {V I : Nat → Nat → Int32} (J : Nat → Nat → Int64) (X : XH) {C : Nat → List (Bool × List Int32)} (l : Nat) (k : Int32) (hk : I 0 11 = k) (hl : l < 9) (hVI : ∀ b, (b < 61 ∨ 122 < b) → I b = V b) (hB : PB V) (hK : PBlk V) (hT : PTm V X C k) (hW : PWk I) : ∃ H J', zev xs L D 138 [.ref 0, .int (Int32.ofNat l)] (zmk I J X) = some (.inr (some (.int (yal9 V C k l).toInt32)), zmk H J' X) ∧ zfr8 [33, 34, 49, 50, 51, 52] [] I H ∧ PWk H ∧ ∀ a, a ≠ 54 → a ≠ 55 → J' a = J a := by
  obtain ⟨d, rfl⟩ := Nat.exists_eq_add_of_le hD
  rw [show 13 + d = d + 7 + 6 by omega]
  obtain ⟨H1, a1, a2, a3⟩ := know_c xs L (d + 7 + 5) (by omega) J X k hVI hB hT
  have k1 : H1 0 11 = k := by rw [a3.1 0 (by decide) (by decide), hk]
  obtain ⟨H2, b1, b2, b3⟩ := addUp_c xs L (d + 7 + 5) (by omega) J X k (-1) hB hK hT a2 (PWk_fr a3 (by decide) hW)
  have S := zcS (as := [.ref 0, .int (Int32.ofNat l)]) (S138_0 xs L (d + 7) I J X (Int32.ofNat l))
  have c := c27_eq xs L (d + 7 + 5) (by omega) H2 (yjo (yjo J 54 (ysum V C k (-1) J).1) 55 (ysum V C k (-1) J).2) X l hl
  have s54 : yjo (yjo J 54 (ysum V C k (-1) J).1) 55 (ysum V C k (-1) J).2 54 = (ysum V C k (-1) J).1 := rfl
  have s55 : yjo (yjo J 54 (ysum V C k (-1) J).1) 55 (ysum V C k (-1) J).2 55 = (ysum V C k (-1) J).2 := rfl
  have t0 := ysum_to (C := C) (k := k) (pr := -1) (l := l) (m := 0) hB hK hl (by decide) J
  have t1 := ysum_to (C := C) (k := k) (pr := -1) (l := l) (m := 1) hB hK hl (by decide) J
  have t2 := ysum_to (C := C) (k := k) (pr := -1) (l := l) (m := 2) hB hK hl (by decide) J
  rw [Nat.add_zero] at t0
  rw [s54, s55, t0.1, t0.2, t1.1, t1.2, t2.1, t2.2, ymo_six hB hK] at c
  rw [hk, a1, zcw_v, T138_0_5_695 xs L (d + 7), k1, b1, zcw_v, T138_0_11_689 xs L (d + 7), c, zci_i, T138_0_15_685 xs L (d + 7)] at S
  refine ⟨H2, _, S, zfr8_tr (zfr8_sub a3 (fun b h => List.mem_append_left [49, 50, 51, 52] h) (fun _ h => h)) b2 (fun b h => List.mem_append_right [33, 34] h) (fun _ h => h), b3, fun a h1 h2 => ?_⟩
  rw [yjo_ne h2, yjo_ne h1]
theorem m211_5 (xs : Nat → Int32) (L d : Nat) {V M : Nat → Nat → Int32} (J : Nat → Nat → Int64) (X : XH) {C : Nat → List (Bool × List Int32)} (k : Int32) (b l n : Nat) (a4 : Int32) (hB : PB V) (hM : yMH V k M) (hl : l < 9) (hn : n ≤ 7200) (h76 : M 61 76 = Int32.ofNat n) : ∀ (r : List ZP) (p : Nat) (G : Nat → Int32) (s : Int64), p + r.length = n → yr3 M p r → yric V C k b M p G r → (∀ x, x ∈ r → zPok V x) → zgo xs L (d + 5) 211 5 [(0, .ref 61), (1, .int (Int32.ofNat l)), (2, .long s), (4, .int a4), (5, .int (Int32.ofNat p))] (zmk M J X) = zgo xs L (d + 5) 211 2 [(0, .ref 61), (1, .int (Int32.ofNat l)), (2, .long (yam V C k b l G r s)), (4, .int (a4 + 1))] (zmk M J X)
  | [], p, G, s, hp, _, _, _ => by
    have hp : p = n := hp
    rw [zgo_q, S211_5 xs L d, h76, hp, if_pos (decide_eq_true ((nat_le (by omega) (by omega)).mpr (Nat.le_refl _))), zth_go]
    rfl
  | x :: r, p, G, s, hp, h3, hr, hx => by
    have hlen : (x :: r).length = r.length + 1 := List.length_cons
    obtain ⟨⟨h112, _, _⟩, h3r⟩ := h3
    obtain ⟨⟨_, _, h115⟩, hrr⟩ := hr
    have hx1 := hx x List.mem_cons_self
    have hRd := hB.2.2.2.2.2.1
    have hL := hB.2.1
    have h40 := hRd.1.2.2
    have n4 := nv_int hRd.1.2.1
    have hxr := hx1.1
    have q65 := (hRd.2.2.1 x.1 hx1.1).2.2.1
    have ih := fun s' => m211_5 xs L d J X (C := C) k b l n a4 hB hM hl hn h76 r (p + 1) (zgn V x G) s' (by omega) h3r hrr (fun y hy => hx y (List.mem_cons_of_mem _ hy))
    have zp : zix 0 8000 0 (Int32.ofNat p) := zix_nat rfl (by omega) (by omega)
    have zr : zix 0 40 0 (Int32.ofNat x.1) := zix_nat rfl (by omega) (by omega)
    have e112 : M 112 (Int32.ofNat p).toNatClampNeg = Int32.ofNat x.1 := by
      rw [i32_clamp (by omega)]
      exact h112
    have e115 : M 115 (Int32.ofNat p).toNatClampNeg = ych V C k b x (G (zcell V x)) := by
      rw [i32_clamp (by omega)]
      exact h115
    have e65 : M 65 (Int32.ofNat x.1).toNatClampNeg = Int32.ofNat (nv (V 65 x.1)) := by
      rw [i32_clamp (by omega), hM.1 65 (by decide) (by decide) (by decide), nv_of q65.1]
    have zr' : zix 0 40 0 (M 112 (Int32.ofNat p).toNatClampNeg) := by
      rw [e112]
      exact zr
    have l9 := hL.2.2
    have n65 := nv_int q65.1
    have S := zgo_q xs L (d + 5) 211 5 [(0, .ref 61), (1, .int (Int32.ofNat l)), (2, .long s), (4, .int a4), (5, .int (Int32.ofNat p))] (zmk M J X)
    rw [S211_5 xs L d, h76, if_neg (fun z => by
      have := (nat_le (by omega) (by omega)).mp (of_decide_eq_true z)
      omega), if_pos zp, if_pos zr', if_pos zp, e112, e65, e115, nat_succ] at S
    have hdef : yam V C k b l G (x :: r) s = yam V C k b l (zgn V x G) r (if nv (V 65 x.1) = l then s + (ych V C k b x (G (zcell V x))).toInt64 else s) := rfl
    rw [hdef]
    by_cases c1 : nv (V 65 x.1) = l
    · rw [if_neg (fun z => (of_decide_eq_true z) (by rw [c1])), zth_go] at S
      rw [if_pos c1]
      exact S.trans (ih _)
    · rw [if_pos (decide_eq_true (show ¬ Int32.ofNat (nv (V 65 x.1)) = Int32.ofNat l from fun z => c1 ((nat_eq (by omega) (by omega)).mp z))), zth_go, show s + Int64.ofNat 0 = s from Int64.add_zero s] at S
      rw [if_neg c1]
      exact S.trans (ih _)
theorem m211_2 (xs : Nat → Int32) (L d : Nat) {V : Nat → Nat → Int32} (J : Nat → Nat → Int64) (X : XH) {C : Nat → List (Bool × List Int32)} (k : Int32) (l : Nat) (hB : PB V) (h2 : V 61 2 = k) {Y : XH} (hT : PTm V Y C k) (hl : l < 9) : ∀ (j b : Nat) (s : Int64) (M : Nat → Nat → Int32), b + j = nv (V 61 7) → yMH V k M → ∃ M', zgo xs L (d + 6 + 5) 211 2 [(0, .ref 61), (1, .int (Int32.ofNat l)), (2, .long s), (4, .int (Int32.ofNat b))] (zmk M J X) = some (.inr (some (.long (ymo V C k l j b s))), zmk M' J X) ∧ zfr8 yfr [76, 77] M M'
  | 0, b, s, M, hb, hM => by
    have hF := hB.2.2.1
    have n7 := nv_int hF.2.2.1.2.1
    have h24 := hF.2.2.1.2.2
    have hb : b = nv (V 61 7) := by omega
    have e7 : M 61 7 = Int32.ofNat b := by rw [hM.2.1 7 (by decide), hb, nv_of hF.2.2.1.2.1]
    refine ⟨M, ?_, zfr8_rfl⟩
    rw [zgo_q, S211_2 xs L (d + 6), e7, if_pos (decide_eq_true ((nat_le (by omega) (by omega)).mpr (Nat.le_refl _)))]
    rfl
  | j + 1, b, s, M, hb, hM => by
    have hF := hB.2.2.1
    have n7 := nv_int hF.2.2.1.2.1
    have h24 := hF.2.2.1.2.2
    have e7 : M 61 7 = Int32.ofNat (nv (V 61 7)) := by rw [hM.2.1 7 (by decide), nv_of hF.2.2.1.2.1]
    have e2 : M 61 2 = k := by rw [hM.2.1 2 (by decide), h2]
    have S := zgo_q xs L (d + 6 + 5) 211 2 [(0, .ref 61), (1, .int (Int32.ofNat l)), (2, .long s), (4, .int (Int32.ofNat b))] (zmk M J X)
    obtain ⟨M1, q1, q2, q3, q4, q5, q6, _⟩ := track_m xs L (d + 6 + 5) (by omega) J X k b hB hM hT (by omega)
    have hM1 := yMH_fr hM q5
    have lo := m211_5 xs L (d + 6) J X (C := C) k b l _ (Int32.ofNat b) hB hM1 hl q6 q2.1 (ytk V k b) 0 (fun _ => 0) s (Nat.zero_add _) q2.2 q4 (fun x hx => (ytk_ok hB k b x hx).1)
    rw [S211_2 xs L (d + 6), e7, if_neg (fun z => by
      have := (nat_le (by omega) (by omega)).mp (of_decide_eq_true z)
      omega), e2, q1, zcw_v, T211_2_9_691 xs L (d + 6), zth_go] at S
    obtain ⟨M', r1, r2⟩ := m211_2 xs L d J X (C := C) k l hB h2 hT hl j (b + 1) (yam V C k b l (fun _ => 0) (ytk V k b) s) M1 (by omega) hM1
    rw [nat_succ] at lo
    exact ⟨M', S.trans (lo.trans r1), zfr8_tr q5 r2 (fun _ h => h) (fun _ h => h)⟩
theorem m211_eq (xs : Nat → Int32) (L D : Nat) (hD : 12 ≤ D) {V M : Nat → Nat → Int32} (J : Nat → Nat → Int64) (X : XH) {C : Nat → List (Bool × List Int32)} (k : Int32) (l : Nat) (hB : PB V) (hBM : PB M) (hMV : yMV V M) (h2 : V 61 2 = k) {Y : XH} (hT : PTm V Y C k) (hl : l < 9) : ∃ M', zev xs L D 211 [.ref 61, .int (Int32.ofNat l)] (zmk M J X) = some (.inr (some (.long (yal9 V C k l))), zmk M' J X) ∧ zfr8 ([108, 109, 110] ++ yfr) [76, 77] M M' := by
  obtain ⟨d, rfl⟩ := Nat.exists_eq_add_of_le hD
  rw [show 12 + d = d + 6 + 6 by omega]
  obtain ⟨M1, k1, k2, k3⟩ := know_m xs L (d + 6 + 5) (by omega) J X k hMV hBM
  obtain ⟨M2, m1, m2⟩ := m211_2 xs L d J X (C := C) k l hB h2 hT hl (nv (V 61 7)) 0 0 M1 (Nat.zero_add _) k2
  have e2 : M 61 2 = k := by rw [hMV.2 2 (by decide), h2]
  have S := zcS (as := [.ref 61, .int (Int32.ofNat l)]) (S211_0 xs L (d + 6) M J X (Int32.ofNat l))
  rw [e2, k1, zcw_v, T211_0_4_696 xs L (d + 6), zth_go] at S
  exact ⟨M2, S.trans m1, zfr8_tr (zfr8_sub k3 (fun b h => List.mem_append_left yfr h) (fun b h => by cases h)) m2 (fun b h => List.mem_append_right [108, 109, 110] h) (fun _ h => h)⟩
