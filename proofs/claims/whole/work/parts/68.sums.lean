/-! THE PURE PART: the model's sums; that they are the class's. -/
abbrev yis (V : Nat → Nat → Int32) (k : Int32) (b l m : Nat) (u : Int32) (x : ZP) : Prop := (nv (V 65 x.1) = l ∧ nv x.2.1 / 43200 = m) ∧ ybx V k b x = u
/-- the charges of a list in a land and month, unpaid or not, on top of s -/
def ysm (V : Nat → Nat → Int32) (C : Nat → List (Bool × List Int32)) (k : Int32) (b l m : Nat) (u : Int32) : (Nat → Int32) → List ZP → Int64 → Int64
  | _, [], s => s
  | G, x :: r, s => ysm V C k b l m u (zgn V x G) r (if yis V k b l m u x then s + (ych V C k b x (G (zcell V x))).toInt64 else s)
theorem ysm_add (V : Nat → Nat → Int32) (C : Nat → List (Bool × List Int32)) (k : Int32) (b l m : Nat) (u : Int32) : ∀ (r : List ZP) (G : Nat → Int32) (s t : Int64), ysm V C k b l m u G r (s + t) = s + ysm V C k b l m u G r t
  | [], _, _, _ => rfl
  | x :: r, G, s, t => by
    show ysm V C k b l m u (zgn V x G) r (if yis V k b l m u x then s + t + _ else s + t) = s + ysm V C k b l m u (zgn V x G) r (if yis V k b l m u x then t + _ else t)
    by_cases c : yis V k b l m u x
    · rw [if_pos c, if_pos c, Int64.add_assoc]
      exact ysm_add V C k b l m u r _ s _
    · rw [if_neg c, if_neg c]
      exact ysm_add V C k b l m u r _ s t
theorem yaw_sm {V : Nat → Nat → Int32} {C : Nat → List (Bool × List Int32)} {k : Int32} {b l m : Nat} (hK : PBlk V) (hm : m < 3) : ∀ (r : List ZP) (G : Nat → Int32) (s : (Nat → Int64) × (Nat → Int64)), (∀ x, x ∈ r → zPok V x) → (yaw V C k b G r s).1 (3 * l + m) = ysm V C k b l m 0 G r (s.1 (3 * l + m)) ∧ (yaw V C k b G r s).2 (3 * l + m) = ysm V C k b l m 1 G r (s.2 (3 * l + m))
  | [], _, _, _ => ⟨rfl, rfl⟩
  | x :: r, G, s, hx => by
    have hx1 := hx x List.mem_cons_self
    have hmon : nv x.2.1 / 43200 < 3 := by
      have := nv_int hx1.2.1
      have := hx1.2.2
      omega
    have ih := fun s' => yaw_sm (C := C) (k := k) (b := b) (l := l) hK hm r (zgn V x G) s' (fun y hy => hx y (List.mem_cons_of_mem _ hy))
    have hcell : zcell V x = 3 * l + m ↔ (nv (V 65 x.1) = l ∧ nv x.2.1 / 43200 = m) := by
      unfold zcell
      omega
    have h01 := yblk_01 hK (Int32.ofNat b) x.2.1 k (nv (V 61 22))
    have h01 : ybx V k b x = 0 ∨ ybx V k b x = 1 := h01
    show (yaw V C k b (zgn V x G) r (if ybx V k b x = 0 then _ else _)).1 (3 * l + m) = ysm V C k b l m 0 (zgn V x G) r (if yis V k b l m 0 x then _ else _) ∧ (yaw V C k b (zgn V x G) r (if ybx V k b x = 0 then _ else _)).2 (3 * l + m) = ysm V C k b l m 1 (zgn V x G) r (if yis V k b l m 1 x then _ else _)
    rcases h01 with c | c
    · rw [if_pos c]
      have q := ih (yst s.1 (zcell V x) (s.1 (zcell V x) + (ych V C k b x (G (zcell V x))).toInt64), s.2)
      have n1 : ¬ yis V k b l m 1 x := fun z => by
        have z := z.2
        rw [c] at z
        exact absurd z (by decide)
      rw [if_neg n1]
      refine ⟨q.1.trans ?_, q.2⟩
      show ysm V C k b l m 0 (zgn V x G) r (if 3 * l + m = zcell V x then _ else s.1 (3 * l + m)) = _
      by_cases e : zcell V x = 3 * l + m
      · rw [if_pos e.symm, if_pos (show yis V k b l m 0 x from ⟨hcell.mp e, c⟩), e]
      · rw [if_neg (fun z => e z.symm), if_neg (fun z : yis V k b l m 0 x => e (hcell.mpr z.1))]
    · have c0 : ¬ ybx V k b x = 0 := fun z => by
        rw [c] at z
        exact absurd z (by decide)
      rw [if_neg c0]
      have q := ih (s.1, yst s.2 (zcell V x) (s.2 (zcell V x) + (ych V C k b x (G (zcell V x))).toInt64))
      have n0 : ¬ yis V k b l m 0 x := fun z => c0 z.2
      rw [if_neg n0]
      refine ⟨q.1, q.2.trans ?_⟩
      show ysm V C k b l m 1 (zgn V x G) r (if 3 * l + m = zcell V x then _ else s.2 (3 * l + m)) = _
      by_cases e : zcell V x = 3 * l + m
      · rw [if_pos e.symm, if_pos (show yis V k b l m 1 x from ⟨hcell.mp e, c⟩), e]
      · rw [if_neg (fun z => e z.symm), if_neg (fun z : yis V k b l m 1 x => e (hcell.mpr z.1))]
/-- a box's charges in a land and month -/
noncomputable def ybo (V : Nat → Nat → Int32) (C : Nat → List (Bool × List Int32)) (k : Int32) (l m : Nat) (u : Int32) (b : Nat) : Int64 := ysm V C k b l m u (fun _ => 0) (ytk V k b) 0
noncomputable def yto (V : Nat → Nat → Int32) (C : Nat → List (Bool × List Int32)) (k pr : Int32) (l m : Nat) (u : Int32) : Nat → Nat → Int64 → Int64
  | 0, _, s => s
  | j + 1, b, s => yto V C k pr l m u j (b + 1) (if yask V pr b = true then s + ybo V C k l m u b else s)
theorem yall_to {V : Nat → Nat → Int32} {C : Nat → List (Bool × List Int32)} {k pr : Int32} {l m : Nat} (hB : PB V) (hK : PBlk V) (hm : m < 3) : ∀ (j b : Nat) (s : (Nat → Int64) × (Nat → Int64)), (yall V C k pr j b s).1 (3 * l + m) = yto V C k pr l m 0 j b (s.1 (3 * l + m)) ∧ (yall V C k pr j b s).2 (3 * l + m) = yto V C k pr l m 1 j b (s.2 (3 * l + m))
  | 0, _, _ => ⟨rfl, rfl⟩
  | j + 1, b, s => by
    show (yall V C k pr j (b + 1) (if yask V pr b = true then _ else s)).1 _ = yto V C k pr l m 0 j (b + 1) (if yask V pr b = true then _ else _) ∧ (yall V C k pr j (b + 1) (if yask V pr b = true then _ else s)).2 _ = yto V C k pr l m 1 j (b + 1) (if yask V pr b = true then _ else _)
    by_cases c : yask V pr b = true
    · rw [if_pos c, if_pos c, if_pos c]
      have q := yall_to (C := C) (k := k) (pr := pr) (l := l) hB hK hm j (b + 1) (yaw V C k b (fun _ => 0) (ytk V k b) s)
      have r := yaw_sm (C := C) (k := k) (b := b) (l := l) hK hm (ytk V k b) (fun _ => 0) s (fun x hx => (ytk_ok hB k b x hx).1)
      have a1 := ysm_add V C k b l m 0 (ytk V k b) (fun _ => 0) (s.1 (3 * l + m)) 0
      have a2 := ysm_add V C k b l m 1 (ytk V k b) (fun _ => 0) (s.2 (3 * l + m)) 0
      rw [Int64.add_zero] at a1 a2
      rw [r.1, r.2, a1, a2] at q
      exact q
    · rw [if_neg c, if_neg c, if_neg c]
      exact yall_to hB hK hm j (b + 1) s
/-- the class's sum of a land and month -/
theorem ysum_to {V : Nat → Nat → Int32} {C : Nat → List (Bool × List Int32)} {k pr : Int32} {l m : Nat} (hB : PB V) (hK : PBlk V) (hl : l < 9) (hm : m < 3) (J : Nat → Nat → Int64) : (ysum V C k pr J).1 (3 * l + m) = yto V C k pr l m 0 (nv (V 61 7)) 0 0 ∧ (ysum V C k pr J).2 (3 * l + m) = yto V C k pr l m 1 (nv (V 61 7)) 0 0 := by
  have q := yall_to (C := C) (k := k) (pr := pr) (l := l) hB hK hm (nv (V 61 7)) 0 (yz27 (J 54), yz27 (J 55))
  have e1 : (yz27 (J 54)) (3 * l + m) = 0 := if_pos (by omega)
  have e2 : (yz27 (J 55)) (3 * l + m) = 0 := if_pos (by omega)
  dsimp only at q
  rw [e1, e2] at q
  exact q
/-! the model -/
theorem chi_loop (xs : Nat → Int32) (L d : Nat) {V M : Nat → Nat → Int32} (J : Nat → Nat → Int64) (X : XH) {C : Nat → List (Bool × List Int32)} (k u : Int32) (b l m n : Nat) (hB : PB V) (hK : PBlk V) (hM : yMH V k M) (hl : l < 9) (hm : m < 3) (hn : n ≤ 7200) (h76 : M 61 76 = Int32.ofNat n) : ∀ (r : List ZP) (p : Nat) (G : Nat → Int32) (s : Int64), p + r.length = n → yr3 M p r → yric V C k b M p G r → (∀ x, x ∈ r → zPok V x) → zgo xs L (d + 1 + 5) 202 2 [(0, .ref 61), (1, .int (Int32.ofNat b)), (2, .int (Int32.ofNat l)), (3, .int (Int32.ofNat m)), (4, .int k), (5, .int u), (6, .long s), (8, .int (Int32.ofNat p))] (zmk M J X) = some (.inr (some (.long (ysm V C k b l m u G r s))), zmk M J X)
  | [], p, G, s, hp, _, _, _ => by
    have hp : p = n := hp
    rw [zgo_q, S202_2 xs L (d + 1), h76, hp, if_pos (decide_eq_true ((nat_le (by omega) (by omega)).mpr (Nat.le_refl _)))]
    rfl
  | x :: r, p, G, s, hp, h3, hr, hx => by
    have hlen : (x :: r).length = r.length + 1 := List.length_cons
    obtain ⟨⟨h112, h113, _⟩, h3r⟩ := h3
    obtain ⟨⟨_, _, h115⟩, hrr⟩ := hr
    have hx1 := hx x List.mem_cons_self
    have hRd := hB.2.2.2.2.2.1
    have hL := hB.2.1
    have h40 := hRd.1.2.2
    have n4 := nv_int hRd.1.2.1
    have hxr := hx1.1
    have q65 := (hRd.2.2.1 x.1 hx1.1).2.2.1
    have ih := fun s' => chi_loop xs L d J X (C := C) k u b l m n hB hK hM hl hm hn h76 r (p + 1) (zgn V x G) s' (by omega) h3r hrr (fun y hy => hx y (List.mem_cons_of_mem _ hy))
    have zp : zix 0 8000 0 (Int32.ofNat p) := zix_nat rfl (by omega) (by omega)
    have zr : zix 0 40 0 (Int32.ofNat x.1) := zix_nat rfl (by omega) (by omega)
    have e112 : M 112 (Int32.ofNat p).toNatClampNeg = Int32.ofNat x.1 := by
      rw [i32_clamp (by omega)]
      exact h112
    have e113 : M 113 (Int32.ofNat p).toNatClampNeg = x.2.1 := by
      rw [i32_clamp (by omega)]
      exact h113
    have e115 : M 115 (Int32.ofNat p).toNatClampNeg = ych V C k b x (G (zcell V x)) := by
      rw [i32_clamp (by omega)]
      exact h115
    have e65 : M 65 (Int32.ofNat x.1).toNatClampNeg = Int32.ofNat (nv (V 65 x.1)) := by
      rw [i32_clamp (by omega), hM.1 65 (by decide) (by decide) (by decide), nv_of q65.1]
    have zr' : zix 0 40 0 (M 112 (Int32.ofNat p).toNatClampNeg) := by
      rw [e112]
      exact zr
    have ed : x.2.1 / (43200 : Int32) = Int32.ofNat (nv x.2.1 / 43200) := div_nat 43200 hx1.2.1 (by decide) (by decide)
    have nt := nv_int hx1.2.1
    have ht := hx1.2.2
    have l9 := hL.2.2
    have n65 := nv_int q65.1
    have row : ∀ c, 61 < c → c ≤ 121 → c ∉ [102, 103, 108, 109, 110, 111, 112, 113, 114, 115, 116, 117, 118] → M c = V c := hM.1
    have hbl := black_m xs L (d + 1 + 5) (by omega) (V := V) (M := M) J X k (Int32.ofNat b) x.2.1 hK (hM.2.1 22 (by decide)) (row 84 (by decide) (by decide) (by decide)) (row 85 (by decide) (by decide) (by decide)) (row 86 (by decide) (by decide) (by decide)) (row 91 (by decide) (by decide) (by decide))
    rw [zgo_q, S202_2 xs L (d + 1), h76, if_neg (fun z => by
      have := (nat_le (by omega) (by omega)).mp (of_decide_eq_true z)
      omega), if_pos zp, if_pos zr', if_pos zp, if_pos zp, e112, e113, e65, ed, nat_succ]
    have hdef : ysm V C k b l m u G (x :: r) s = ysm V C k b l m u (zgn V x G) r (if yis V k b l m u x then s + (ych V C k b x (G (zcell V x))).toInt64 else s) := rfl
    rw [hdef]
    by_cases c1 : nv (V 65 x.1) = l
    · rw [if_neg (fun z => (of_decide_eq_true z) (by rw [c1]))]
      by_cases c2 : nv x.2.1 / 43200 = m
      · rw [if_neg (fun z => (of_decide_eq_true z) (by rw [c2]))]
        have hbl : zev xs L (d + 1 + 5) 199 [.ref 61, .int (Int32.ofNat b), .int x.2.1, .int k] (zmk M J X) = some (.inr (some (.int (ybx V k b x))), zmk M J X) := hbl
        rw [hbl, zci_i, T202_2_29_671 xs L (d + 1)]
        by_cases c3 : ybx V k b x = u
        · rw [if_neg (fun z => (of_decide_eq_true z) c3), if_pos zp, e115, zth_go, nat_succ, if_pos (show yis V k b l m u x from ⟨⟨c1, c2⟩, c3⟩)]
          exact ih _
        · rw [if_pos (decide_eq_true (show ¬ ybx V k b x = u from c3)), zth_go, nat_succ, if_neg (fun z : yis V k b l m u x => c3 z.2)]
          exact ih _
      · rw [if_pos (decide_eq_true (show ¬ Int32.ofNat (nv x.2.1 / 43200) = Int32.ofNat m from fun z => c2 ((nat_eq (by omega) (by omega)).mp z))), zth_go, if_neg (fun z : yis V k b l m u x => c2 z.1.2)]
        exact ih _
    · rw [if_pos (decide_eq_true (show ¬ Int32.ofNat (nv (V 65 x.1)) = Int32.ofNat l from fun z => c1 ((nat_eq (by omega) (by omega)).mp z))), zth_go, if_neg (fun z : yis V k b l m u x => c1 z.1.1)]
      exact ih _
theorem chi_m (xs : Nat → Int32) (L D : Nat) (hD : 7 ≤ D) {V M : Nat → Nat → Int32} (J : Nat → Nat → Int64) (X : XH) {C : Nat → List (Bool × List Int32)} (k u : Int32) (b l m : Nat) (hB : PB V) (hK : PBlk V) (hM : yMH V k M) (hl : l < 9) (hm : m < 3) (hT : yhas M (ytk V k b)) (hr : yric V C k b M 0 (fun _ => 0) (ytk V k b)) : zev xs L D 202 [.ref 61, .int (Int32.ofNat b), .int (Int32.ofNat l), .int (Int32.ofNat m), .int k, .int u] (zmk M J X) = some (.inr (some (.long (ybo V C k l m u b))), zmk M J X) := by
  obtain ⟨d, rfl⟩ := Nat.exists_eq_add_of_le hD
  rw [show 7 + d = d + 1 + 6 by omega]
  refine (zcS (S202_0 xs L (d + 1) M J X _ _ _ _ _)).trans ?_
  rw [zth_go]
  exact chi_loop xs L d J X k u b l m _ hB hK hM hl hm (ytk_len hB k b) hT.1 (ytk V k b) 0 (fun _ => 0) 0 (Nat.zero_add _) hT.2 hr (fun x hx => (ytk_ok hB k b x hx).1)
abbrev yfr : List Nat := [102, 103, 111, 112, 113, 114, 115, 116, 117, 118]
/-- the model's due of a provider, ahead of its rate -/
theorem due_loop (xs : Nat → Int32) (L d : Nat) {V : Nat → Nat → Int32} (J : Nat → Nat → Int64) (X : XH) {C : Nat → List (Bool × List Int32)} (k : Int32) (p l m : Nat) (hB : PB V) (hK : PBlk V) (hRt : PRat V) (hT : PTm V X C k) (hp : p < 6) (hl : l < 9) (hm : m < 3) : ∀ (j b : Nat) (s : Int64) (M : Nat → Nat → Int32), b + j = nv (V 61 7) → yMH V k M → ∃ M', zgo xs L (d + 6 + 5) 201 2 [(0, .ref 61), (1, .int (Int32.ofNat p)), (2, .int (Int32.ofNat l)), (3, .int (Int32.ofNat m)), (4, .int k), (5, .long s), (7, .int (Int32.ofNat b))] (zmk M J X) = some (.inr (some (.long (yto V C k (Int32.ofNat p) l m 0 j b s * (yrat V (Int32.ofNat l) (Int32.ofNat m) k (nv (V 61 23))).toInt64 / Int64.ofNat 1000))), zmk M' J X) ∧ zfr8 yfr [76, 77] M M'
  | 0, b, s, M, hb, hM => by
    have hF := hB.2.2.1
    have n7 := nv_int hF.2.2.1.2.1
    have h24 := hF.2.2.1.2.2
    have hb : b = nv (V 61 7) := by omega
    have e7 : M 61 7 = Int32.ofNat b := by rw [hM.2.1 7 (by decide), hb, nv_of hF.2.2.1.2.1]
    have row : ∀ c, 61 < c → c ≤ 121 → c ∉ [102, 103, 108, 109, 110, 111, 112, 113, 114, 115, 116, 117, 118] → M c = V c := hM.1
    refine ⟨M, ?_, zfr8_rfl⟩
    rw [zgo_q, S201_2 xs L (d + 6), e7, if_pos (decide_eq_true ((nat_le (by omega) (by omega)).mpr (Nat.le_refl _))), rate_m xs L _ (by omega) J X _ _ k hRt (hM.2.1 23 (by decide)) (row 87 (by decide) (by decide) (by decide)) (row 88 (by decide) (by decide) (by decide)) (row 89 (by decide) (by decide) (by decide)) (row 90 (by decide) (by decide) (by decide)), zcl_l, T201_3_6_690 xs L (d + 6)]
    rfl
  | j + 1, b, s, M, hb, hM => by
    have hF := hB.2.2.1
    have n7 := nv_int hF.2.2.1.2.1
    have h24 := hF.2.2.1.2.2
    have e7 : M 61 7 = Int32.ofNat (nv (V 61 7)) := by rw [hM.2.1 7 (by decide), nv_of hF.2.2.1.2.1]
    have zb : zix 0 24 0 (Int32.ofNat b) := zix_nat rfl (by omega) (by omega)
    have e72 : M 72 (Int32.ofNat b).toNatClampNeg = V 72 b := by rw [i32_clamp (by omega), hM.1 72 (by decide) (by decide) (by decide)]
    have hpm : ¬ Int32.ofNat p = -1 := nat_m1 (by omega)
    have S := zgo_q xs L (d + 6 + 5) 201 2 [(0, .ref 61), (1, .int (Int32.ofNat p)), (2, .int (Int32.ofNat l)), (3, .int (Int32.ofNat m)), (4, .int k), (5, .long s), (7, .int (Int32.ofNat b))] (zmk M J X)
    rw [S201_2 xs L (d + 6), e7, if_neg (fun z => by
      have := (nat_le (by omega) (by omega)).mp (of_decide_eq_true z)
      omega), if_pos zb, e72] at S
    have hdef : yto V C k (Int32.ofNat p) l m 0 (j + 1) b s = yto V C k (Int32.ofNat p) l m 0 j (b + 1) (if yask V (Int32.ofNat p) b = true then s + ybo V C k l m 0 b else s) := rfl
    by_cases c : V 72 b = Int32.ofNat p
    · obtain ⟨M1, q1, q2, q3, q4, q5, _, _⟩ := track_m xs L (d + 6 + 5) (by omega) J X k b hB hM hT (by omega)
      have hM1 := yMH_fr hM q5
      have hc := chi_m xs L (d + 6 + 5) (by omega) J X k 0 b l m hB hK hM1 hl hm q2 q4
      obtain ⟨M', r1, r2⟩ := due_loop xs L d J X k p l m hB hK hRt hT hp hl hm j (b + 1) (s + ybo V C k l m 0 b) M1 (by omega) hM1
      refine ⟨M', ?_, zfr8_tr q5 r2 (fun _ h => h) (fun _ h => h)⟩
      rw [if_pos (decide_eq_true c), q1, zcw_v, T201_4_4_686 xs L (d + 6), hc, zcl_l, T201_4_12_678 xs L (d + 6), zth_go, nat_succ] at S
      rw [hdef, if_pos (show yask V (Int32.ofNat p) b = true from decide_eq_true (Or.inr c))]
      exact S.trans r1
    · obtain ⟨M', r1, r2⟩ := due_loop xs L d J X k p l m hB hK hRt hT hp hl hm j (b + 1) s M (by omega) hM
      refine ⟨M', ?_, r2⟩
      rw [if_neg (fun z => c (of_decide_eq_true z)), zth_go, nat_succ] at S
      rw [hdef, if_neg (show ¬ yask V (Int32.ofNat p) b = true from fun z => (of_decide_eq_true z).elim hpm c)]
      exact S.trans r1
/-- what a provider owes a land for a month, its rate counted in -/
noncomputable def ydu (V : Nat → Nat → Int32) (C : Nat → List (Bool × List Int32)) (k : Int32) (p l m : Nat) : Int64 := yto V C k (Int32.ofNat p) l m 0 (nv (V 61 7)) 0 0 * (yrat V (Int32.ofNat l) (Int32.ofNat m) k (nv (V 61 23))).toInt64 / Int64.ofNat 1000
theorem dueOf_m (xs : Nat → Int32) (L D : Nat) (hD : 12 ≤ D) {V M : Nat → Nat → Int32} (J : Nat → Nat → Int64) (X : XH) {C : Nat → List (Bool × List Int32)} (k : Int32) (p l m : Nat) (hB : PB V) (hK : PBlk V) (hRt : PRat V) (hT : PTm V X C k) (hp : p < 6) (hl : l < 9) (hm : m < 3) (hM : yMH V k M) : ∃ M', zev xs L D 201 [.ref 61, .int (Int32.ofNat p), .int (Int32.ofNat l), .int (Int32.ofNat m), .int k] (zmk M J X) = some (.inr (some (.long (ydu V C k p l m))), zmk M' J X) ∧ zfr8 yfr [76, 77] M M' := by
  obtain ⟨d, rfl⟩ := Nat.exists_eq_add_of_le hD
  rw [show 12 + d = d + 6 + 6 by omega]
  obtain ⟨M', q1, q2⟩ := due_loop xs L d J X k p l m hB hK hRt hT hp hl hm (nv (V 61 7)) 0 0 M (Nat.zero_add _) hM
  refine ⟨M', ?_, q2⟩
  refine (zcS (S201_0 xs L (d + 6) M J X _ _ _ _)).trans ?_
  rw [zth_go]
  exact q1
/-- the class's due -/
theorem dueFor_c (xs : Nat → Int32) (L D : Nat) (hD : 7 ≤ D) {V H : Nat → Nat → Int32} (J : Nat → Nat → Int64) (X : XH) {C : Nat → List (Bool × List Int32)} (k : Int32) (p l m : Nat) (hB : PB V) (hK : PBlk V) (hRt : PRat V) (hl : l < 9) (hm : m < 3) (hC : zCH V k H) (J0 : Nat → Nat → Int64) (hJ : J 54 = (ysum V C k (Int32.ofNat p) J0).1) : zev xs L D 23 [.ref 53, .int (Int32.ofNat l), .int (Int32.ofNat m), .int k] (zmk H J X) = some (.inr (some (.long (ydu V C k p l m))), zmk H J X) := by
  obtain ⟨d, rfl⟩ := Nat.exists_eq_add_of_le hD
  rw [show 7 + d = d + 1 + 6 by omega]
  have e3 : Int32.ofNat l * (3 : Int32) + Int32.ofNat m = Int32.ofNat (l * 3 + m) := by
    show Int32.ofNat l * Int32.ofNat 3 + Int32.ofNat m = _
    rw [nat_mul, nat_add]
  refine (zcS (S23_0 xs L (d + 1) H J X _ _ _)).trans ?_
  rw [e3, rate_c xs L _ (by omega) J X l m k k hl hm hRt hC, zci_i, T23_0_17_683 xs L (d + 1), zlat_nat (by omega) (by omega), hJ, Nat.mul_comm l 3, (ysum_to hB hK hl hm J0).1]
  rfl
theorem unp_loop (xs : Nat → Int32) (L d : Nat) {V : Nat → Nat → Int32} (J : Nat → Nat → Int64) (X : XH) {C : Nat → List (Bool × List Int32)} (k : Int32) (l m : Nat) (hB : PB V) (hK : PBlk V) (hT : PTm V X C k) (hl : l < 9) (hm : m < 3) : ∀ (j b : Nat) (s : Int64) (M : Nat → Nat → Int32), b + j = nv (V 61 7) → yMH V k M → ∃ M', zgo xs L (d + 6 + 5) 204 5 [(0, .ref 61), (1, .int (Int32.ofNat l)), (2, .int (Int32.ofNat m)), (3, .int k), (4, .long s), (6, .int (Int32.ofNat b))] (zmk M J X) = some (.inr (some (.int (yto V C k (-1) l m 1 j b s).toInt32)), zmk M' J X) ∧ zfr8 yfr [76, 77] M M'
  | 0, b, s, M, hb, hM => by
    have hF := hB.2.2.1
    have n7 := nv_int hF.2.2.1.2.1
    have h24 := hF.2.2.1.2.2
    have hb : b = nv (V 61 7) := by omega
    have e7 : M 61 7 = Int32.ofNat b := by rw [hM.2.1 7 (by decide), hb, nv_of hF.2.2.1.2.1]
    refine ⟨M, ?_, zfr8_rfl⟩
    rw [zgo_q, S204_5 xs L (d + 6), e7, if_pos (decide_eq_true ((nat_le (by omega) (by omega)).mpr (Nat.le_refl _)))]
    rfl
  | j + 1, b, s, M, hb, hM => by
    have hF := hB.2.2.1
    have n7 := nv_int hF.2.2.1.2.1
    have h24 := hF.2.2.1.2.2
    have e7 : M 61 7 = Int32.ofNat (nv (V 61 7)) := by rw [hM.2.1 7 (by decide), nv_of hF.2.2.1.2.1]
    have S := zgo_q xs L (d + 6 + 5) 204 5 [(0, .ref 61), (1, .int (Int32.ofNat l)), (2, .int (Int32.ofNat m)), (3, .int k), (4, .long s), (6, .int (Int32.ofNat b))] (zmk M J X)
    obtain ⟨M1, q1, q2, q3, q4, q5, _, _⟩ := track_m xs L (d + 6 + 5) (by omega) J X k b hB hM hT (by omega)
    have hM1 := yMH_fr hM q5
    have hc := chi_m xs L (d + 6 + 5) (by omega) J X k 1 b l m hB hK hM1 hl hm q2 q4
    obtain ⟨M', r1, r2⟩ := unp_loop xs L d J X (C := C) k l m hB hK hT hl hm j (b + 1) (s + ybo V C k l m 1 b) M1 (by omega) hM1
    rw [S204_5 xs L (d + 6), e7, if_neg (fun z => by
      have := (nat_le (by omega) (by omega)).mp (of_decide_eq_true z)
      omega), q1, zcw_v, T204_5_8_692 xs L (d + 6), hc, zcl_l, T204_5_16_684 xs L (d + 6), zth_go, nat_succ] at S
    refine ⟨M', S.trans r1, zfr8_tr q5 r2 (fun _ h => h) (fun _ h => h)⟩
