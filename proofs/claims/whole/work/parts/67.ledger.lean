/-! THE PURE PART: the class adds up charges. -/
def yst (f : Nat → Int64) (k : Nat) (v : Int64) : Nat → Int64 := fun j => if j = k then v else f j
def yjo (J : Nat → Nat → Int64) (a : Nat) (f : Nat → Int64) : Nat → Nat → Int64 := fun b => if b = a then f else J b
theorem yjo_self (J : Nat → Nat → Int64) (a : Nat) : yjo J a (J a) = J := by
  funext b
  unfold yjo
  split
  · rename_i e
    rw [e]
  · rfl
theorem yjo_at {J : Nat → Nat → Int64} {a : Nat} {f : Nat → Int64} : yjo J a f a = f := if_pos rfl
theorem yjo_ne {J : Nat → Nat → Int64} {a b : Nat} {f : Nat → Int64} (h : b ≠ a) : yjo J a f b = J b := if_neg h
theorem yjo_jo {J : Nat → Nat → Int64} {a : Nat} {f g : Nat → Int64} : yjo (yjo J a f) a g = yjo J a g := by
  funext b
  unfold yjo
  split <;> rfl
theorem yjo_up {J : Nat → Nat → Int64} {a k : Nat} {f : Nat → Int64} {v : Int64} : zup (yjo J a f) a k v = yjo J a (yst f k v) := by
  funext b j
  unfold zup yjo yst
  split
  · rename_i e
    rfl
  · rfl
theorem zlput_nat {J : Nat → Nat → Int64} {a n k : Nat} {v : Int64} (h : k < n) (hk : k < 2147483648) : zlput J a n (Int32.ofNat k) v = zup J a k v := by
  have z := (zix_nat (t := 0) (tag := 0) rfl h hk).2
  rw [zlput_yes z, i32_clamp hk]
theorem zlat_nat {J : Nat → Nat → Int64} {a n k : Nat} (h : k < n) (hk : k < 2147483648) : zlat J a n (Int32.ofNat k) = J a k := by
  have z := (zix_nat (t := 0) (tag := 0) rfl h hk).2
  unfold zlat
  rw [if_neg z, i32_clamp hk]
def ybx (V : Nat → Nat → Int32) (k : Int32) (b : Nat) (x : ZP) : Int32 := yblk V (Int32.ofNat b) x.2.1 k (nv (V 61 22))
/-- the sums with a track's charges added: owed, not paid -/
def yaw (V : Nat → Nat → Int32) (C : Nat → List (Bool × List Int32)) (k : Int32) (b : Nat) : (Nat → Int32) → List ZP → (Nat → Int64) × (Nat → Int64) → (Nat → Int64) × (Nat → Int64)
  | _, [], s => s
  | G, x :: l, s => yaw V C k b (zgn V x G) l (if ybx V k b x = 0 then (yst s.1 (zcell V x) (s.1 (zcell V x) + (ych V C k b x (G (zcell V x))).toInt64), s.2) else (s.1, yst s.2 (zcell V x) (s.2 (zcell V x) + (ych V C k b x (G (zcell V x))).toInt64)))
theorem ZW_fr {V H H2 : Nat → Nat → Int32} {k b : Int32} {l : List ZP} {tot : Nat} (h : ZW V H k b l tot) (e : H2 49 = H 49) : ZW V H2 k b l tot := by
  obtain ⟨p, g, a, c, β, q⟩ := h
  refine ⟨p, g, a, c, β, ?_⟩
  rw [e]
  exact q
theorem ZW_pw {V H : Nat → Nat → Int32} {k b : Int32} {l : List ZP} {tot : Nat} (h : ZW V H k b l tot) : PWk H := by
  obtain ⟨p, g, a, c, β, _, _, _, q, _, hc, _⟩ := h
  unfold PWk
  rw [q, i32_toInt (by omega)]
  omega
theorem ZW_89 {V H : Nat → Nat → Int32} {k b : Int32} {l : List ZP} {tot : Nat} (h : ZW V H k b l tot) : H 49 8 = b ∧ H 49 9 = k := by
  obtain ⟨p, g, a, c, β, _, _, _, _, _, _, _, _, _, _, q8, q9, _⟩ := h
  exact ⟨q8, q9⟩
theorem zcell_c {V H : Nat → Nat → Int32} {k : Int32} (hRd : PRoad V) (hL : PLand V) (hC : zCH V k H) {x : ZP} (hx : zPok V x) (h13 : H 49 13 = Int32.ofNat x.1) (h14 : H 49 14 = x.2.1) : zat H 4 40 (H 49 13) * (3 : Int32) + H 49 14 / (43200 : Int32) = Int32.ofNat (zcell V x) := by
  have h40 := hRd.1.2.2
  have n4 := nv_int hRd.1.2.1
  have hx1 := hx.1
  rw [h13, zat_nat (by omega) (by omega), hC.1 4 (by decide) (by decide), hRd.2.1.2.2.1, h14]
  exact (zcell_ok hRd hL hx).2.2.1
theorem add_loop (xs : Nat → Int32) (L d : Nat) {V : Nat → Nat → Int32} (J : Nat → Nat → Int64) (X : XH) {C : Nat → List (Bool × List Int32)} (k pr : Int32) (b tot : Nat) (hB : PB V) (hK : PBlk V) (hT : PTm V X C k) (hb : b < nv (V 61 7)) : ∀ (l : List ZP) (i : Nat) (G : Nat → Int32) (H : Nat → Nat → Int32) (ow np : Nat → Int64), ZW V H k (Int32.ofNat b) l tot → zCH V k H → (∀ c, c < 27 → H 50 c = G c) → i + l.length ≤ 7200 → ∃ H', zgo xs L (d + 5 + 5) 21 8 [(0, .ref 53), (1, .int pr), (2, .int k), (3, .int (Int32.ofNat b)), (4, .int 1), (5, .int (Int32.ofNat i))] (zmk H (yjo (yjo J 54 ow) 55 np) X) = zgo xs L (d + 5 + 5) 21 2 [(0, .ref 53), (1, .int pr), (2, .int k), (3, .int (Int32.ofNat (b + 1)))] (zmk H' (yjo (yjo J 54 (yaw V C k b G l (ow, np)).1) 55 (yaw V C k b G l (ow, np)).2) X) ∧ zfr8 [49, 50, 51, 52] [] H H' ∧ PWk H'
  | [], i, G, H, ow, np, hW, hC, hG, hi => by
    refine ⟨H, ?_, zfr8_rfl, ZW_pw hW⟩
    rw [zgo_q, S21_8 xs L (d + 5)]
    by_cases c : (7200 : Int32) ≤ Int32.ofNat i
    · rw [if_pos (decide_eq_true c), zth_go, nat_succ]
      rfl
    · rw [if_neg (fun z => c (of_decide_eq_true z)), if_neg (by decide), (step_n xs L (d + 5 + 5) (by omega) _ X k (Int32.ofNat b) tot hW).1, zci_i, T21_8_8_692 xs L (d + 5), if_pos (by decide), zth_go, nat_succ]
      rfl
  | x :: l, i, G, H, ow, np, hW, hC, hG, hi => by
    have hlen : (x :: l).length = l.length + 1 := List.length_cons
    obtain ⟨hx, H1, a1, a2, a3, a4, a5, a6, a7, a8, a9⟩ := step_y xs L (d + 5 + 5) (by omega) (yjo (yjo J 54 ow) 55 np) X k (Int32.ofNat b) x l tot hB hC hW
    have hL := hB.2.1
    have hRd := hB.2.2.2.2.2.1
    have hC1 := zCH_fr hC (zfr8_sub (S := [49, 50, 51, 52]) (T := []) a2 (fun b h => List.mem_append_left [51, 52] h) (fun _ h => h))
    have hcl := (zcell_ok hRd hL hx).1
    obtain ⟨w8, w9⟩ := ZW_89 a9
    have hu := unpaid_c xs L (d + 5 + 5) (by omega) (yjo (yjo J 54 ow) 55 np) X k (Int32.ofNat b) x.2.1 hK hC1 w8 w9 a4
    have hu : zev xs L (d + 5 + 5) 89 [.ref 49] (zmk H1 (yjo (yjo J 54 ow) 55 np) X) = some (.inr (some (.int (ybx V k b x))), zmk H1 (yjo (yjo J 54 ow) 55 np) X) := hu
    obtain ⟨H2, b1, b2⟩ := charge_c xs L (d + 5 + 5) (by omega) (yjo (yjo J 54 ow) 55 np) X k b x (G (zcell V x)) hB hC1 hT hx hb w8 w9 a3 a4 a5 (by rw [a7, hG _ hcl]) a6
    have hC2 := zCH_fr hC1 (zfr8_sub (S := [49, 50, 51, 52]) (T := []) b2 (fun b h => List.mem_append_right [49, 50] h) (fun _ h => h))
    have hW2 := ZW_fr a9 (b2.1 49 (by decide) (by decide))
    have ecell : zat H1 4 40 (H1 49 13) * (3 : Int32) + H1 49 14 / (43200 : Int32) = Int32.ofNat (zcell V x) := zcell_c hRd hL hC1 hx a3 a4
    have hG2 : ∀ c, c < 27 → H2 50 c = zgn V x G c := by
      intro c hc
      rw [b2.1 50 (by decide) (by decide), a8]
      unfold zgn
      by_cases q : x.2.2.2 = true
      · rw [if_pos q, if_pos q]
        exact hG c hc
      · rw [if_neg q, if_neg q]
        unfold zset
        rw [hG _ hcl, hG c hc]
    have fr : zfr8 [49, 50, 51, 52] [] H H2 := zfr8_tr (zfr8_sub a2 (fun b h => List.mem_append_left [51, 52] h) (fun _ h => h)) b2 (fun b h => List.mem_append_right [49, 50] h) (fun _ h => h)
    have hn7200 : ¬ decide ((7200 : Int32) ≤ Int32.ofNat i) = true := fun z => by
      have := (nat_le (a := 7200) (b := i) (by omega) (by omega)).mp (of_decide_eq_true z)
      omega
    by_cases c : ybx V k b x = 0
    · obtain ⟨H', q1, q2, q3⟩ := add_loop xs L d J X k pr b tot hB hK hT hb l (i + 1) (zgn V x G) H2 (yst ow (zcell V x) (ow (zcell V x) + (ych V C k b x (G (zcell V x))).toInt64)) np hW2 hC2 hG2 (by omega)
      refine ⟨H', ?_, zfr8_tr fr q2 (fun _ h => h) (fun _ h => h), q3⟩
      have ey : yaw V C k b G (x :: l) (ow, np) = yaw V C k b (zgn V x G) l (yst ow (zcell V x) (ow (zcell V x) + (ych V C k b x (G (zcell V x))).toInt64), np) := by
        show yaw V C k b (zgn V x G) l (if ybx V k b x = 0 then _ else _) = _
        rw [if_pos c]
      have ez : zlput (yjo (yjo J 54 ow) 55 np) 54 27 (Int32.ofNat (zcell V x)) (zlat (yjo (yjo J 54 ow) 55 np) 54 27 (Int32.ofNat (zcell V x)) + (ych V C k b x (G (zcell V x))).toInt64) = yjo (yjo J 54 (yst ow (zcell V x) (ow (zcell V x) + (ych V C k b x (G (zcell V x))).toInt64))) 55 np := by
        rw [zlput_nat hcl (by omega), zlat_nat hcl (by omega), yjo_ne (by decide), yjo_at]
        funext a j
        unfold zup yjo yst
        by_cases e : a = 54
        · subst e
          simp
        · rw [if_neg e, if_neg e]
          split <;> rfl
      rw [ey, zgo_q, S21_8 xs L (d + 5), if_neg hn7200, if_neg (by decide), a1, zci_i, T21_8_8_692 xs L (d + 5), if_neg (by decide), hu, zci_i, T21_8_12_688 xs L (d + 5), if_pos (decide_eq_true c), b1, zci_i, ecell, T21_11_6_678 xs L (d + 5), ez, zth_go, nat_succ]
      exact q1
    · obtain ⟨H', q1, q2, q3⟩ := add_loop xs L d J X k pr b tot hB hK hT hb l (i + 1) (zgn V x G) H2 ow (yst np (zcell V x) (np (zcell V x) + (ych V C k b x (G (zcell V x))).toInt64)) hW2 hC2 hG2 (by omega)
      refine ⟨H', ?_, zfr8_tr fr q2 (fun _ h => h) (fun _ h => h), q3⟩
      have ey : yaw V C k b G (x :: l) (ow, np) = yaw V C k b (zgn V x G) l (ow, yst np (zcell V x) (np (zcell V x) + (ych V C k b x (G (zcell V x))).toInt64)) := by
        show yaw V C k b (zgn V x G) l (if ybx V k b x = 0 then _ else _) = _
        rw [if_neg c]
      have ez : zlput (yjo (yjo J 54 ow) 55 np) 55 27 (Int32.ofNat (zcell V x)) (zlat (yjo (yjo J 54 ow) 55 np) 55 27 (Int32.ofNat (zcell V x)) + (ych V C k b x (G (zcell V x))).toInt64) = yjo (yjo J 54 ow) 55 (yst np (zcell V x) (np (zcell V x) + (ych V C k b x (G (zcell V x))).toInt64)) := by
        rw [zlput_nat hcl (by omega), zlat_nat hcl (by omega), yjo_at, yjo_up]
      rw [ey, zgo_q, S21_8 xs L (d + 5), if_neg hn7200, if_neg (by decide), a1, zci_i, T21_8_8_692 xs L (d + 5), if_neg (by decide), hu, zci_i, T21_8_12_688 xs L (d + 5), if_neg (fun z => c (of_decide_eq_true z)), b1, zci_i, ecell, T21_11_6_678_6 xs L (d + 5), ez, zth_go, nat_succ]
      exact q1
/-- is a box asked for -/
def yask (V : Nat → Nat → Int32) (pr : Int32) (b : Nat) : Bool := decide (pr = -1 ∨ V 72 b = pr)
noncomputable def yall (V : Nat → Nat → Int32) (C : Nat → List (Bool × List Int32)) (k pr : Int32) : Nat → Nat → (Nat → Int64) × (Nat → Int64) → (Nat → Int64) × (Nat → Int64)
  | 0, _, s => s
  | j + 1, b, s => yall V C k pr j (b + 1) (if yask V pr b = true then yaw V C k b (fun _ => 0) (ytk V k b) s else s)
theorem ytk_len {V : Nat → Nat → Int32} (hB : PB V) (k : Int32) (b : Nat) : (ytk V k b).length ≤ 7200 := by
  have hS := hB.2.2.2.1
  have n19 := nv_int hS.1.2.1
  have h300 := hS.1.2.2
  have key : ∀ (l : List Nat) (o : Option Nat), (∀ q, o = some q → q < nv (V 61 19)) → (∀ s, s ∈ l → s < nv (V 61 19)) → (zrw V k o l).length ≤ 24 * l.length := by
    intro l
    induction l with
    | nil =>
      intro o _ _
      cases o <;> exact Nat.le_refl _
    | cons s l ih =>
      intro o ho hl
      have hs := hl s List.mem_cons_self
      have h1 := ih (some s) (fun q h => by cases h; exact hs) (fun u hu => hl u (List.mem_cons_of_mem _ hu))
      rw [List.length_cons]
      cases o with
      | none =>
        show (zsp V k s :: zrw V k (some s) l).length ≤ _
        rw [List.length_cons]
        omega
      | some q =>
        have hq := ho q rfl
        have h2 : (zbt V k q s).length ≤ 23 := by
          unfold zbt
          obtain ⟨s1, s2, s3, s4, s5, s6, s7⟩ := sig_ok hB k hq
          obtain ⟨u1, u2, u3, u4, u5, u6, u7⟩ := sig_ok hB k hs
          by_cases c : (V 76 s - V 76 q).toInt ≤ 180 ∧ (V 8 (24 * zEn V k q + zBg V k s)).toInt < 1000000000
          · rw [if_pos c]
            exact (ygl_len hB.2.2.2.2.2.1 u5.2 s4.2 c.2).2
          · rw [if_neg c]
            exact Nat.zero_le _
        show ((zbt V k q s).map (zgp (V 76 q)) ++ (zsp V k s :: zrw V k (some s) l)).length ≤ _
        rw [List.length_append, List.length_map, List.length_cons]
        omega
  have hl : ∀ (j i : Nat), (ysg V k (Int32.ofNat b) j i).length ≤ j := by
    intro j
    induction j with
    | zero =>
      intro i
      exact Nat.le_refl _
    | succ j ih =>
      intro i
      have := ih (i + 1)
      by_cases c : zqs V k (Int32.ofNat b) i = true
      · have e : ysg V k (Int32.ofNat b) (j + 1) i = nv (V 32 i) :: ysg V k (Int32.ofNat b) j (i + 1) := if_pos c
        rw [e, List.length_cons]
        omega
      · have e : ysg V k (Int32.ofNat b) (j + 1) i = ysg V k (Int32.ofNat b) j (i + 1) := if_neg c
        rw [e]
        omega
  have h1 := key (ysg V k (Int32.ofNat b) (nv (V 61 19)) 0) none (fun q h => by cases h) (fun s hs => by
    obtain ⟨p, _, p2, _, p4⟩ := ysg_mem.mp hs
    have h2 := hS.2.2.2.1 p (by omega)
    have := nv_int h2.1
    omega)
  have h2 := hl (nv (V 61 19)) 0
  unfold ytk
  omega
theorem all_loop (xs : Nat → Int32) (L d : Nat) {V : Nat → Nat → Int32} (J : Nat → Nat → Int64) (X : XH) {C : Nat → List (Bool × List Int32)} (k pr : Int32) (hB : PB V) (hK : PBlk V) (hT : PTm V X C k) : ∀ (j b : Nat) (H : Nat → Nat → Int32) (s : (Nat → Int64) × (Nat → Int64)), b + j = nv (V 61 7) → zCH V k H → PWk H → ∃ H', zgo xs L (d + 5 + 5) 21 2 [(0, .ref 53), (1, .int pr), (2, .int k), (3, .int (Int32.ofNat b))] (zmk H (yjo (yjo J 54 s.1) 55 s.2) X) = some (.inr none, zmk H' (yjo (yjo J 54 (yall V C k pr j b s).1) 55 (yall V C k pr j b s).2) X) ∧ zfr8 [49, 50, 51, 52] [] H H' ∧ PWk H'
  | 0, b, H, s, hb, hC, hW => by
    have hb : b = nv (V 61 7) := by omega
    have hF := hB.2.2.1
    have n7 := nv_int hF.2.2.1.2.1
    have h24 := hF.2.2.1.2.2
    have e9 : H 9 2 = Int32.ofNat b := by rw [hC.1 9 (by decide) (by decide), hF.2.2.1.1, hb, nv_of hF.2.2.1.2.1]
    refine ⟨H, ?_, zfr8_rfl, hW⟩
    rw [zgo_q, S21_2 xs L (d + 5), e9, if_pos (decide_eq_true ((nat_le (by omega) (by omega)).mpr (Nat.le_refl _)))]
    rfl
  | j + 1, b, H, s, hb, hC, hW => by
    have hF := hB.2.2.1
    have n7 := nv_int hF.2.2.1.2.1
    have h24 := hF.2.2.1.2.2
    have e9 : H 9 2 = Int32.ofNat (nv (V 61 7)) := by rw [hC.1 9 (by decide) (by decide), hF.2.2.1.1, nv_of hF.2.2.1.2.1]
    obtain ⟨H1, a1, a2, a3, a4⟩ := start_y xs L (d + 5 + 5) (by omega) (yjo (yjo J 54 s.1) 55 s.2) X k (Int32.ofNat b) hB hC hW
    have hC1 := zCH_fr hC (zfr8_sub (S := [49, 50, 51, 52]) (T := []) a2 (fun b h => List.mem_append_left [51, 52] h) (fun _ h => h))
    have e14 : zat H1 14 24 (Int32.ofNat b) = V 72 b := by rw [zat_nat (by omega) (by omega), hC1.1 14 (by decide) (by decide), hF.2.2.2.2.2.2.2.1]
    have S := zgo_q xs L (d + 5 + 5) 21 2 [(0, .ref 53), (1, .int pr), (2, .int k), (3, .int (Int32.ofNat b))] (zmk H (yjo (yjo J 54 s.1) 55 s.2) X)
    rw [S21_2 xs L (d + 5), e9, if_neg (fun z => by
      have := (nat_le (by omega) (by omega)).mp (of_decide_eq_true z)
      omega), a1, zcw_v, T21_2_10_690 xs L (d + 5), e14] at S
    by_cases c : yask V pr b = true
    · have ey : yall V C k pr (j + 1) b s = yall V C k pr j (b + 1) (yaw V C k b (fun _ => 0) (ytk V k b) s) := by
        show yall V C k pr j (b + 1) (if yask V pr b = true then _ else _) = _
        rw [if_pos c]
      obtain ⟨H2, b1, b2, b3⟩ := add_loop xs L d J X k pr b _ hB hK hT (by omega) (ytk V k b) 0 (fun _ => 0) H1 s.1 s.2 a4 hC1 a3 (by
        have := ytk_len hB k b
        omega)
      have hC2 := zCH_fr hC1 b2
      obtain ⟨H', q1, q2, q3⟩ := all_loop xs L d J X k pr hB hK hT j (b + 1) H2 (yaw V C k b (fun _ => 0) (ytk V k b) s) (by omega) hC2 b3
      refine ⟨H', ?_, zfr8_tr (zfr8_tr (zfr8_sub a2 (fun b h => List.mem_append_left [51, 52] h) (fun _ h => h)) b2 (fun _ h => h) (fun _ h => h)) q2 (fun _ h => h) (fun _ h => h), q3⟩
      rw [ey]
      refine Eq.trans ?_ (b1.trans q1)
      rw [S]
      by_cases c1 : pr = -1
      · rw [if_pos (decide_eq_true c1), zth_go]
        rfl
      · have c2 : V 72 b = pr := (of_decide_eq_true c).resolve_left c1
        rw [if_neg (fun z => c1 (of_decide_eq_true z)), if_neg (fun z => (of_decide_eq_true z) c2), zth_go]
        rfl
    · have ey : yall V C k pr (j + 1) b s = yall V C k pr j (b + 1) s := by
        show yall V C k pr j (b + 1) (if yask V pr b = true then _ else _) = _
        rw [if_neg c]
      have c1 : ¬ pr = -1 := fun z => c (decide_eq_true (Or.inl z))
      have c2 : ¬ V 72 b = pr := fun z => c (decide_eq_true (Or.inr z))
      obtain ⟨H', q1, q2, q3⟩ := all_loop xs L d J X k pr hB hK hT j (b + 1) H1 s (by omega) hC1 (ZW_pw a4)
      refine ⟨H', ?_, zfr8_tr (zfr8_sub a2 (fun b h => List.mem_append_left [51, 52] h) (fun _ h => h)) q2 (fun _ h => h) (fun _ h => h), q3⟩
      rw [ey, S, if_neg (fun z => c1 (of_decide_eq_true z)), if_pos (decide_eq_true c2), zth_go, zgo_q, S21_8 xs L (d + 5), if_neg (by decide), if_pos (by decide), zth_go, nat_succ]
      exact q1
def yz27 (f : Nat → Int64) : Nat → Int64 := fun c => if c < 27 then 0 else f c
theorem lfill_y (xs : Nat → Int32) (L D a : Nat) (hD : 1 ≤ D) (H : Nat → Nat → Int32) (J : Nat → Nat → Int64) (X : XH) (ha : hK (zmk H J X) a = (2, 27)) : zev xs L D 235 [.ref a, .long (Int64.ofNat 0)] (zmk H J X) = some (.inr none, zmk H (yjo J a (yz27 (J a))) X) := by
  obtain ⟨d, rfl⟩ := Nat.exists_eq_add_of_le hD
  rw [Nat.add_comm 1 d, lfill_eq xs L d a 27 (Int64.ofNat 0) (zmk H J X) (by decide) ha]
  have e : zlfil (zmk H J X) a (Int64.ofNat 0) 0 27 = zmk H (yjo J a (yz27 (J a))) X := by
    unfold zlfil zmk yjo yz27
    refine Prod.ext rfl (Prod.ext (funext fun b => ?_) rfl)
    show (if b = a then _ else _) = (if b = a then _ else _)
    by_cases c : b = a
    · rw [if_pos c, if_pos c]
      funext x
      by_cases c2 : x < 27
      · rw [if_pos ⟨Nat.zero_le x, c2⟩, if_pos c2]
        rfl
      · rw [if_neg (fun z => c2 z.2), if_neg c2]
    · rw [if_neg c, if_neg c]
  rw [e]
/-- the sums of the class, once it has added up -/
noncomputable def ysum (V : Nat → Nat → Int32) (C : Nat → List (Bool × List Int32)) (k pr : Int32) (J : Nat → Nat → Int64) : (Nat → Int64) × (Nat → Int64) := yall V C k pr (nv (V 61 7)) 0 (yz27 (J 54), yz27 (J 55))
theorem addUp_c (xs : Nat → Int32) (L D : Nat) (hD : 11 ≤ D) {V H : Nat → Nat → Int32} (J : Nat → Nat → Int64) (X : XH) {C : Nat → List (Bool × List Int32)} (k pr : Int32) (hB : PB V) (hK : PBlk V) (hT : PTm V X C k) (hC : zCH V k H) (hW : PWk H) : ∃ H', zev xs L D 21 [.ref 53, .int pr, .int k] (zmk H J X) = some (.inr none, zmk H' (yjo (yjo J 54 (ysum V C k pr J).1) 55 (ysum V C k pr J).2) X) ∧ zfr8 [49, 50, 51, 52] [] H H' ∧ PWk H' := by
  obtain ⟨d, rfl⟩ := Nat.exists_eq_add_of_le hD
  rw [show 11 + d = d + 5 + 6 by omega]
  obtain ⟨H', q1, q2, q3⟩ := all_loop xs L d J X k pr hB hK hT (nv (V 61 7)) 0 H (yz27 (J 54), yz27 (J 55)) (Nat.zero_add _) hC hW
  refine ⟨H', ?_, q2, q3⟩
  refine (zcS (S21_0 xs L (d + 5) H J X pr k)).trans ?_
  rw [lfill_y xs L _ 54 (by omega) H J X rfl, zqv_v, T21_0_4_696 xs L (d + 5), lfill_y xs L _ 55 (by omega) H (yjo J 54 (yz27 (J 54))) X rfl, zqv_v, T21_0_8_692 xs L (d + 5), zth_go]
  exact q1
