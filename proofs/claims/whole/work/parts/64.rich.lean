/-! THE PURE PART: the model charges a track. -/
theorem zany_cg {p q : Nat → Bool} : ∀ (j i : Nat), (∀ o, i ≤ o → o < i + j → p o = q o) → zany p j i = zany q j i
  | 0, _, _ => rfl
  | j + 1, i, h => by
    show (p i || zany p j (i + 1)) = (q i || zany q j (i + 1))
    rw [h i (Nat.le_refl i) (by omega), zany_cg j (i + 1) (fun o h1 h2 => h o (by omega) (by omega))]
theorem near_M {V M : Nat → Nat → Int32} {k : Int32} (hM : yMH V k M) (r t k' : Int32) : znearM M r t k' = znearM V r t k' := by
  have row : ∀ c, 61 < c → c ≤ 121 → c ∉ [102, 103, 108, 109, 110, 111, 112, 113, 114, 115, 116, 117, 118] → M c = V c := hM.1
  unfold znearM zlandM znear zFm zOm zNm
  rw [row 65 (by decide) (by decide) (by decide), row 92 (by decide) (by decide) (by decide), row 93 (by decide) (by decide) (by decide), row 94 (by decide) (by decide) (by decide), row 97 (by decide) (by decide) (by decide), hM.2.1 54 (by decide)]
theorem dblM (xs : Nat → Int32) (L D : Nat) (hD : 7 ≤ D) {V M : Nat → Nat → Int32} (J : Nat → Nat → Int64) (X : XH) (k : Int32) (s : Nat) (hB : PB V) (hM : yMH V k M) (hs : s < nv (V 61 19)) : zev xs L D 194 [.ref 61, .int (Int32.ofNat s), .int k] (zmk M J X) = some (.inr (some (.int (if zDb V k s = true then 1 else 0))), zmk M J X) := by
  obtain ⟨s1, s2, s3, s4, s5, s6, s7⟩ := sig_ok hB k hs
  obtain ⟨hN, hL, hF, hS, hDi, hRd, hX⟩ := hB
  have n19 := nv_int hS.1.2.1
  have h300 := hS.1.2.2
  have row : ∀ c, 61 < c → c ≤ 121 → c ∉ [102, 103, 108, 109, 110, 111, 112, 113, 114, 115, 116, 117, 118] → M c = V c := hM.1
  have r2 := (rn_rg hS hDi hRd hL k s hs).2
  have e108 : M 108 s = zrnS V k s := hM.2.2.1 s hs
  have h24 := hF.2.2.1.2.2
  have hlM : nv (V 65 (nv (zrnS V k s))) < 9 := by
    have := nv_int r2.1
    omega
  have q := dbl_eq xs L D hD M J X k s (nv (V 61 19)) (by rw [hM.2.1 19 (by decide), nv_of hS.1.2.1]) (by omega) hs (fun q hq => by
    rw [row 74 (by decide) (by decide) (by decide)]
    have := (hS.2.2.1 q hq).1
    omega) (by rw [e108]; exact s1) (by
    rw [e108, row 65 (by decide) (by decide) (by decide)]
    exact r2) (by
    unfold zlandM
    rw [e108, row 65 (by decide) (by decide) (by decide), row 92 (by decide) (by decide) (by decide)]
    exact hX _ hlM)
  rw [q]
  have e : zany (fun o => decide (zdp M s (znearM M (M 108 s) (M 76 s) k) o)) (nv (V 61 19)) 0 = zDb V k s := by
    unfold zDb
    refine zany_cg _ _ (fun o _ ho => ?_)
    have ho : o < nv (V 61 19) := by omega
    have k108 : ∀ q, q < nv (V 61 19) → zKm V k 108 q = zrnS V k q := fun q hq => zpre_lt hq
    have k109 : ∀ q, q < nv (V 61 19) → zKm V k 109 q = zcfS V k q := fun q hq => zpre_lt hq
    have kn : ∀ r t, znearM (zKm V k) r t k = znearM V r t k := fun r t => rfl
    have k74 : zKm V k 74 = V 74 := rfl
    have k71 : zKm V k 71 = V 71 := rfl
    have k76 : zKm V k 76 = V 76 := rfl
    refine decide_eq_decide.mpr ?_
    unfold zdp
    rw [kn, near_M hM, k108 s hs, e108, k108 o ho, hM.2.2.1 o ho, k109 o ho, hM.2.2.2.1 o ho, k74, k71, k76, row 74 (by decide) (by decide) (by decide), row 71 (by decide) (by decide) (by decide), row 76 (by decide) (by decide) (by decide)]
  rw [e]
/-- a passage of the list as it is made -/
def yok (V : Nat → Nat → Int32) (k : Int32) (x : ZP) : Prop := zPok V x ∧ ((x.2.2.1 = -1 ∧ x.2.2.2 = false) ∨ ∃ s, s < nv (V 61 19) ∧ zcfS V k s = 1 ∧ x.2.2.1 = Int32.ofNat s ∧ x.2.2.2 = zDb V k s)
theorem zGs_ok {V : Nat → Nat → Int32} {c : Nat} : ∀ {g : List Nat} {a : Nat}, zGs V c a g → ∀ r, r ∈ g → r < nv (V 61 4)
  | [], _, _, r, hr => by cases hr
  | x :: g, a, h, r, hr => by
    obtain ⟨_, _, h3, _, _, h6⟩ := h
    rcases List.mem_cons.mp hr with e | e
    · rw [e]
      exact h3
    · exact zGs_ok h6 r e
theorem zbt_ok {V : Nat → Nat → Int32} (hB : PB V) (k : Int32) {s u : Nat} (hs : s < nv (V 61 19)) (hu : u < nv (V 61 19)) : ∀ r, r ∈ zbt V k s u → r < nv (V 61 4) := by
  intro r hr
  unfold zbt at hr
  obtain ⟨s1, s2, s3, s4, s5, s6, s7⟩ := sig_ok hB k hs
  obtain ⟨u1, u2, u3, u4, u5, u6, u7⟩ := sig_ok hB k hu
  by_cases c : (V 76 u - V 76 s).toInt ≤ 180 ∧ (V 8 (24 * zEn V k s + zBg V k u)).toInt < 1000000000
  · rw [if_pos c] at hr
    exact zGs_ok (ygl_len hB.2.2.2.2.2.1 u5.2 s4.2 c.2).1 r hr
  · rw [if_neg c] at hr
    cases hr
theorem zsp_ok {V : Nat → Nat → Int32} (hB : PB V) (k : Int32) {s : Nat} (hs : s < nv (V 61 19)) (hc : zcfS V k s = 1) : yok V k (zsp V k s) := by
  obtain ⟨s1, s2, s3, s4, s5, s6, s7⟩ := sig_ok hB k hs
  exact ⟨⟨s2, s6.1, s6.2⟩, Or.inr ⟨s, hs, hc, rfl, rfl⟩⟩
theorem zrw_ok {V : Nat → Nat → Int32} (hB : PB V) (k : Int32) : ∀ (l : List Nat) (o : Option Nat), (∀ q, o = some q → q < nv (V 61 19)) → (∀ s, s ∈ l → s < nv (V 61 19) ∧ zcfS V k s = 1) → ∀ x, x ∈ zrw V k o l → yok V k x
  | [], o, _, _, x, hx => by
    have e : zrw V k o [] = [] := by cases o <;> rfl
    rw [e] at hx
    cases hx
  | s :: l, o, ho, hl, x, hx => by
    have hs := hl s List.mem_cons_self
    have ih := zrw_ok hB k l (some s) (fun q hq => by cases hq; exact hs.1) (fun u hu => hl u (List.mem_cons_of_mem _ hu)) x
    have key : x ∈ zsp V k s :: zrw V k (some s) l → yok V k x := by
      intro h
      rcases List.mem_cons.mp h with e | e
      · rw [e]
        exact zsp_ok hB k hs.1 hs.2
      · exact ih e
    cases o with
    | none => exact key hx
    | some q =>
      have hx : x ∈ (zbt V k q s).map (zgp (V 76 q)) ++ (zsp V k s :: zrw V k (some s) l) := hx
      rcases List.mem_append.mp hx with h | h
      · obtain ⟨r, hr, e⟩ := List.mem_map.mp h
        have hq := ho q rfl
        have hrr := zbt_ok hB k hq hs.1 r hr
        obtain ⟨s1, s2, s3, s4, s5, s6, s7⟩ := sig_ok hB k hq
        rw [← e]
        exact ⟨⟨hrr, s6.1, s6.2⟩, Or.inl ⟨rfl, rfl⟩⟩
      · exact key h
/-- what the model has worked out of a track's passages, from place i on, G gone ahead -/
def yric (V : Nat → Nat → Int32) (C : Nat → List (Bool × List Int32)) (k : Int32) (b : Nat) (M : Nat → Nat → Int32) : Nat → (Nat → Int32) → List ZP → Prop
  | _, _, [] => True
  | i, G, x :: l => (M 118 i = (if x.2.2.2 = true then 1 else 0) ∧ M 116 i = G (zcell V x) ∧ M 115 i = ych V C k b x (G (zcell V x))) ∧ yric V C k b M (i + 1) (zgn V x G) l
theorem yric_cg {V : Nat → Nat → Int32} {C : Nat → List (Bool × List Int32)} {k : Int32} {b : Nat} {M N : Nat → Nat → Int32} (hRd : PRoad V) (hL : PLand V) : ∀ {l : List ZP} {i : Nat} {G G' : Nat → Int32}, (∀ x, x ∈ l → zPok V x) → (∀ c, c < 27 → G c = G' c) → (∀ j, i ≤ j → j < i + l.length → N 118 j = M 118 j ∧ N 116 j = M 116 j ∧ N 115 j = M 115 j) → yric V C k b M i G l → yric V C k b N i G' l
  | [], _, _, _, _, _, _, _ => trivial
  | x :: l, i, G, G', hx, hG, h, a => by
    have h1 : (x :: l).length = l.length + 1 := List.length_cons
    have hc := (zcell_ok hRd hL (hx x List.mem_cons_self)).1
    obtain ⟨g1, g2, g3⟩ := h i (Nat.le_refl i) (by omega)
    refine ⟨⟨g1.trans a.1.1, ?_, ?_⟩, yric_cg hRd hL (fun y hy => hx y (List.mem_cons_of_mem _ hy)) (fun c hc' => ?_) (fun j h2 h3 => h j (by omega) (by omega)) a.2⟩
    · rw [g2, a.1.2.1, hG _ hc]
    · rw [g3, a.1.2.2, hG _ hc]
    · unfold zgn
      by_cases d : x.2.2.2 = true
      · rw [if_pos d, if_pos d]
        exact hG c hc'
      · rw [if_neg d, if_neg d]
        unfold zset
        rw [hG _ hc, hG c hc']
theorem yMH_r {V M M' : Nat → Nat → Int32} {k : Int32} (h : yMH V k M) (f : zfr8 [102, 103, 115, 116, 117, 118] [] M M') : yMH V k M' := yMH_fr h (zfr8_sub f (fun b hb => by
  simp only [List.mem_cons, List.not_mem_nil, or_false] at hb ⊢
  omega) (fun b hb => by cases hb))
/-- one passage is charged: what the heap holds behind it -/
def yone (V : Nat → Nat → Int32) (C : Nat → List (Bool × List Int32)) (k : Int32) (b p : Nat) (x : ZP) (M M3 : Nat → Nat → Int32) : Prop := zfr8 [102, 103, 115, 116, 117, 118] [] M M3 ∧ (∀ j, j < p → M3 118 j = M 118 j ∧ M3 116 j = M 116 j ∧ M3 115 j = M 115 j) ∧ M3 118 p = (if x.2.2.2 = true then 1 else 0) ∧ M3 116 p = M 117 (zcell V x) ∧ M3 115 p = ych V C k b x (M 117 (zcell V x)) ∧ ∀ c, c < 27 → M3 117 c = zgn V x (M 117) c
theorem one_0 (xs : Nat → Int32) (L D : Nat) (hD : 9 ≤ D) {V M : Nat → Nat → Int32} (J : Nat → Nat → Int64) (X : XH) {C : Nat → List (Bool × List Int32)} (k : Int32) (b p : Nat) (x : ZP) (hB : PB V) (hM : yMH V k M) {Y : XH} (hT : PTm V Y C k) (hx : zPok V x) (hb : b < nv (V 61 7)) (hp : p < 8000) (h112 : M 112 p = Int32.ofNat x.1) (h113 : M 113 p = x.2.1) (h114 : M 114 p = x.2.2.1) (hd : x.2.2.2 = false) : ∃ ch M2, zev xs L D 195 [.ref 61, .int (Int32.ofNat b), .int (Int32.ofNat p), .int k] (zmk (zup (zup M 118 p 0) 116 p (M 117 (zcell V x))) J X) = some (.inr (some (.int ch)), zmk M2 J X) ∧ M2 118 p = 0 ∧ M2 117 (zcell V x) = M 117 (zcell V x) ∧ M2 66 x.1 = V 66 x.1 ∧ yone V C k b p x M (zup (zup M2 115 p ch) 117 (zcell V x) (M 117 (zcell V x) + V 66 x.1)) := by
  have hc := (zcell_ok hB.2.2.2.2.2.1 hB.2.1 hx).1
  have fr : zfr8 [102, 103, 115, 116, 117, 118] [] M (zup (zup M 118 p 0) 116 p (M 117 (zcell V x))) := zfr8_up (zfr8_up zfr8_rfl (by decide) (by decide)) (by decide) (by decide)
  obtain ⟨M2, q1, q2⟩ := charge_m xs L D hD J X k b p x (M 117 (zcell V x)) hB (yMH_r hM fr) hT hx hb hp h112 h113 h114 zup_at (by rw [hd]; decide)
  have r118 : M2 118 = zup M 118 p 0 118 := q2.1 118 (by decide) (by decide)
  have r117 : M2 117 = M 117 := q2.1 117 (by decide) (by decide)
  have r116 : M2 116 = zup (zup M 118 p 0) 116 p (M 117 (zcell V x)) 116 := q2.1 116 (by decide) (by decide)
  have r115 : M2 115 = M 115 := q2.1 115 (by decide) (by decide)
  have r66 : M2 66 = M 66 := q2.1 66 (by decide) (by decide)
  refine ⟨_, M2, q1, by rw [r118]; exact zup_at, by rw [r117], by rw [r66, hM.1 66 (by decide) (by decide) (by decide)], zfr8_up (zfr8_up (zfr8_tr fr q2 (fun b hb => List.mem_append_left [115, 116, 117, 118] hb) (fun _ h => h)) (by decide) (by decide)) (by decide) (by decide), fun j hj => ⟨?_, ?_, ?_⟩, ?_, ?_, ?_, fun c _ => ?_⟩
  · show M2 118 j = _
    rw [r118]
    exact zup_k (by omega)
  · show M2 116 j = _
    rw [r116]
    exact zup_k (by omega)
  · show zup M2 115 p _ 115 j = _
    rw [zup_k (by omega), r115]
  · show M2 118 p = _
    rw [r118, hd]
    exact zup_at
  · show M2 116 p = _
    rw [r116]
    exact zup_at
  · show zup M2 115 p _ 115 p = _
    exact zup_at
  · show (if c = zcell V x then _ else M2 117 c) = _
    unfold zgn
    rw [if_neg (show ¬ x.2.2.2 = true by rw [hd]; decide), r117]
    rfl
theorem one_1 {V M : Nat → Nat → Int32} {C : Nat → List (Bool × List Int32)} (k : Int32) (b p : Nat) (x : ZP) (hd : x.2.2.2 = true) : yone V C k b p x M (zup (zup (zup (zup M 118 p 1) 116 p (M 117 (zcell V x))) 115 p 0) 117 (zcell V x) (M 117 (zcell V x) + 0)) := by
  refine ⟨zfr8_up (zfr8_up (zfr8_up (zfr8_up zfr8_rfl (by decide) (by decide)) (by decide) (by decide)) (by decide) (by decide)) (by decide) (by decide), fun j hj => ⟨?_, ?_, ?_⟩, ?_, ?_, ?_, fun c _ => ?_⟩
  · show zup M 118 p 1 118 j = _
    exact zup_k (by omega)
  · show zup (zup M 118 p 1) 116 p _ 116 j = _
    exact zup_k (by omega)
  · show zup (zup (zup M 118 p 1) 116 p _) 115 p 0 115 j = _
    exact zup_k (by omega)
  · show zup M 118 p 1 118 p = _
    rw [zup_at, if_pos hd]
  · show zup (zup M 118 p 1) 116 p _ 116 p = _
    exact zup_at
  · show zup (zup (zup M 118 p 1) 116 p _) 115 p 0 115 p = _
    rw [zup_at]
    unfold ych
    rw [if_pos hd]
  · show (if c = zcell V x then M 117 (zcell V x) + 0 else M 117 c) = _
    unfold zgn
    rw [if_pos hd, Int32.add_zero]
    by_cases e : c = zcell V x
    · rw [if_pos e, e]
    · rw [if_neg e]
theorem rich_loop (xs : Nat → Int32) (L d : Nat) {V : Nat → Nat → Int32} (J : Nat → Nat → Int64) (X : XH) {C : Nat → List (Bool × List Int32)} (k : Int32) (b n : Nat) (hB : PB V) {Y : XH} (hT : PTm V Y C k) (hb : b < nv (V 61 7)) (hn : n < 8000) : ∀ (r : List ZP) (p : Nat) (M : Nat → Nat → Int32), p + r.length = n → yMH V k M → M 61 76 = Int32.ofNat n → yr3 M p r → (∀ x, x ∈ r → yok V k x) → ∃ M', zgo xs L (d + 4 + 5) 193 5 [(0, .ref 61), (1, .int (Int32.ofNat b)), (2, .int k), (3, .int (Int32.ofNat p))] (zmk M J X) = some (.inr none, zmk M' J X) ∧ yric V C k b M' p (M 117) r ∧ zfr8 [102, 103, 115, 116, 117, 118] [] M M' ∧ ∀ j, j < p → M' 118 j = M 118 j ∧ M' 116 j = M 116 j ∧ M' 115 j = M 115 j
  | [], p, M, hp, hM, h76, _, _ => by
    have hp : p = n := hp
    refine ⟨M, ?_, trivial, zfr8_rfl, fun j _ => ⟨rfl, rfl, rfl⟩⟩
    rw [zgo_q, S193_5 xs L (d + 4), h76, hp, if_pos (decide_eq_true ((nat_le (by omega) (by omega)).mpr (Nat.le_refl _)))]
    rfl
  | x :: r, p, M, hp, hM, h76, hr, hok => by
    have hlen : (x :: r).length = r.length + 1 := List.length_cons
    obtain ⟨⟨h112, h113, h114⟩, hr2⟩ := hr
    obtain ⟨hx, hxd⟩ := hok x List.mem_cons_self
    have hB0 := hB
    obtain ⟨hN, hL, hF, hS, hDi, hRd, hX⟩ := hB
    obtain ⟨c1, c2, _, c4⟩ := zcell_ok hRd hL hx
    have hx1 := hx.1
    have h40 := hRd.1.2.2
    have n4 := nv_int hRd.1.2.1
    have zp : zix 0 8000 0 (Int32.ofNat p) := zix_nat rfl (by omega) (by omega)
    have zp1 : zix 1 8000 1 (Int32.ofNat p) := zix_nat rfl (by omega) (by omega)
    have zr : zix 0 40 0 (Int32.ofNat x.1) := zix_nat rfl (by omega) (by omega)
    have zc : zix 0 27 0 (Int32.ofNat (zcell V x)) := zix_nat rfl c1 (by omega)
    have e112 : M 112 (Int32.ofNat p).toNatClampNeg = Int32.ofNat x.1 := by
      rw [i32_clamp (by omega)]
      exact h112
    have e113 : M 113 (Int32.ofNat p).toNatClampNeg = x.2.1 := by
      rw [i32_clamp (by omega)]
      exact h113
    have e114 : M 114 (Int32.ofNat p).toNatClampNeg = x.2.2.1 := by
      rw [i32_clamp (by omega)]
      exact h114
    have e65 : M 65 (Int32.ofNat x.1).toNatClampNeg = V 65 x.1 := by
      rw [i32_clamp (by omega), hM.1 65 (by decide) (by decide) (by decide)]
    have zr' : zix 0 40 0 (M 112 (Int32.ofNat p).toNatClampNeg) := by
      rw [e112]
      exact zr
    have zc' : zix 0 27 0 ((3 : Int32) * M 65 (M 112 (Int32.ofNat p).toNatClampNeg).toNatClampNeg + M 113 (Int32.ofNat p).toNatClampNeg / (43200 : Int32)) := by
      rw [e112, e113, e65, c4]
      exact zc
    -- one passage, then the rest
    have rest : ∀ M3, yone V C k b p x M M3 → ∃ M', zgo xs L (d + 4 + 5) 193 5 [(0, .ref 61), (1, .int (Int32.ofNat b)), (2, .int k), (3, .int (Int32.ofNat (p + 1)))] (zmk M3 J X) = some (.inr none, zmk M' J X) ∧ yric V C k b M' p (M 117) (x :: r) ∧ zfr8 [102, 103, 115, 116, 117, 118] [] M M' ∧ ∀ j, j < p → M' 118 j = M 118 j ∧ M' 116 j = M 116 j ∧ M' 115 j = M 115 j := by
      intro M3 ⟨o1, o2, o3, o4, o5, o6⟩
      obtain ⟨M', q1, q2, q3, q4⟩ := rich_loop xs L d J X k b n hB0 hT hb hn r (p + 1) M3 (by omega) (yMH_r hM o1) (by rw [o1.2 76 (by decide)]; exact h76) (yr3_cg (M := M) (fun j _ _ => ⟨by rw [o1.1 112 (by decide) (by decide)], by rw [o1.1 113 (by decide) (by decide)], by rw [o1.1 114 (by decide) (by decide)]⟩) hr2) (fun y hy => hok y (List.mem_cons_of_mem _ hy))
      obtain ⟨w1, w2, w3⟩ := q4 p (by omega)
      refine ⟨M', q1, ⟨⟨by rw [w1]; exact o3, by rw [w2]; exact o4, by rw [w3]; exact o5⟩, yric_cg hRd hL (fun y hy => (hok y (List.mem_cons_of_mem _ hy)).1) o6 (fun j _ _ => ⟨rfl, rfl, rfl⟩) q2⟩, zfr8_tr o1 q3 (fun _ h => h) (fun _ h => h), fun j hj => ?_⟩
      obtain ⟨v1, v2, v3⟩ := q4 j (by omega)
      obtain ⟨t1, t2, t3⟩ := o2 j hj
      exact ⟨v1.trans t1, v2.trans t2, v3.trans t3⟩
    have S := zgo_q xs L (d + 4 + 5) 193 5 [(0, .ref 61), (1, .int (Int32.ofNat b)), (2, .int k), (3, .int (Int32.ofNat p))] (zmk M J X)
    rw [S193_5 xs L (d + 4), h76, if_neg (fun z => by
      have := (nat_le (by omega) (by omega)).mp (of_decide_eq_true z)
      omega), if_pos zp, if_pos zr', if_pos zp, if_pos zp, e114] at S
    by_cases cg : x.2.2.1 = -1
    · have hd : x.2.2.2 = false := by
        rcases hxd with h | ⟨s, s1, _, s3, _⟩
        · exact h.2
        · have := hS.1.2.2
          have := nv_int hS.1.2.1
          rw [s3] at cg
          exact absurd cg (nat_m1 (by omega))
      obtain ⟨ch, M2, q1, q2, q3, q4, q5⟩ := one_0 xs L (d + 4 + 5) (by omega) J X k b p x hB0 hM hT hx hb (by omega) h112 h113 h114 hd
      obtain ⟨M', a1, a2⟩ := rest _ q5
      refine ⟨M', ?_, a2⟩
      have z118 : zup M 118 (Int32.ofNat p).toNatClampNeg (vp_nar .boolean (0 : Int32)) 118 (Int32.ofNat p).toNatClampNeg = 0 := by
        rw [zup_at]
        exact vpb0
      rw [if_pos (decide_eq_true cg), if_pos zp1, if_pos zc', if_pos zp, if_pos zp1, if_pos (decide_eq_true z118), vpb0, e112, e113, e65, c4, i32_clamp (n := p) (by omega), i32_clamp (n := zcell V x) (by omega), q1, zci_i, T193_9_5_644 xs L (d + 4), if_pos zp, if_pos zc, if_pos zp1, i32_clamp (n := p) (by omega), if_pos (decide_eq_true q2), if_pos zr, if_pos zc, i32_clamp (n := x.1) (by omega), i32_clamp (n := zcell V x) (by omega), q3, q4, zth_go, nat_succ] at S
      exact S.trans a1
    · obtain ⟨s, s1, s2, s3, s4⟩ := hxd.resolve_left (fun z => cg z.1)
      have hdb := dblM xs L (d + 4 + 5) (by omega) J X k s hB0 hM s1
      rw [← s3, ← s4] at hdb
      rw [if_neg (fun z => cg (of_decide_eq_true z)), if_pos zp, hdb, zci_i, T193_5_39_661 xs L (d + 4), e112, e113, e65, c4] at S
      cases hd : x.2.2.2 with
      | false =>
        rw [hd] at S
        obtain ⟨ch, M2, q1, q2, q3, q4, q5⟩ := one_0 xs L (d + 4 + 5) (by omega) J X k b p x hB0 hM hT hx hb (by omega) h112 h113 h114 hd
        obtain ⟨M', a1, a2⟩ := rest _ q5
        refine ⟨M', ?_, a2⟩
        have z118 : zup M 118 (Int32.ofNat p).toNatClampNeg (vp_nar .boolean (0 : Int32)) 118 (Int32.ofNat p).toNatClampNeg = 0 := by
          rw [zup_at]
          exact vpb0
        rw [if_pos (by decide), if_pos zp1, if_pos zc, if_pos zp, if_pos zp1, if_pos (decide_eq_true z118), vpb0, i32_clamp (n := p) (by omega), i32_clamp (n := zcell V x) (by omega), q1, zci_i, T193_9_5_636 xs L (d + 4), if_pos zp, if_pos zc, if_pos zp1, i32_clamp (n := p) (by omega), if_pos (decide_eq_true q2), if_pos zr, if_pos zc, i32_clamp (n := x.1) (by omega), i32_clamp (n := zcell V x) (by omega), q3, q4, zth_go, nat_succ] at S
        exact S.trans a1
      | true =>
        rw [hd] at S
        obtain ⟨M', a1, a2⟩ := rest _ (one_1 (C := C) k b p x hd)
        refine ⟨M', ?_, a2⟩
        have z118 : ¬ zup M 118 (Int32.ofNat p).toNatClampNeg (vp_nar .boolean (1 : Int32)) 118 (Int32.ofNat p).toNatClampNeg = 0 := by
          rw [zup_at, vpb1]
          decide
        rw [if_neg (by decide), if_pos zp1, if_pos zc, if_pos zp, if_pos zp1, if_neg (fun z => z118 (of_decide_eq_true z)), if_pos zp, if_pos zc, if_pos zp1, if_neg (fun z => z118 (of_decide_eq_true z)), if_pos zc, vpb1, i32_clamp (n := p) (by omega), i32_clamp (n := zcell V x) (by omega), zth_go, nat_succ] at S
        exact S.trans a1
