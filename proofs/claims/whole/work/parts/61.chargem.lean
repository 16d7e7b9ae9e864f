/-! THE PURE PART: a passage's charge, as the model works it. -/
/-- the model's heap, as it knows the signals at k over the base V -/
def yMH (V : Nat → Nat → Int32) (k : Int32) (M : Nat → Nat → Int32) : Prop := (∀ b, 61 < b → b ≤ 121 → b ∉ [102, 103, 108, 109, 110, 111, 112, 113, 114, 115, 116, 117, 118] → M b = V b) ∧ (∀ j, j ∉ [1, 76, 77] → M 61 j = V 61 j) ∧ (∀ s, s < nv (V 61 19) → M 108 s = zrnS V k s) ∧ (∀ s, s < nv (V 61 19) → M 109 s = zcfS V k s) ∧ zOKT (zed V (nv (V 61 4))) 268435456 (tb (M 110))
theorem yMH_fr {V M M' : Nat → Nat → Int32} {k : Int32} (h : yMH V k M) (f : zfr8 [102, 103, 111, 112, 113, 114, 115, 116, 117, 118] [76, 77] M M') : yMH V k M' := by
  obtain ⟨h1, h2, h3, h4, h5⟩ := h
  refine ⟨fun b b1 b2 b3 => ?_, fun j hj => ?_, fun s hs => ?_, fun s hs => ?_, ?_⟩
  · rw [f.1 b (fun z => b3 (by
      simp only [List.mem_cons, List.not_mem_nil, or_false] at z ⊢
      omega)) (by omega)]
    exact h1 b b1 b2 b3
  · rw [f.2 j (fun z => hj (List.mem_cons_of_mem _ z))]
    exact h2 j hj
  · rw [f.1 108 (by decide) (by decide)]
    exact h3 s hs
  · rw [f.1 109 (by decide) (by decide)]
    exact h4 s hs
  · rw [f.1 110 (by decide) (by decide)]
    exact h5
def zmf (val : Nat → Int32) (wo : Int32) : Option (List Int32) → List (Bool × List Int32) → Int32
  | none, [] => wo
  | some l, [] => zmx 0 (zmn 99999 (zvl val l))
  | o, (b, l) :: r => if b = true then zmf val wo (some l) r else if zvl val l = 0 then zmf val wo o r else 0
theorem zmf_chg (val : Nat → Int32) (wo : Int32) : ∀ (r : List (Bool × List Int32)) (o : Option (List Int32)), zmf val wo o r = zchg val (match o with
    | none => wo
    | some l => zmx 0 (zmn 99999 (zvl val l))) r
  | [], none => rfl
  | [], some l => rfl
  | (b, l) :: r, o => by
    have e1 := zmf_chg val wo r (some l)
    have e2 := zmf_chg val wo r o
    cases o with
    | none =>
      show (if b = true then zmf val wo (some l) r else if zvl val l = 0 then zmf val wo none r else 0) = _
      rw [e1, e2]
      rfl
    | some q =>
      show (if b = true then zmf val wo (some l) r else if zvl val l = 0 then zmf val wo (some q) r else 0) = _
      rw [e1, e2]
      rfl
theorem zMc_eq {V M : Nat → Nat → Int32} (h98 : M 98 = V 98) (h99 : M 99 = V 99) (h100 : M 100 = V 100) (h101 : M 101 = V 101) (x : Nat) : ∀ (r : List (Bool × List Int32)) (i p : Nat), zMc V x i p r → zMc M x i p r
  | [], _, _, h => h
  | (b, l) :: r, i, p, h => by
    obtain ⟨a1, a2, a3, a4, a5⟩ := h
    exact ⟨by rw [h98]; exact a1, by rw [h99]; exact a2, by rw [h100]; exact a3, by rw [h101]; exact a4, zMc_eq h98 h99 h100 h101 x r _ _ a5⟩
theorem zMc_le {V : Nat → Nat → Int32} {x : Nat} : ∀ (r : List (Bool × List Int32)) (i p : Nat), zMc V x i p r → p ≤ 640
  | [], _, _, h => h
  | (b, l) :: r, i, p, h => by
    have := zMc_le r _ _ h.2.2.2.2
    omega
/-- a clause lies at place cc of text x -/
def zMo (M : Nat → Nat → Int32) (x cc : Nat) (l : List Int32) : Prop := cc < 592 ∧ ∃ b, (640 : Int32) * Int32.ofNat x + M 99 cc = Int32.ofNat b ∧ (640 : Int32) * Int32.ofNat x + M 100 cc = Int32.ofNat (b + (zmcs l).length) ∧ b + (zmcs l).length ≤ 23680 ∧ zrow (M 101) b (zmcs l) ∧ zrp 40 0 l 1
theorem n640 (x p : Nat) : (640 : Int32) * Int32.ofNat x + Int32.ofNat p = Int32.ofNat (640 * x + p) := by
  show Int32.ofNat 640 * Int32.ofNat x + Int32.ofNat p = _
  rw [nat_mul, nat_add]
theorem n16 (x p : Nat) : (16 : Int32) * Int32.ofNat x + Int32.ofNat p = Int32.ofNat (16 * x + p) := by
  show Int32.ofNat 16 * Int32.ofNat x + Int32.ofNat p = _
  rw [nat_mul, nat_add]
theorem run_k (xs : Nat → Int32) (L d : Nat) (M : Nat → Nat → Int32) (J : Nat → Nat → Int64) (X : XH) (a1 a2 a3 : Int32) (rd x n : Nat) (hrd : rd < 40) (hx : x < 37) (h95 : M 95 x = Int32.ofNat n) (hn : n ≤ 16) : ∀ (r : List (Bool × List Int32)) (i p : Nat) (tl : Int32) (o : Option (List Int32)) (f : Nat → Int32), zMc M x i p r → i + r.length = n → (∀ c, c ∈ r → zrp 40 0 c.2 1) → ((tl = -1 ∧ o = none) ∨ ∃ cc l, tl = Int32.ofNat cc ∧ o = some l ∧ zMo M x cc l) → ∃ f', zgo xs L (d + 2 + 5) 195 5 [(0, .ref 61), (1, .int a1), (2, .int a2), (3, .int a3), (4, .int (Int32.ofNat rd)), (5, .int (Int32.ofNat x)), (6, .int tl), (7, .int (Int32.ofNat i))] (zmk (zov M 103 f) J X) = some (.inr (some (.int (zmf (M 102) ((10 : Int32) * M 66 rd) o r))), zmk (zov M 103 f') J X)
  | [], i, p, tl, o, f, _, hi, _, ht => by
    have hi : i = n := hi
    subst hi
    have z37 : zix 0 37 0 (Int32.ofNat x) := zix_nat rfl hx (by omega)
    have z40 : zix 0 40 0 (Int32.ofNat rd) := zix_nat rfl hrd (by omega)
    have e95 : zov M 103 f 95 (Int32.ofNat x).toNatClampNeg = Int32.ofNat i := by
      rw [i32_clamp (by omega)]
      exact h95
    rw [zgo_q, S195_5 xs L (d + 2), if_pos z37, e95, if_pos (decide_eq_true ((nat_le (by omega) (by omega)).mpr (Nat.le_refl _)))]
    rcases ht with ⟨e1, e2⟩ | ⟨cc, l, e1, e2, hcc, b, b1, b2, b3, b4, b5⟩
    · subst e1 e2
      rw [if_neg (by decide), if_pos z40, i32_clamp (n := rd) (by omega)]
      exact ⟨f, rfl⟩
    · subst e1 e2
      obtain ⟨f', q⟩ := worked_eq xs L (d + 2 + 5) (by omega) (zov M 103 f) J X x cc b l hx hcc b1 b2 b3 b4 b5
      rw [zov_zov] at q
      rw [if_pos (decide_eq_true (show ¬ Int32.ofNat cc = -1 from nat_m1 (by omega))), q, zci_i, T195_9_6_685 xs L (d + 2)]
      exact ⟨f', rfl⟩
  | (bb, l) :: r, i, p, tl, o, f, hm, hi, hz, ht => by
    have hl : ((bb, l) :: r).length = r.length + 1 := List.length_cons
    obtain ⟨a98, a99, a100, a101, am⟩ := hm
    have hp := zMc_le r _ _ am
    have z37 : zix 0 37 0 (Int32.ofNat x) := zix_nat rfl hx (by omega)
    have z592 : zix 0 592 0 (Int32.ofNat (16 * x + i)) := zix_nat rfl (by omega) (by omega)
    have e95 : zov M 103 f 95 (Int32.ofNat x).toNatClampNeg = Int32.ofNat n := by
      rw [i32_clamp (by omega)]
      exact h95
    have e98 : zov M 103 f 98 (Int32.ofNat (16 * x + i)).toNatClampNeg = if bb = true then 0 else 1 := by
      rw [i32_clamp (by omega)]
      exact a98
    have hz1 := hz (bb, l) List.mem_cons_self
    have hmo : zMo M x (16 * x + i) l := ⟨by omega, 640 * x + p, by rw [a99, n640], by rw [a100, n640, Nat.add_assoc], by omega, a101, hz1⟩
    rw [zgo_q, S195_5 xs L (d + 2), if_pos z37, e95, if_neg (fun z => by
      have := (nat_le (by omega) (by omega)).mp (of_decide_eq_true z)
      omega), n16, if_pos z592]
    have ih := fun tl' o' f' => run_k xs L d M J X a1 a2 a3 rd x n hrd hx h95 hn r (i + 1) (p + (zmcs l).length) tl' o' f' am (by omega) (fun c hc => hz c (List.mem_cons_of_mem _ hc))
    have hd : zmf (M 102) ((10 : Int32) * M 66 rd) o ((bb, l) :: r) = if bb = true then zmf (M 102) ((10 : Int32) * M 66 rd) (some l) r else if zvl (M 102) l = 0 then zmf (M 102) ((10 : Int32) * M 66 rd) o r else 0 := by
      cases o <;> rfl
    rw [hd]
    cases bb with
    | true =>
      have e98 : zov M 103 f 98 (Int32.ofNat (16 * x + i)).toNatClampNeg = 0 := e98
      rw [e98, if_neg (by decide), zth_go, nat_succ, if_pos rfl]
      exact ih _ _ f (Or.inr ⟨16 * x + i, l, rfl, rfl, hmo⟩)
    | false =>
      obtain ⟨hcc, b, b1, b2, b3, b4, b5⟩ := hmo
      obtain ⟨f', q⟩ := worked_eq xs L (d + 2 + 5) (by omega) (zov M 103 f) J X x (16 * x + i) b l hx hcc b1 b2 b3 b4 b5
      rw [zov_zov] at q
      have q : zev xs L (d + 2 + 5) 196 [.ref 61, .int (Int32.ofNat x), .int (Int32.ofNat (16 * x + i))] (zmk (zov M 103 f) J X) = some (.inr (some (.int (zvl (M 102) l))), zmk (zov M 103 f') J X) := q
      have e98 : zov M 103 f 98 (Int32.ofNat (16 * x + i)).toNatClampNeg = 1 := e98
      rw [e98, if_pos (by decide), q, zci_i, T195_7_4_679 xs L (d + 2), if_neg (show ¬ false = true by decide)]
      by_cases c : zvl (M 102) l = 0
      · rw [if_pos (decide_eq_true c), if_pos c, zth_go, nat_succ]
        exact ih tl o f' ht
      · rw [if_neg (fun z => c (of_decide_eq_true z)), if_neg c]
        exact ⟨f', rfl⟩
theorem zxo_idx {l m : Nat} (hl : l < 9) (hm : m ≤ 4) (j : Nat) : zxo l m (some j) = Int32.ofNat (zidx l m j) := by
  unfold zidx
  show (if j < m then Int32.ofNat (4 * l + j) else 36) = _
  by_cases c : j < m
  · rw [if_pos c, if_pos c]
  · rw [if_neg c, if_neg c]
    rfl
theorem charge_m (xs : Nat → Int32) (L D : Nat) (hD : 9 ≤ D) {V M : Nat → Nat → Int32} (J : Nat → Nat → Int64) (X : XH) {C : Nat → List (Bool × List Int32)} (k : Int32) (b p : Nat) (x : ZP) (g : Int32) (hB : PB V) (hM : yMH V k M) {Y : XH} (hT : PTm V Y C k) (hx : zPok V x) (hb : b < nv (V 61 7)) (hp : p < 8000) (h112 : M 112 p = Int32.ofNat x.1) (h113 : M 113 p = x.2.1) (h114 : M 114 p = x.2.2.1) (h116 : M 116 p = g) (hd : ¬ x.2.2.2 = true) : ∃ M', zev xs L D 195 [.ref 61, .int (Int32.ofNat b), .int (Int32.ofNat p), .int k] (zmk M J X) = some (.inr (some (.int (ych V C k b x g))), zmk M' J X) ∧ zfr8 [102, 103] [] M M' := by
  obtain ⟨d, rfl⟩ := Nat.exists_eq_add_of_le hD
  rw [show 9 + d = d + 3 + 6 by omega]
  obtain ⟨hN, hL, hF, hS, hDi, hRd, hX⟩ := hB
  unfold ych
  rw [if_neg hd]
  have hx1 := hx.1
  have h40 := hRd.1.2.2
  have n4 := nv_int hRd.1.2.1
  have q65 := (hRd.2.2.1 x.1 hx1).2.2.1
  have n65 := nv_int q65.1
  have l9 := hL.2.2
  have n7 := nv_int hF.2.2.1.2.1
  have h24 := hF.2.2.1.2.2
  obtain ⟨q71, _, _⟩ := hF.2.2.2.2.2.2.2.2.2 b hb
  have n71 := nv_int q71.1
  have l16 := hF.2.1.2.2
  have row : ∀ c, 61 < c → c ≤ 121 → c ∉ [102, 103, 108, 109, 110, 111, 112, 113, 114, 115, 116, 117, 118] → M c = V c := hM.1
  have hl9 : nv (V 65 x.1) < 9 := by omega
  obtain ⟨hm0, hm4⟩ := hX _ hl9
  have nm := nv_int hm0
  obtain ⟨l, hl⟩ : ∃ l, l = nv (V 65 x.1) := ⟨_, rfl⟩
  obtain ⟨m, hm⟩ : ∃ m, m = nv (V 92 l) := ⟨_, rfl⟩
  have e92 : M 92 l = Int32.ofNat m := by
    rw [row 92 (by decide) (by decide) (by decide), hm, hl, nv_of hm0]
  have hm5 : m ≤ 4 := by
    rw [hm, hl]
    omega
  have hte := terms_eq xs L (d + 3 + 5) (by omega) M J X l m x.2.1 k (by omega) (by omega) e92
  have eF : zFm M l m = zFm V l m := by
    unfold zFm
    rw [row 93 (by decide) (by decide) (by decide)]
  have eO : zOm M l m k = zOm V l m k := by
    unfold zOm
    rw [row 94 (by decide) (by decide) (by decide)]
  have eN : zNm M l m = zNm V l m := by
    unfold zNm
    rw [hM.2.1 54 (by decide)]
  rw [eF, eO, eN] at hte
  have zp : zix 0 8000 0 (Int32.ofNat p) := zix_nat rfl hp (by omega)
  have zr : zix 0 40 0 (Int32.ofNat x.1) := zix_nat rfl (by omega) (by omega)
  have zb : zix 0 24 0 (Int32.ofNat b) := zix_nat rfl (by omega) (by omega)
  have e71 : M 71 = V 71 := row 71 (by decide) (by decide) (by decide)
  have zlo : zix 0 16 0 (M 71 (Int32.ofNat b).toNatClampNeg) := by
    rw [i32_clamp (by omega), e71]
    exact zix_of rfl q71.1 (by omega)
  have S := zcS (as := [.ref 61, .int (Int32.ofNat b), .int (Int32.ofNat p), .int k]) (S195_0 xs L (d + 3) M J X (Int32.ofNat b) (Int32.ofNat p) k)
  have e65 : M 65 (Int32.ofNat x.1).toNatClampNeg = Int32.ofNat l := by
    rw [i32_clamp (by omega), row 65 (by decide) (by decide) (by decide), hl, nv_of q65.1]
  have zr' : zix 0 40 0 (M 112 (Int32.ofNat p).toNatClampNeg) := by
    rw [i32_clamp (by omega), h112]
    exact zr
  rw [if_pos zp, if_pos zr', if_pos zp, i32_clamp (n := p) (by omega), h112, e65, h113, hte, zci_i] at S
  rw [← hl, ← hm]
  cases hb2 : zbst (zFm V l m) (zOm V l m k) x.2.1 k (zNm V l m) with
  | none =>
    rw [hb2] at S
    have e : zxo l m none = -1 := rfl
    rw [T195_pos xs L (d + 3) M J X _ _ _ _ _ e zr, i32_clamp (n := x.1) (by omega), row 66 (by decide) (by decide) (by decide)] at S
    exact ⟨M, S, zfr8_rfl⟩
  | some j =>
    have hj := zbst_lt hb2
    rw [hb2, zxo_idx (by omega) (by omega)] at S
    have hxi : zidx l m j < 37 := by
      unfold zidx
      split <;> omega
    obtain ⟨y, hy⟩ : ∃ y, y = zidx l m j := ⟨_, rfl⟩
    dsimp only
    rw [← hy] at S hxi ⊢
    obtain ⟨w, hw⟩ : ∃ w : Nat → Int32, w = zvv V b x g := ⟨_, rfl⟩
    have zv : ∀ n v, w n = v → zup (zov M 102 (zwv (M 102) w n)) 102 n v = zov M 102 (zwv (M 102) w (n + 1)) := fun n v hv => by
      rw [zup_zov, ← hv]
      rfl
    have z0 : zmk M J X = zmk (zov M 102 (zwv (M 102) w 0)) J X := by
      show _ = zmk (zov M 102 (M 102)) J X
      rw [zov_self]
    have c71 : (M 71 (Int32.ofNat b).toNatClampNeg).toNatClampNeg = nv (V 71 b) := by
      rw [i32_clamp (by omega), e71]
      rfl
    have c113 : M 113 (Int32.ofNat p).toNatClampNeg = x.2.1 := by
      rw [i32_clamp (by omega)]
      exact h113
    have st0 : zup (zov M 102 (zwv (M 102) w 0)) 102 0 (zov M 102 (zwv (M 102) w 0) 69 ((zov M 102 (zwv (M 102) w 0) 71 (Int32.ofNat b).toNatClampNeg).toNatClampNeg)) = zov M 102 (zwv (M 102) w 1) := zv 0 _ (by
      show _ = M 69 ((M 71 (Int32.ofNat b).toNatClampNeg).toNatClampNeg)
      rw [c71, row 69 (by decide) (by decide) (by decide), hw]
      rfl)
    have st1 : zup (zov M 102 (zwv (M 102) w 1)) 102 1 (zov M 102 (zwv (M 102) w 1) 70 ((zov M 102 (zwv (M 102) w 1) 71 (Int32.ofNat b).toNatClampNeg).toNatClampNeg)) = zov M 102 (zwv (M 102) w 2) := zv 1 _ (by
      show _ = M 70 ((M 71 (Int32.ofNat b).toNatClampNeg).toNatClampNeg)
      rw [c71, row 70 (by decide) (by decide) (by decide), hw]
      rfl)
    have st2 : zup (zov M 102 (zwv (M 102) w 2)) 102 2 (zov M 102 (zwv (M 102) w 2) 66 (Int32.ofNat x.1).toNatClampNeg) = zov M 102 (zwv (M 102) w 3) := zv 2 _ (by
      show _ = M 66 (Int32.ofNat x.1).toNatClampNeg
      rw [i32_clamp (by omega), row 66 (by decide) (by decide) (by decide), hw]
      rfl)
    have st3 : zup (zov M 102 (zwv (M 102) w 3)) 102 3 ((zov M 102 (zwv (M 102) w 3) 113 (Int32.ofNat p).toNatClampNeg - zov M 102 (zwv (M 102) w 3) 113 (Int32.ofNat p).toNatClampNeg / (1440 : Int32) * (1440 : Int32)) / (60 : Int32)) = zov M 102 (zwv (M 102) w 4) := zv 3 _ (by
      show _ = (M 113 (Int32.ofNat p).toNatClampNeg - M 113 (Int32.ofNat p).toNatClampNeg / (1440 : Int32) * (1440 : Int32)) / (60 : Int32)
      rw [c113, hw]
      rfl)
    have st4 : zup (zov M 102 (zwv (M 102) w 4)) 102 4 (zov M 102 (zwv (M 102) w 4) 113 (Int32.ofNat p).toNatClampNeg / (1440 : Int32) - zov M 102 (zwv (M 102) w 4) 113 (Int32.ofNat p).toNatClampNeg / (1440 : Int32) / (7 : Int32) * (7 : Int32)) = zov M 102 (zwv (M 102) w 5) := zv 4 _ (by
      show _ = M 113 (Int32.ofNat p).toNatClampNeg / (1440 : Int32) - M 113 (Int32.ofNat p).toNatClampNeg / (1440 : Int32) / (7 : Int32) * (7 : Int32)
      rw [c113, hw]
      rfl)
    have st5 : zup (zov M 102 (zwv (M 102) w 5)) 102 5 (zov M 102 (zwv (M 102) w 5) 67 (Int32.ofNat x.1).toNatClampNeg) = zov M 102 (zwv (M 102) w 6) := zv 5 _ (by
      show _ = M 67 (Int32.ofNat x.1).toNatClampNeg
      rw [i32_clamp (by omega), row 67 (by decide) (by decide) (by decide), hw]
      rfl)
    have st6 : zup (zov M 102 (zwv (M 102) w 6)) 102 6 (zov M 102 (zwv (M 102) w 6) 116 (Int32.ofNat p).toNatClampNeg) = zov M 102 (zwv (M 102) w 7) := zv 6 _ (by
      show _ = M 116 (Int32.ofNat p).toNatClampNeg
      rw [i32_clamp (by omega), h116, hw]
      rfl)
    rw [T195_neg xs L (d + 3) M J X _ _ _ _ _ (nat_m1 (by omega)), z0, T195_c0 xs L (d + 3) (zov M 102 (zwv (M 102) w 0)) J X _ _ _ _ _ zb zlo, st0, T195_c1 xs L (d + 3) (zov M 102 (zwv (M 102) w 1)) J X _ _ _ _ _ zb zlo, st1, T195_c2 xs L (d + 3) (zov M 102 (zwv (M 102) w 2)) J X _ _ _ _ _ zr, st2, T195_c3 xs L (d + 3) (zov M 102 (zwv (M 102) w 3)) J X _ _ _ _ _ zp, st3, T195_c4 xs L (d + 3) (zov M 102 (zwv (M 102) w 4)) J X _ _ _ _ _ zp, st4, T195_c5 xs L (d + 3) (zov M 102 (zwv (M 102) w 5)) J X _ _ _ _ _ zr, st5, T195_c6 xs L (d + 3) (zov M 102 (zwv (M 102) w 6)) J X _ _ _ _ _ zp, st6] at S
    have c114 : zov M 102 (zwv (M 102) w 7) 114 (Int32.ofNat p).toNatClampNeg = x.2.2.1 := by
      rw [i32_clamp (by omega)]
      exact h114
    have S8 : zev xs L (d + 3 + 5 + 1) 195 [.ref 61, .int (Int32.ofNat b), .int (Int32.ofNat p), .int k] (zmk (zov M 102 (zwv (M 102) w 0)) J X) = zgo xs L (d + 3 + 5) 195 5 [(0, .ref 61), (1, .int (Int32.ofNat b)), (2, .int (Int32.ofNat p)), (3, .int k), (4, .int (Int32.ofNat x.1)), (5, .int (Int32.ofNat y)), (6, .int (-1)), (7, .int (Int32.ofNat 0))] (zmk (zov M 102 (zwv (M 102) w 8)) J X) := by
      by_cases c : x.2.2.1 = -1
      · rw [T195_g xs L (d + 3) (zov M 102 (zwv (M 102) w 7)) J X _ _ _ _ _ zp (c114.trans c), zv 7 1 (by rw [hw]; exact if_pos c)] at S
        exact S
      · rw [T195_e xs L (d + 3) (zov M 102 (zwv (M 102) w 7)) J X _ _ _ _ _ zp (fun z => c (c114.symm.trans z)), zv 7 0 (by rw [hw]; exact if_neg c)] at S
        exact S
    obtain ⟨ρ, O, hTm, hTx⟩ := hT l (by omega)
    rw [← hm] at hTx
    obtain ⟨_, ⟨t1, t2, t3⟩, t7⟩ := hTx j hj
    rw [← hy] at t1 t2 t3 t7
    have g95 : zov M 102 (zwv (M 102) w 8) 95 y = Int32.ofNat (C y).length := by
      show M 95 y = _
      rw [row 95 (by decide) (by decide) (by decide)]
      exact t1
    have gmc : zMc (zov M 102 (zwv (M 102) w 8)) y 0 0 (C y) := zMc_eq (V := V) (M := zov M 102 (zwv (M 102) w 8)) (row 98 (by decide) (by decide) (by decide)) (row 99 (by decide) (by decide) (by decide)) (row 100 (by decide) (by decide) (by decide)) (row 101 (by decide) (by decide) (by decide)) y (C y) 0 0 t3
    obtain ⟨f', q⟩ := run_k xs L (d + 1) (zov M 102 (zwv (M 102) w 8)) J X (Int32.ofNat b) (Int32.ofNat p) k x.1 y (C y).length (by omega) hxi g95 t2 (C y) 0 0 (-1) none (zov M 102 (zwv (M 102) w 8) 103) gmc (Nat.zero_add _) t7 (Or.inl ⟨rfl, rfl⟩)
    rw [zov_self] at q
    have ev : zmf (zov M 102 (zwv (M 102) w 8) 102) ((10 : Int32) * zov M 102 (zwv (M 102) w 8) 66 x.1) none (C y) = zchg (zvv V b x g) ((10 : Int32) * V 66 x.1) (C y) := by
      rw [zmf_chg, zov_at]
      show zchg (zwv (M 102) w 8) ((10 : Int32) * M 66 x.1) (C y) = _
      rw [row 66 (by decide) (by decide) (by decide), zchg_vc (g := zvv V b x g) (fun j hj => by rw [zwv_at hj, hw]) (C y)]
    rw [ev] at q
    refine ⟨zov (zov M 102 (zwv (M 102) w 8)) 103 f', ?_, zfr8_ov (zfr8_ov zfr8_rfl (by decide) (by decide)) (by decide) (by decide)⟩
    rw [z0]
    exact S8.trans q
